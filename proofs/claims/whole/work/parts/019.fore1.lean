/-! the system's Forecast -/
theorem C_afterZ {G : q_G} {d : Nat} {M : q_Mem} {N : q_MemL} {a r n : Nat} {vs : List Value} {w : Int} (ha : isHome a) (hd : 3 ≤ d) (hM : Hrg M a) (hr : S0[r]? = some (20, n, vs)) (hn : 7 ≤ n ∧ n < 1000) (hw0 : 0 ≤ w ∧ w < 2147483648) (hv0 : Sok M r (M a 4).toNat) : AC0 G d m_X2_after [.ref a, I w, .ref r] M N (CV (PU (I (nxt M a w (M r))) M N)) := by
  refine AC.mono ?_ (C_after ha hd hM hr hn hw0 hv0)
  rintro v S' M' N' ⟨rfl, x, rfl, rfl, rfl, z, rfl, hz, hg⟩
  exact ⟨rfl, _, rfl, by rw [nxt_eq hM.2.1 hz hg], rfl, rfl⟩
/-- tell, said by toldV -/
theorem C_tellV {G : q_G} {d : Nat} {M : q_Mem} {N : q_MemL} {a r n : Nat} {vs : List Value} {b s : Int} (ha : isHome a) (hd : 2 ≤ d) (hM : Hrg M a) (hr : S0[r]? = some (20, n, vs)) (hn : 7 ≤ n ∧ n < 1000) (hra : r ≠ a ∧ r ≠ a + 4) (hb0 : 0 ≤ b ∧ b < 1000000) (hs : 0 ≤ s ∧ s < 2147483648) : AC0 G d m_X2_tell [.ref a, I b, I s, .ref r] M N (CN (fun M' N' => N' = N ∧ Exc [r] M M' ∧ (∀ q, q < (M a 4).toNat → M' r q = toldV M a b s q) ∧ ∀ q, (M a 4).toNat ≤ q → M' r q = M r q)) := by
  refine AC.mono ?_ (C_tell ha hd hM hr hn hra hb0 hs)
  rintro v S' M' N' ⟨rfl, rfl, rfl, rfl⟩
  refine ⟨rfl, rfl, rfl, fun a' h => ?_, fun q hq => ?_, fun q hq => ?_⟩
  · funext j
    simp only [List.mem_cons, List.not_mem_nil, or_false] at h
    simp [h]
  · simp [hq, toldV]
  · simp [Nat.not_lt.mpr hq]
theorem toldS {M M' : q_Mem} {a r : Nat} {b s : Int} (hM : Hrg M a) (h4 : M' a = M a) (h : ∀ q, q < (M a 4).toNat → M' r q = toldV M a b s q) : Sok M' r (M' a 4).toNat := by
  intro q hq
  rw [h4] at hq
  rw [h q hq]
  exact toldV_rng hM.2.2.2.2.2.2.2.2 q
theorem C_asTold {G : q_G} {d : Nat} {M : q_Mem} {N : q_MemL} {w : Int} {k : Nat} (hd : 4 ≤ d) (hM : Hrg M 3) (h11 : 0 ≤ M 3 11 ∧ M 3 11 ≤ 10000) (hk : k < 10000) (hw0 : 0 ≤ w ∧ w < 2147483648) : AC0 G d m_X1_asTold [.ref 91, I w, I k] M N (CV (fun x M' N' => x = I (nxt M 3 w (toldV M 3 (M 3 11 + k) 0)) ∧ N' = N ∧ Exc [92] M M')) := by
  have hH : isHome 3 := Or.inl rfl
  refine AC.of (L0 := [_, _, _]) pn_X1 (Nat.le_of_ble_eq_true rfl) rfl ?_
  refine st_aload_n dX1_asTold_0 rfl ?_
  refine st_getfr dX1_asTold_1 f_X1_18 (by first | assumption | rfl) (by rfl) ?_
  refine st_aload_n dX1_asTold_4 rfl ?_
  refine st_getfr dX1_asTold_5 f_X1_18 (by first | assumption | rfl) (by rfl) ?_
  refine st_getfi dX1_asTold_8 f_X1_32 (by first | assumption | rfl) (by rfl) ?_
  refine st_iload_n dX1_asTold_11 rfl ?_
  refine st_iadd dX1_asTold_12 ?_
  refine st_iconst dX1_asTold_13 ?_
  refine st_aload_n dX1_asTold_14 rfl ?_
  refine st_getfr dX1_asTold_15 f_X1_9 (by first | assumption | rfl) (by rfl) ?_
  refine c_V3v (d' := d - 1) dX1_asTold_18 l_X1_35 k_X2_tell i_X2_tell (Or.inl ⟨_, _, _, _, _, (by first | assumption | rfl), by rfl⟩) (by omega) (Nat.le_of_ble_eq_true rfl) (C_tellV hH (by omega) hM sh_92 (by decide) (by decide) (by omega) (by omega)) (fun M1 N1 hx => ?_)
  obtain ⟨rfl, hE, hv, -⟩ := hx
  have e3 := hE 3 (by decide)
  refine st_aload_n dX1_asTold_21 rfl ?_
  refine st_getfr dX1_asTold_22 f_X1_18 (by first | assumption | rfl) (by rfl) ?_
  refine st_iload_n dX1_asTold_25 rfl ?_
  refine st_aload_n dX1_asTold_26 rfl ?_
  refine st_getfr dX1_asTold_27 f_X1_9 (by first | assumption | rfl) (by rfl) ?_
  refine c_V2p (d' := d - 1) dX1_asTold_30 l_X1_39 k_X2_after i_X2_after (Or.inl ⟨_, _, _, _, _, (by first | assumption | rfl), by rfl⟩) (by omega) (Nat.le_of_ble_eq_true rfl) (C_afterZ hH (by omega) (hM.exc hE (by decide) (by decide) (by decide) (by decide)) sh_92 (by decide) hw0 (toldS hM e3 hv)) ?_
  exact r_i dX1_asTold_33 rfl ⟨by rw [← nxt_congr e3 (hE 4 (by decide)) (hE 6 (by decide)) (fun q hq => (hv q hq).symm)], rfl, hE⟩
theorem C_situationIn {G : q_G} {d : Nat} {M : q_Mem} {N : q_MemL} {n : Nat} (hd : 5 ≤ d) (hM : Hrg M 3) (h11 : 0 ≤ M 3 11 ∧ M 3 11 ≤ 10000) (h12 : 0 ≤ M 3 12 ∧ M 3 12 < 1073741824) (hn : n ≤ 200) : AC0 G d m_X1_situationIn [.ref 91, I n] M N (CV (fun x M' N' => x = I (fut M 3 n) ∧ N' = N ∧ Exc [92] M M')) := by
  refine AC.of (L0 := [_, _, none, none]) pn_X1 (Nat.le_of_ble_eq_true rfl) rfl ?_
  refine st_aload_n dX1_situationIn_0 rfl ?_
  refine st_getfr dX1_situationIn_1 f_X1_18 (by first | assumption | rfl) (by rfl) ?_
  refine st_getfi dX1_situationIn_4 f_X1_22 (by first | assumption | rfl) (by rfl) ?_
  refine st_istore_n (L' := [_, _, _, _]) dX1_situationIn_7 (by decide) rfl rfl ?_
  refine st_iconst dX1_situationIn_8 ?_
  refine st_istore_n (L' := [_, _, _, _]) dX1_situationIn_9 (by decide) rfl rfl ?_
  have loop : ∀ (q k : Nat) (M1 : q_Mem), k + q = n → Exc [92] M M1 → AW0 G d m_X1_situationIn 10 [some (.ref 91), some (I n), some (I (fut M 3 k)), some (I k)] [] M1 N (CV (fun x M' N' => x = I (fut M 3 n) ∧ N' = N ∧ Exc [92] M M')) := by
    intro q
    induction q with
    | zero =>
      intro k M1 hk hE
      refine st_iload_n dX1_situationIn_10 rfl ?_
      refine st_iload_n dX1_situationIn_11 rfl ?_
      refine st_icmp_ge (tgt := 28) dX1_situationIn_12 (by omega) (by omega) rfl (fun h => ?_) (fun h => ?_)
      · refine st_iload_n dX1_situationIn_28 rfl ?_
        exact r_i dX1_situationIn_29 rfl ⟨by rw [show k = n by omega], rfl, hE⟩
      · skip
        omega
    | succ q ih =>
      intro k M1 hk hE
      have e3 := hE 3 (by decide)
      have hf := fut_rng hM.2.1 h12 k
      refine st_iload_n dX1_situationIn_10 rfl ?_
      refine st_iload_n dX1_situationIn_11 rfl ?_
      refine st_icmp_ge (tgt := 28) dX1_situationIn_12 (by omega) (by omega) rfl (fun h => ?_) (fun h => ?_)
      · skip
        omega
      · refine st_aload_n dX1_situationIn_15 rfl ?_
        refine st_iload_n dX1_situationIn_16 rfl ?_
        refine st_iload_n dX1_situationIn_17 rfl ?_
        refine c_V2i (d' := d - 1) dX1_situationIn_18 l_X1_28 k_X1_asTold i_X1_asTold (Or.inl ⟨_, _, _, _, _, (by first | assumption | rfl), by rfl⟩) (by omega) (Nat.le_of_ble_eq_true rfl) (C_asTold (by omega) (hM.exc hE (by decide) (by decide) (by decide) (by decide)) (by rw [e3]; exact h11) (by omega) (by omega)) (fun x M2 N2 hx => ?_)
        obtain ⟨rfl, rfl, hE2⟩ := hx
        refine st_istore_n (L' := [_, _, _, _]) dX1_situationIn_21 (by decide) rfl rfl ?_
        refine st_iinc (L' := [_, _, _, _]) dX1_situationIn_22 rfl (by decide) rfl rfl ?_
        refine st_goto (tgt := 10) dX1_situationIn_25 rfl ?_
        refine AW.to (ih (k + 1) M2 (by omega) (hE.tr hE2)) (h2 := ?_)
        rw [show fut M 3 (k + 1) = nxt M 3 (fut M 3 k) (toldV M 3 (M 3 11 + k) 0) from rfl, toldV_congr e3 (hE 7 (by decide)), e3, ← nxt_congr e3 (hE 4 (by decide)) (hE 6 (by decide)) (fun _ _ => rfl)]
        simp
  exact loop n 0 M (by omega) Exc.rf


/-! the reference's run -/
def BeR (M M1 : q_Mem) : Prop := Exc [112, 113, 115, 116, 120, 143, 144, 147] M M1 ∧ (∀ j, ¬ j = 45 → M1 112 j = M 112 j) ∧ ∀ j, ¬ j = 6 → M1 113 j = M 113 j
theorem ruM_Zd {R X : q_Mem} {o : Nat} (hX : NowOk X) : Zd (X 3 4).toNat (X 3 5).toNat (ruM R o X 3 12) := by
  have h := Zd_nxt (B := strM R o X) hX.str.2.2.2.1 (X 3 12) (sngV R o X)
  rw [show strM R o X 3 4 = X 3 4 by unfold strM; simp [q_up], show strM R o X 3 5 = X 3 5 by unfold strM; simp [q_up]] at h
  rw [show ruM R o X 3 12 = nxt (strM R o X) 3 (X 3 12) (sngV R o X) by unfold ruM; simp [q_up]]
  exact h
theorem full_run {R B V V1 : q_Mem} {o m : Nat} (hF : FullR B V) (hb : B 3 11 + ((m + 1 : Nat) : Int) ≤ 9999) (hR : RN (ruN R o B (m + 1)) V1) (h45 : V1 112 45 = 0) (h8 : V1 113 8 = V 113 8) : FullR (q_up (ruN R o B (m + 1)) 3 15 0) V1 := by
  obtain ⟨hN, e8, hz, hri, -⟩ := hF
  have hX := NowOk.ruN (R := R) (o := o) hN.1 m (by omega)
  have g : ∀ j, ¬ j = 11 → ¬ j = 12 → ¬ j = 13 → ruN R o B (m + 1) 3 j = B 3 j := fun j a b c => ruN_f a b c (m + 1)
  have f : ∀ j, ¬ j = 15 → q_up (ruN R o B (m + 1)) 3 15 0 3 j = ruN R o B (m + 1) 3 j := fun j hj => by simp [q_up, hj]
  have r : ∀ a, a ≠ 3 → q_up (ruN R o B (m + 1)) 3 15 0 a = ruN R o B (m + 1) a := fun a ha => q_up_ne ha
  have f4 := f 4 (by decide)
  have f5 := f 5 (by decide)
  have f15 : q_up (ruN R o B (m + 1)) 3 15 0 3 15 = 0 := by simp [q_up]
  refine ⟨⟨hR.1.f15 (by omega), ?_, ?_, ?_, ?_⟩, ?_, ?_, ?_, fun k hk => ?_, ?_, fun _ j => q_up (ruN R o B (m + 1)) 3 15 0 7 j, fun j _ => rfl, fun k hk => ?_, fun k hk => ?_⟩
  · refine hR.2.1.home (fun j hj => f j ?_) (r 4 (by decide)) (r 5 (by decide)) (r 6 (by decide)) (r 9 (by decide)) (fun q' h' hq' hh' => by rw [r 7 (by decide)]; exact (hR.2.1.2.2.1 q' hq').1 h' hh')
    intro e; subst e; simp at hj
  · rw [f 13 (by decide)]
    exact hR.2.2.1.home ⟨f4, f5⟩
  · rw [f 12 (by decide)]
    exact hR.2.2.2.1.home ⟨f4, f5⟩
  · rw [f 11 (by decide)]
    exact hR.2.2.2.2
  · rw [h8, f 18 (by decide), g 18 (by decide) (by decide) (by decide)]
    exact e8
  · rw [f4, f5, f 12 (by decide)]
    have h := ruM_Zd (R := R) (o := o) hX
    rw [show ruN R o B m 3 4 = ruN R o B (m + 1) 3 4 by rw [g 4 (by decide) (by decide) (by decide)]; exact ruN_f (by decide) (by decide) (by decide) m, show ruN R o B m 3 5 = ruN R o B (m + 1) 3 5 by rw [g 5 (by decide) (by decide) (by decide)]; exact ruN_f (by decide) (by decide) (by decide) m] at h
    exact h
  · rw [f 3 (by decide), g 3 (by decide) (by decide) (by decide), r 4 (by decide), ruN_row (by decide)]
    exact hri
  · rw [f15] at hk
    exact absurd hk (Nat.not_lt_zero _)
  · rw [h45, f15]
  · rw [f15] at hk
    exact absurd hk (Nat.not_lt_zero _)
  · rw [f15] at hk
    exact absurd hk (Nat.not_lt_zero _)
theorem C_isRule {G : q_G} {d : Nat} {M : q_Mem} {N : q_MemL} {r z : Int} (hd : 1 ≤ d) (h24 : M 112 24 = z) (hz : 0 ≤ z ∧ z ≤ 6) (hr : i32 r) : AC0 G d m_X11_isRule [.ref 112, I r] M N (CV (PU (Bz (0 ≤ r ∧ r < z)) M N)) := by
  unfold i32 at hr
  refine AC.of (L0 := [_, _]) pn_X11 (Nat.le_of_ble_eq_true rfl) rfl ?_
  refine st_iload_n dX11_isRule_0 rfl ?_
  refine st_i2lK dX11_isRule_1 (by omega) ?_
  refine st_lc0K dX11_isRule_2 ?_
  refine st_aload_n dX11_isRule_3 rfl ?_
  refine st_getfi dX11_isRule_4 f_X11_372 (by first | with_reducible assumption | rfl) (by rfl) ?_
  refine st_iconst dX11_isRule_7 ?_
  refine st_isub dX11_isRule_8 ?_
  rw [h24]
  refine st_i2lK dX11_isRule_9 (by omega) ?_
  refine c_S3p (d' := d - 1) dX11_isRule_10 l_X11_182 k_X11_in s_X11_in (by omega) (Nat.le_of_ble_eq_true rfl) (C_in (by omega) (by decide) (by omega)) ?_
  by_cases c : 0 ≤ r ∧ r < z
  · refine r_z dX11_isRule_13 rfl (by first | omega | (split <;> decide)) ⟨?_, rfl, rfl⟩
    unfold Bz
    rw [if_pos c, if_pos (show 0 ≤ r ∧ r ≤ z - 1 by omega)]
  · refine r_z dX11_isRule_13 rfl (by first | omega | (split <;> decide)) ⟨?_, rfl, rfl⟩
    unfold Bz
    rw [if_neg c, if_neg (show ¬ (0 ≤ r ∧ r ≤ z - 1) by omega)]
theorem C_rrun {G : q_G} {d : Nat} {B M : q_Mem} {N : q_MemL} {r n : Int} (hd : 6 ≤ d) (hF : FullR B M) (h24 : M 112 24 = B 0 6) (h6 : 0 ≤ B 0 6 ∧ B 0 6 ≤ 6) (hC : ∀ k : Nat, (k : Int) < B 0 6 → RuC B (47 + 6 * k) ∧ RuR B M k) (hr : i32 r) (hn : i32 n) : AC0 G d m_X11_run [.ref 112, I r, I n] M N (CV (fun x M' N' => (∀ a, ¬ a = 141 → ¬ a = 142 → N' a = N a) ∧ ((¬ runOk B r n ∧ x = I (-1) ∧ M' = M) ∨ (runOk B r n ∧ x = I (B 3 11 + n) ∧ FullR (q_up (ruN B (47 + 6 * r.toNat) B n.toNat) 3 15 0) M' ∧ BeR M M')))) := by
  have hrr := hr
  have hnn := hn
  unfold i32 at hrr hnn
  obtain ⟨hN0, e8, hz, hri, hpo, hhi⟩ := id hF
  obtain ⟨hB, hT, hP, hW, hb6⟩ := id hN0
  obtain ⟨h0, h1, h2, h3, h4, h5, h6', h11, h12, h13, h15, -⟩ := id hB
  have no : ¬ runOk B r n → AW0 G d m_X11_run 42 [some (.ref 112), some (I r), some (I n), none] [] M N (CV (fun x M' N' => (∀ a, ¬ a = 141 → ¬ a = 142 → N' a = N a) ∧ ((¬ runOk B r n ∧ x = I (-1) ∧ M' = M) ∨ (runOk B r n ∧ x = I (B 3 11 + n) ∧ FullR (q_up (ruN B (47 + 6 * r.toNat) B n.toNat) 3 15 0) M' ∧ BeR M M')))) := by
    intro h
    refine st_iconst dX11_run_42 ?_
    exact r_i dX11_run_43 rfl ⟨fun _ _ _ => rfl, Or.inl ⟨h, rfl, rfl⟩⟩
  refine AC.of (L0 := [_, _, _, none]) pn_X11 (Nat.le_of_ble_eq_true rfl) rfl ?_
  refine st_aload_n dX11_run_0 rfl ?_
  refine c_V0p (d' := d - 1) dX11_run_1 l_X11_186 k_X11_isHouse i_X11_isHouse (Or.inl ⟨_, _, _, _, _, (by first | with_reducible assumption | rfl), by rfl⟩) (by omega) (Nat.le_of_ble_eq_true rfl) (C_isHouse hB hT) ?_
  refine b_eq (tgt := 42) dX11_run_4 rfl (fun c1 => ?_) (fun c1 => ?_)
  · skip
    exact no (fun z => c1 z.2.2.1)
  · refine st_aload_n dX11_run_7 rfl ?_
    refine st_iload_n dX11_run_8 rfl ?_
    refine c_V1p (d' := d - 1) dX11_run_9 l_X11_472 k_X11_isRule i_X11_isRule (Or.inl ⟨_, _, _, _, _, (by first | with_reducible assumption | rfl), by rfl⟩) (by omega) (Nat.le_of_ble_eq_true rfl) (C_isRule (by omega) h24 h6 hr) ?_
    refine b_eq (tgt := 42) dX11_run_12 rfl (fun c2 => ?_) (fun c2 => ?_)
    · skip
      exact no (fun z => c2 z.1)
    · refine st_iload_n dX11_run_15 rfl ?_
      refine st_i2lK dX11_run_16 (by omega) ?_
      refine st_lc1K dX11_run_17 ?_
      refine st_ldc2 dX11_run_18 l_X11_475 ?_
      refine AW.topv (show _ = J 100 from rfl) ?_
      refine c_S3p (d' := d - 1) dX11_run_21 l_X11_182 k_X11_in s_X11_in (by omega) (Nat.le_of_ble_eq_true rfl) (C_in (by omega) (by decide) (by decide)) ?_
      refine b_eq (tgt := 42) dX11_run_24 rfl (fun c3 => ?_) (fun c3 => ?_)
      · skip
        exact no (fun z => c3 z.2.1)
      · refine st_aload_n dX11_run_27 rfl ?_
        refine st_getfr dX11_run_28 f_X11_9 (by first | with_reducible assumption | rfl) (by rfl) ?_
        refine st_bipush dX11_run_31 (by decide) ?_
        refine st_ialdK (k' := 6) dX11_run_33 (by first | with_reducible assumption | rfl) rfl (by omega) (hn := by first | decide | omega) ?_
        rw [hb6]
        refine st_iload_n dX11_run_34 rfl ?_
        refine st_iadd dX11_run_35 ?_
        refine st_sipush dX11_run_36 (by decide) ?_
        refine st_icmp_le (tgt := 44) dX11_run_39 (by omega) (by omega) rfl (fun c4 => ?_) (fun c4 => ?_)
        · refine st_aload_n dX11_run_44 rfl ?_
          refine st_iconst dX11_run_45 ?_
          refine st_putfi dX11_run_46 w_X11_357 (by first | with_reducible assumption | rfl) (by rfl) rfl rfl ?_
          refine st_iconst dX11_run_49 ?_
          refine st_istore_n (L' := [_, _, _, _]) dX11_run_50 (by decide) rfl rfl ?_
          obtain ⟨q, rfl⟩ : ∃ q : Nat, r = q := ⟨r.toNat, by omega⟩
          obtain ⟨m0, rfl⟩ : ∃ m0 : Nat, n = ((m0 + 1 : Nat) : Int) := ⟨(n - 1).toNat, by omega⟩
          rw [Int.toNat_natCast] at *
          rw [Int.toNat_natCast]
          have hok : runOk B q ((m0 + 1 : Nat) : Int) := ⟨c2, c3, c1, by omega⟩
          obtain ⟨hCq, hRq⟩ := hC q (by omega)
          have loop : ∀ (m k : Nat) (M2 : q_Mem) (N2 : q_MemL), k + m = m0 + 1 → RN (ruN B (47 + 6 * q) B k) M2 → M2 112 45 = 0 → BeR M M2 → (∀ a, ¬ a = 141 → ¬ a = 142 → N2 a = N a) → AW0 G d m_X11_run 51 [some (.ref 112), some (I q), some (I ((m0 + 1 : Nat) : Int)), some (I k)] [] M2 N2 (CV (fun x M' N' => (∀ a, ¬ a = 141 → ¬ a = 142 → N' a = N a) ∧ ((¬ runOk B q ((m0 + 1 : Nat) : Int) ∧ x = I (-1) ∧ M' = M) ∨ (runOk B q ((m0 + 1 : Nat) : Int) ∧ x = I (B 3 11 + ((m0 + 1 : Nat) : Int)) ∧ FullR (q_up (ruN B (47 + 6 * q) B (m0 + 1)) 3 15 0) M' ∧ BeR M M')))) := by
            intro m
            induction m with
            | zero =>
              intro k M2 N2 hk hR hz45 hE hN2
              have hk2 : k = m0 + 1 := by omega
              subst hk2
              refine st_iload_n dX11_run_51 rfl ?_
              refine st_iload_n dX11_run_52 rfl ?_
              refine st_icmp_ge (tgt := 67) dX11_run_53 (by omega) (by omega) rfl (fun c5 => ?_) (fun c5 => ?_)
              · refine st_aload_n dX11_run_67 rfl ?_
                refine st_getfr dX11_run_68 f_X11_9 (by first | with_reducible assumption | rfl) (by rfl) ?_
                refine st_bipush dX11_run_71 (by decide) ?_
                refine st_ialdK (k' := 6) dX11_run_73 (by first | with_reducible assumption | rfl) rfl (by omega) (hn := by first | decide | omega) ?_
                rw [hR.2.2.2.2, ruN_11]
                refine r_i dX11_run_74 rfl ⟨hN2, Or.inr ⟨hok, rfl, full_run hF (by omega) hR hz45 (hE.2.2 8 (by decide)), hE⟩⟩
              · skip
                omega
            | succ m ih =>
              intro k M2 N2 hk hR hz45 hE hN2
              refine st_iload_n dX11_run_51 rfl ?_
              refine st_iload_n dX11_run_52 rfl ?_
              refine st_icmp_ge (tgt := 67) dX11_run_53 (by omega) (by omega) rfl (fun c5 => ?_) (fun c5 => ?_)
              · skip
                omega
              · refine st_aload_n dX11_run_56 rfl ?_
                refine st_iload_n dX11_run_57 rfl ?_
                refine c_V1v (d' := d - 1) dX11_run_58 l_X11_477 k_X11_beatBy i_X11_beatBy (Or.inl ⟨_, _, _, _, _, (by first | with_reducible assumption | rfl), by rfl⟩) (by omega) (Nat.le_of_ble_eq_true rfl) (C_beatBy (R := B) (by omega) (by omega) hCq (hRq.exc hE.1 (by decide)) hR (by rw [ruN_f (by decide) (by decide) (by decide)]; exact c1) (by rw [ruN_11]; omega)) (fun M3 N3 hx => ?_)
                obtain ⟨hR3, hE3, hN3⟩ := hx
                refine st_iinc (L' := [_, _, _, _]) dX11_run_61 rfl (by decide) rfl rfl ?_
                refine st_goto (tgt := 51) dX11_run_64 rfl ?_
                refine AW.to (ih (k + 1) M3 N3 (by omega) hR3 (by rw [hE3.1 112 (by decide)]; exact hz45) ⟨hE.1.tr (hE3.1.sub (by decide)), fun j hj => by rw [hE3.1 112 (by decide)]; exact hE.2.1 j hj, fun j hj => by rw [hE3.2 j hj]; exact hE.2.2 j hj⟩ (fun a a1 a2 => (hN3 a a1 a2).trans (hN2 a a1 a2))) (h2 := by simp)
          refine AW.to (loop (m0 + 1) 0 (q_up M 112 45 0) N (by omega) (hN0.exc (Exc.up (L := [112]) (by decide)) (by decide)) (by simp [q_up]) ⟨Exc.up (by decide), fun j hj => by simp [q_up, hj], fun j _ => by rw [q_up_ne (by decide)]⟩ (fun _ _ _ => rfl)) (h2 := rfl)
        · skip
          exact no (fun z => c4 (by have := z.2.2.2; omega))


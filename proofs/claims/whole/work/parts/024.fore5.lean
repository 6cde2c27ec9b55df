/-! the system's Forecast: who must hush -/
def firstF (f : Nat → Int) : Nat → Nat → Int
  | 0, _ => -1
  | n + 1, k => if f k = -1 then firstF f n (k + 1) else f k
theorem firstF_rng {f : Nat → Int} {c : Int} : ∀ {n k : Nat}, 0 < c → (∀ j, k ≤ j → j < k + n → -1 ≤ f j ∧ f j < c) → -1 ≤ firstF f n k ∧ firstF f n k < c
  | 0, _, h0, _ => by unfold firstF; omega
  | n + 1, k, h0, h => by
    have h1 := firstF_rng (n := n) (k := k + 1) h0 (fun j h1 h2 => h j (by omega) (by omega))
    have h2 := h k (by omega) (by omega)
    unfold firstF
    split
    · exact h1
    · exact h2
theorem firstF_found {f : Nat → Int} : ∀ {n k j : Nat}, k ≤ j → j < k + n → f j ≠ -1 → firstF f n k ≠ -1
  | 0, _, _, h1, h2, _ => absurd h2 (by omega)
  | n + 1, k, j, h1, h2, h3 => by
    unfold firstF
    split
    · next q =>
      by_cases e : j = k
      · subst e; exact absurd q h3
      · exact firstF_found (n := n) (k := k + 1) (j := j) (by omega) (by omega) h3
    · next q => exact q
def orb (s : Int) (p : Nat) : Int := ((s.toNat ||| 2 ^ p : Nat) : Int)
theorem orb_rng {s : Int} {p : Nat} (hs : 0 ≤ s ∧ s < 128) (hp : p < 7) : 0 ≤ orb s p ∧ orb s p < 128 := by
  have h : 2 ^ p < 2 ^ 7 := Nat.pow_lt_pow_right (by omega) hp
  have := Nat.or_lt_two_pow (x := s.toNat) (y := 2 ^ p) (n := 7) (by omega) h
  unfold orb
  omega
theorem orb_bit (s : Int) (p j : Nat) : (orb s p).toNat.testBit j = (s.toNat.testBit j || decide (p = j)) := by
  unfold orb
  rw [Int.toNat_natCast, Nat.testBit_or, Nat.testBit_two_pow]
theorem z_set {s : Int} {p : Nat} (hs : 0 ≤ s) (hp : p < 32) : zi s ||| (zi 1 <<< (zi p &&& 31)) = zi (orb s p) := by
  rw [z_toN hs, show (1 : Int) = ((1 : Nat) : Int) from rfl, zi_shl _ _ hp, zi_or, Nat.one_mul]
  rfl
theorem n_or8 {r p : Nat} (hp : p < 8) : r * 2 ^ 3 ||| p = r * 8 + p := by
  rw [← Nat.shiftLeft_eq, ← Nat.shiftLeft_add_eq_or_of_lt (by omega : p < 2 ^ 3), Nat.shiftLeft_eq]
theorem z_app {r : Int} {p : Nat} (hr : 0 ≤ r) (hp : p < 8) : (zi r <<< (zi 3 &&& 31)) ||| zi p = zi (r * 8 + p) := by
  rw [z_toN hr, show (3 : Int) = ((3 : Nat) : Int) from rfl, zi_shl _ _ (by omega), zi_or, n_or8 hp]
  congr 1
abbrev allD (M : q_Mem) (w : Int) : Prop := ∀ q, q < (M 3 4).toNat → g8 w q = 0
def fstO (M : q_Mem) : Nat → Nat → Int → Int → Int
  | 0, _, _, w => if allD M w then 0 else -1
  | m + 1, done, s, w => firstF (fun p => if s.toNat.testBit p = true then -1 else if fstO M m (done + 1) (orb s p) (nxt M 3 w (toldV M 3 (M 3 11 + done) (orb s p))) = -1 then -1 else fstO M m (done + 1) (orb s p) (nxt M 3 w (toldV M 3 (M 3 11 + done) (orb s p))) * 8 + p) (M 3 4).toNat 0
theorem fstO_rng {M : q_Mem} (h4 : 0 ≤ M 3 4 ∧ M 3 4 ≤ 7) : ∀ m done s w, -1 ≤ fstO M m done s w ∧ fstO M m done s w < ((8 ^ m : Nat) : Int)
  | 0, _, _, w => by
    unfold fstO
    split <;> simp
  | m + 1, done, s, w => by
    unfold fstO
    refine firstF_rng (by have := Nat.pow_pos (n := m + 1) (show 0 < 8 by omega); omega) (fun j h1 h2 => ?_)
    have h3 := fstO_rng h4 m (done + 1) (orb s j) (nxt M 3 w (toldV M 3 (M 3 11 + done) (orb s j)))
    have h5 := Nat.pow_pos (n := m) (show 0 < 8 by omega)
    rw [Nat.pow_succ]
    show -1 ≤ ite _ _ (ite _ _ _) ∧ ite _ _ (ite _ _ _) < _
    split
    · omega
    · split
      · omega
      · omega
theorem C_firstOrder {G : q_G} {N : q_MemL} {M : q_Mem} (hM : Hrg M 3) (h11 : 0 ≤ M 3 11 ∧ M 3 11 ≤ 10000) {b : Nat} (hb : b ≤ 7) : ∀ (m done : Nat) {d : Nat} {s w : Int} {M1 : q_Mem}, done + m = b → 5 + m ≤ d → 0 ≤ s ∧ s < 128 → 0 ≤ w ∧ w < 1073741824 → Exc [92] M M1 → AC0 G d m_X1_firstOrder [.ref 3, .ref 92, I done, I s, I w, I b] M1 N (CV (fun x M' N' => x = I (fstO M m done s w) ∧ N' = N ∧ Exc [92] M M')) := by
  have hH : isHome 3 := Or.inl rfl
  have h4 := hM.2.2.1
  intro m
  induction m with
  | zero =>
    intro done d s w M1 hdn hd hs hw hE
    have e3 := hE 3 (by decide)
    refine AC.of (L0 := [_, _, _, _, _, _, none, none, none]) pn_X1 (Nat.le_of_ble_eq_true rfl) rfl ?_
    refine st_iload_n dX1_firstOrder_0 rfl ?_
    refine st_iload dX1_firstOrder_1 rfl ?_
    refine st_icmp_lt (tgt := 21) dX1_firstOrder_3 (by omega) (by omega) rfl (fun h => ?_) (fun h => ?_)
    · skip
      omega
    · refine st_aload_n dX1_firstOrder_6 rfl ?_
      refine st_iload dX1_firstOrder_7 rfl ?_
      refine c_S2p (d' := d - 1) dX1_firstOrder_9 l_X1_102 k_X1_allDown s_X1_allDown (by omega) (Nat.le_of_ble_eq_true rfl) (C_allDown (by omega) (by rw [e3]; exact h4) hw) ?_
      rw [e3]
      refine b_eq (tgt := 19) dX1_firstOrder_12 rfl (fun h2 => ?_) (fun h2 => ?_)
      · refine st_iconst dX1_firstOrder_19 ?_
        exact r_i dX1_firstOrder_20 rfl ⟨by unfold fstO; rw [if_neg h2], rfl, hE⟩
      · refine st_iconst dX1_firstOrder_15 ?_
        refine st_goto (tgt := 20) dX1_firstOrder_16 rfl ?_
        exact r_i dX1_firstOrder_20 rfl ⟨by unfold fstO; rw [if_pos h2], rfl, hE⟩
  | succ m ihm =>
    intro done d s w M1 hdn hd hs hw hE
    refine AC.of (L0 := [_, _, _, _, _, _, none, none, none]) pn_X1 (Nat.le_of_ble_eq_true rfl) rfl ?_
    refine st_iload_n dX1_firstOrder_0 rfl ?_
    refine st_iload dX1_firstOrder_1 rfl ?_
    refine st_icmp_lt (tgt := 21) dX1_firstOrder_3 (by omega) (by omega) rfl (fun h => ?_) (fun h => ?_)
    · refine st_iconst dX1_firstOrder_21 ?_
      refine st_istore (L' := [_, _, _, _, _, _, _, _, _]) dX1_firstOrder_22 (by decide) rfl rfl ?_
      have loop : ∀ (q k : Nat) (M1 : q_Mem), k + q = (M 3 4).toNat → Exc [92] M M1 → firstF (fun p => if s.toNat.testBit p = true then -1 else if fstO M m (done + 1) (orb s p) (nxt M 3 w (toldV M 3 (M 3 11 + done) (orb s p))) = -1 then -1 else fstO M m (done + 1) (orb s p) (nxt M 3 w (toldV M 3 (M 3 11 + done) (orb s p))) * 8 + p) q k = fstO M (m + 1) done s w → {l7 l8 : Option Value} → AW0 G d m_X1_firstOrder 24 [some (.ref 3), some (.ref 92), some (I done), some (I s), some (I w), some (I b), some (I k), l7, l8] [] M1 N (CV (fun x M' N' => x = I (fstO M (m + 1) done s w) ∧ N' = N ∧ Exc [92] M M')) := by
        intro q
        induction q with
        | zero =>
          intro k M1 hk hE hF l7 l8
          have e3 := hE 3 (by decide)
          refine st_iload dX1_firstOrder_24 rfl ?_
          refine st_aload_n dX1_firstOrder_26 rfl ?_
          refine st_getfi dX1_firstOrder_27 f_X1_62 (by first | assumption | rfl) (by rfl) ?_
          rw [e3]
          refine st_icmp_ge (tgt := 104) dX1_firstOrder_30 (by omega) (by omega) rfl (fun h7 => ?_) (fun h7 => ?_)
          · refine st_iconst dX1_firstOrder_104 ?_
            exact r_i dX1_firstOrder_105 rfl ⟨by rw [← hF]; rfl, rfl, hE⟩
          · skip
            omega
        | succ q ih =>
          intro k M1 hk hE hF l7 l8
          have e3 := hE 3 (by decide)
          have ho := orb_rng (s := s) (p := k) hs (by omega)
          unfold firstF at hF
          refine st_iload dX1_firstOrder_24 rfl ?_
          refine st_aload_n dX1_firstOrder_26 rfl ?_
          refine st_getfi dX1_firstOrder_27 f_X1_62 (by first | assumption | rfl) (by rfl) ?_
          rw [e3]
          refine st_icmp_ge (tgt := 104) dX1_firstOrder_30 (by omega) (by omega) rfl (fun h7 => ?_) (fun h7 => ?_)
          · skip
            omega
          · refine st_iload_n dX1_firstOrder_33 rfl ?_
            refine st_iload dX1_firstOrder_34 rfl ?_
            refine c_S2p (d' := d - 1) dX1_firstOrder_36 l_X1_106 k_X10_has s_X10_has (by omega) (Nat.le_of_ble_eq_true rfl) (C_has (by omega) (by omega)) ?_
            refine b_ne (tgt := 98) dX1_firstOrder_39 rfl (fun h8 => ?_) (fun h8 => ?_)
            · refine st_iinc (L' := [_, _, _, _, _, _, _, _, _]) dX1_firstOrder_98 rfl (by decide) rfl rfl ?_
              refine st_goto (tgt := 24) dX1_firstOrder_101 rfl ?_
              rw [if_pos (by simp [h8])] at hF
              refine AW.to (ih (k + 1) M1 (by omega) hE hF (l7 := l7) (l8 := l8)) (h2 := by simp)
            · refine st_iload_n dX1_firstOrder_42 rfl ?_
              refine st_iconst dX1_firstOrder_43 ?_
              refine st_iload dX1_firstOrder_44 rfl ?_
              refine st_ishl dX1_firstOrder_46 ?_
              refine st_ior dX1_firstOrder_47 ?_
              refine AW.topv (show _ = I (orb s k) from congrArg Value.int (z_set hs.1 (by omega))) ?_
              refine st_istore (L' := [_, _, _, _, _, _, _, _, _]) dX1_firstOrder_48 (by decide) rfl rfl ?_
              refine st_aload_n dX1_firstOrder_50 rfl ?_
              refine st_aload_n dX1_firstOrder_51 rfl ?_
              refine st_getfi dX1_firstOrder_52 f_X1_32 (by first | assumption | rfl) (by rfl) ?_
              refine st_iload_n dX1_firstOrder_55 rfl ?_
              refine st_iadd dX1_firstOrder_56 ?_
              refine st_iload dX1_firstOrder_57 rfl ?_
              refine st_aload_n dX1_firstOrder_59 rfl ?_
              refine c_V3v (d' := d - 1) dX1_firstOrder_60 l_X1_35 k_X2_tell i_X2_tell (Or.inl ⟨_, _, _, _, _, (by first | assumption | rfl), by rfl⟩) (by omega) (Nat.le_of_ble_eq_true rfl) (C_tellV hH (by omega) (hM.exc hE (by decide) (by decide) (by decide) (by decide)) sh_92 (by decide) (by decide) (by rw [e3]; omega) (by omega)) (fun M2 N2 hx2 => ?_)
              obtain ⟨rfl, hE2, hv, -⟩ := hx2
              rw [toldV_congr e3 (hE 7 (by decide)), e3] at hv
              have hE3 := hE.tr hE2
              have e32 := hE3 3 (by decide)
              refine st_aload_n dX1_firstOrder_63 rfl ?_
              refine st_aload_n dX1_firstOrder_64 rfl ?_
              refine st_iload_n dX1_firstOrder_65 rfl ?_
              refine st_iconst dX1_firstOrder_66 ?_
              refine st_iadd dX1_firstOrder_67 ?_
              refine st_iload dX1_firstOrder_68 rfl ?_
              refine st_aload_n dX1_firstOrder_70 rfl ?_
              refine st_iload dX1_firstOrder_71 rfl ?_
              refine st_aload_n dX1_firstOrder_73 rfl ?_
              refine c_V2p (d' := d - 1) dX1_firstOrder_74 l_X1_39 k_X2_after i_X2_after (Or.inl ⟨_, _, _, _, _, (by first | assumption | rfl), by rfl⟩) (by omega) (Nat.le_of_ble_eq_true rfl) (C_afterZ hH (by omega) (hM.exc hE3 (by decide) (by decide) (by decide) (by decide)) sh_92 (by decide) (by omega) (fun q hq => by rw [e32] at hq; rw [hv q hq]; exact toldV_rng hM.2.2.2.2.2.2.2.2 q)) ?_
              rw [← nxt_congr (M := M) (v := toldV M 3 (M 3 11 + done) (orb s k)) e32 (hE3 4 (by decide)) (hE3 6 (by decide)) (fun q hq => (hv q hq).symm)]
              refine st_iload dX1_firstOrder_77 rfl ?_
              have hr := fstO_rng h4 m (done + 1) (orb s k) (nxt M 3 w (toldV M 3 (M 3 11 + done) (orb s k)))
              have h9 : 8 ^ m ≤ 8 ^ 7 := Nat.pow_le_pow_right (by omega) (by omega)
              have h10 : (8 : Nat) ^ 7 = 2097152 := rfl
              refine c_S6i (d' := d - 1) dX1_firstOrder_79 l_X1_95 k_X1_firstOrder s_X1_firstOrder (by omega) (Nat.le_of_ble_eq_true rfl) (ihm (done + 1) (by omega) (by omega) ho (nxt_rng hM.2.1) hE3) (fun x M4 N4 hx4 => ?_)
              obtain ⟨rfl, rfl, hE4⟩ := hx4
              refine st_istore (L' := [_, _, _, _, _, _, _, _, _]) dX1_firstOrder_82 (by decide) rfl rfl ?_
              refine st_iload dX1_firstOrder_84 rfl ?_
              refine st_iconst dX1_firstOrder_86 ?_
              simp only [h8] at hF
              refine st_icmp_eq (tgt := 98) dX1_firstOrder_87 (by omega) (by omega) rfl (fun h11 => ?_) (fun h11 => ?_)
              · refine st_iinc (L' := [_, _, _, _, _, _, _, _, _]) dX1_firstOrder_98 rfl (by decide) rfl rfl ?_
                refine st_goto (tgt := 24) dX1_firstOrder_101 rfl ?_
                rw [if_pos (by simp [h11])] at hF
                refine AW.to (ih (k + 1) M4 (by omega) hE4 hF (l7 := some (I (orb s k))) (l8 := some (I (fstO M m (done + 1) (orb s k) (nxt M 3 w (toldV M 3 (M 3 11 + done) (orb s k))))))) (h2 := by simp)
              · refine st_iload dX1_firstOrder_90 rfl ?_
                refine st_iconst dX1_firstOrder_92 ?_
                refine st_ishl dX1_firstOrder_93 ?_
                refine st_iload dX1_firstOrder_94 rfl ?_
                refine st_ior dX1_firstOrder_96 ?_
                refine AW.topv (congrArg Value.int (z_app (p := k) (by omega) (by omega))) ?_
                exact r_i dX1_firstOrder_97 rfl ⟨by rw [← hF]; simp [h11]; split <;> first | rfl | omega, rfl, hE4⟩
      exact loop (M 3 4).toNat 0 M1 (by omega) hE rfl (l7 := none) (l8 := none)
    · skip
      omega


/-! the system's Carrier: shares by who sings -/
def shS (sh : Nat → Int) (np k : Nat) : Int := hsum (fun q => if k.testBit q = true then sh q else 0) np
theorem lo_bit : ∀ k : Nat, k < 128 → 0 < k → ∀ q, q < 7 → (k &&& (k - 1)).testBit q = (k.testBit q && decide (¬ q = tzF 7 k)) := by decide +kernel
theorem lo_set : ∀ k : Nat, k < 128 → 0 < k → k.testBit (tzF 7 k) = true ∧ (k &&& (k - 1)) < k := by decide +kernel
theorem lo_lt : ∀ k : Nat, k < 128 → 0 < k → ∀ n, n < 8 → k < 2 ^ n → tzF 7 k < n := by decide +kernel
theorem hsum_rm {f g : Nat → Int} {p : Nat} : ∀ {n : Nat}, p < n → (∀ q, q < n → g q = if q = p then 0 else f q) → hsum f n = hsum g n + f p
  | 0, h, _ => absurd h (by omega)
  | n + 1, h, hg => by
    unfold hsum
    have h1 := hg n (by omega)
    by_cases e : p = n
    · subst e
      rw [if_pos rfl] at h1
      rw [hsum_congr (f := g) (g := f) (n := p) (fun q hq => by rw [hg q (by omega), if_neg (by omega)])]
      omega
    · rw [if_neg (by omega)] at h1
      rw [hsum_rm (f := f) (g := g) (p := p) (n := n) (by omega) (fun q hq => hg q (by omega))]
      omega
theorem shS_lo {sh : Nat → Int} {np k : Nat} (hn : np ≤ 7) (hk : k < 2 ^ np) (h0 : 0 < k) : shS sh np k = shS sh np (k &&& (k - 1)) + sh (tzF 7 k) := by
  have h7 : 2 ^ np ≤ 2 ^ 7 := Nat.pow_le_pow_right (by omega) hn
  have h8 : (2 : Nat) ^ 7 = 128 := rfl
  have hl := lo_lt k (by omega) h0 np (by omega) hk
  have hs := (lo_set k (by omega) h0).1
  unfold shS
  have e := hsum_rm (f := fun q => if k.testBit q = true then sh q else 0) (g := fun q => if (k &&& (k - 1)).testBit q = true then sh q else 0) hl (fun q hq => by
    show (if (k &&& (k - 1)).testBit q = true then sh q else 0) = if q = tzF 7 k then 0 else if k.testBit q = true then sh q else 0
    rw [lo_bit k (by omega) h0 q (by omega)]
    by_cases e : q = tzF 7 k
    · simp [e]
    · simp [e])
  rw [e]
  show _ + (if k.testBit (tzF 7 k) = true then sh (tzF 7 k) else 0) = _
  rw [if_pos hs]
theorem shS_rng {sh : Nat → Int} {np k : Nat} (hn : np ≤ 7) (h : ∀ q, q < np → 0 ≤ sh q ∧ sh q ≤ 30) : 0 ≤ shS sh np k ∧ shS sh np k ≤ 210 := by
  have := hsum_rng (f := fun q => if k.testBit q = true then sh q else 0) (c := 30) (n := np) (fun q hq => by have := h q hq; show 0 ≤ ite _ _ _ ∧ ite _ _ _ ≤ 30; split <;> omega)
  unfold shS
  omega
theorem z_lo (k : Nat) : zi k &&& zi ((k : Int) - 1) = zi ((k &&& (k - 1) : Nat) : Int) := by
  by_cases h : k = 0
  · subst h; decide
  · rw [show (k : Int) - 1 = ((k - 1 : Nat) : Int) by omega, zi_and]
theorem C_lift {G : q_G} {d : Nat} {M : q_Mem} {N : q_MemL} {one : Nat} {w : Int} (hd : 2 ≤ d) (h3 : 0 ≤ M 3 3 ∧ M 3 3 ≤ 8) (h4 : 0 ≤ M 3 4 ∧ M 3 4 ≤ 7) (hb : ∀ k, 0 ≤ M 4 k ∧ M 4 k ≤ 1000) (ho : one < 10) (hw : 0 ≤ w ∧ w ≤ 60) (hsh : ∀ q, q < (M 3 4).toNat → 0 ≤ M 100 q ∧ M 100 q ≤ 30) (hth : ∀ k, k < 2 ^ (M 3 4).toNat → 0 ≤ M 102 k ∧ M 102 k < 1073741824) : AC0 G d m_X0_lift [.ref 94, I one, I w] M N (CN (fun M' N' => N' = N ∧ Exc [101, 102] M M' ∧ ∀ k, k < 2 ^ (M 3 4).toNat → M' 102 k = w8 (M 102 k) one (stof (M 4) (max 0 (shS (M 100) (M 3 4).toNat k - w)) ((M 3 3).toNat - 1) 0))) := by
  have hpw : pw (M 3 4).toNat = ((2 ^ (M 3 4).toNat : Nat) : Int) := rfl
  have hP7 : 2 ^ (M 3 4).toNat ≤ 2 ^ 7 := Nat.pow_le_pow_right (by omega) (by omega)
  have h128 : (2 : Nat) ^ 7 = 128 := rfl
  refine AC.of (L0 := [_, _, _, none, none, none]) pn_X0 (Nat.le_of_ble_eq_true rfl) rfl ?_
  refine st_iconst dX0_lift_0 ?_
  refine st_aload_n dX0_lift_1 rfl ?_
  refine st_getfr dX0_lift_2 f_X0_36 (by first | assumption | rfl) (by rfl) ?_
  refine st_getfi dX0_lift_5 f_X0_74 (by first | assumption | rfl) (by rfl) ?_
  rw [show M 3 4 = (((M 3 4).toNat : Nat) : Int) by omega]
  refine st_ishl dX0_lift_8 ?_
  refine AW.top (z_pw (by omega)) ?_
  rw [hpw, Int.toNat_natCast]
  refine st_istore_n (L' := [_, _, _, _, _, _]) dX0_lift_9 (by decide) rfl rfl ?_
  refine st_iconst dX0_lift_10 ?_
  refine st_istore (L' := [_, _, _, _, _, _]) dX0_lift_11 (by decide) rfl rfl ?_
  have loop : ∀ (q k : Nat) (M1 : q_Mem), k + q = 2 ^ (M 3 4).toNat → Exc [101, 102] M M1 → (∀ j, j < k → M1 101 j = shS (M 100) (M 3 4).toNat j) → (∀ j, j < k → M1 102 j = w8 (M 102 j) one (stof (M 4) (max 0 (shS (M 100) (M 3 4).toNat j - w)) ((M 3 3).toNat - 1) 0)) → (∀ j, k ≤ j → M1 102 j = M 102 j) → {l5 : Option Value} → AW0 G d m_X0_lift 13 [some (.ref 94), some (I one), some (I w), some (I (2 ^ (M 3 4).toNat : Nat)), some (I k), l5] [] M1 N (CN (fun M' N' => N' = N ∧ Exc [101, 102] M M' ∧ ∀ k, k < 2 ^ (M 3 4).toNat → M' 102 k = w8 (M 102 k) one (stof (M 4) (max 0 (shS (M 100) (M 3 4).toNat k - w)) ((M 3 3).toNat - 1) 0))) := by
    intro q
    induction q with
    | zero =>
      intro k M1 hk hE ha hb2 hc l5
      have hkk : k = 2 ^ (M 3 4).toNat := by omega
      refine st_iload dX0_lift_13 rfl ?_
      refine st_iload_n dX0_lift_15 rfl ?_
      refine st_icmp_ge (tgt := 130) dX0_lift_16 (by omega) (by omega) rfl (fun h => ?_) (fun h => ?_)
      · skip
        exact r_v dX0_lift_130 rfl ⟨rfl, hE, fun j hj => hb2 j (by omega)⟩
      · skip
        omega
    | succ q ih =>
      intro k M1 hk hE ha hb2 hc l5
      have e3 := hE 3 (by decide)
      have e4 := hE 4 (by decide)
      have e100 := hE 100 (by decide)
      have hsr := shS_rng (k := k) (show (M 3 4).toNat ≤ 7 by omega) hsh
      have hst := stof_rng (M 4) (max 0 (shS (M 100) (M 3 4).toNat k - w)) ((M 3 3).toNat - 1) 0
      have tail : ∀ (M2 : q_Mem) (x5 : Option Value), M2 = q_up M1 101 k (shS (M 100) (M 3 4).toNat k) → AW0 G d m_X0_lift 86 [some (.ref 94), some (I one), some (I w), some (I (2 ^ (M 3 4).toNat : Nat)), some (I k), x5] [] M2 N (CN (fun M' N' => N' = N ∧ Exc [101, 102] M M' ∧ ∀ k, k < 2 ^ (M 3 4).toNat → M' 102 k = w8 (M 102 k) one (stof (M 4) (max 0 (shS (M 100) (M 3 4).toNat k - w)) ((M 3 3).toNat - 1) 0))) := by
        intro M2 x5 hM2
        have hE2 : Exc [101, 102] M M2 := hM2 ▸ hE.tr (Exc.up (by decide))
        have f3 := hE2 3 (by decide)
        have f4 := hE2 4 (by decide)
        have f101 : M2 101 k = shS (M 100) (M 3 4).toNat k := by rw [hM2]; simp [q_up]
        have f102 : M2 102 = M1 102 := by rw [hM2]; exact q_up_ne (by decide)
        have hck := hc k (Nat.le_refl _)
        have hthk := hth k (by omega)
        refine st_aload_n dX0_lift_86 rfl ?_
        refine st_getfr dX0_lift_87 f_X0_33 (by first | assumption | rfl) (by rfl) ?_
        refine st_iload dX0_lift_90 rfl ?_
        refine st_aload_n dX0_lift_92 rfl ?_
        refine st_getfr dX0_lift_93 f_X0_33 (by first | assumption | rfl) (by rfl) ?_
        refine st_iload dX0_lift_96 rfl ?_
        refine st_iald dX0_lift_98 (by first | assumption | rfl) (by omega) (by omega) (hn := by first | decide | omega) ?_
        refine st_iload_n dX0_lift_99 rfl ?_
        refine st_aload_n dX0_lift_100 rfl ?_
        refine st_getfr dX0_lift_101 f_X0_36 (by first | assumption | rfl) (by rfl) ?_
        refine st_iconst dX0_lift_104 ?_
        refine st_aload_n dX0_lift_105 rfl ?_
        refine st_getfr dX0_lift_106 f_X0_30 (by first | assumption | rfl) (by rfl) ?_
        refine st_iload dX0_lift_109 rfl ?_
        refine st_iald dX0_lift_111 (by first | assumption | rfl) (by omega) (by omega) (hn := by first | decide | omega) ?_
        refine st_iload_n dX0_lift_112 rfl ?_
        refine st_isub dX0_lift_113 ?_
        rw [Int.toNat_natCast, f101]
        refine st_mmax dX0_lift_114 lm_X0_114 (by omega) (Nat.le_of_ble_eq_true rfl) (by omega) (by omega) ?_
        refine c_V1p (d' := d - 1) dX0_lift_117 l_X0_119 k_X2_storeyOf i_X2_storeyOf (Or.inl ⟨_, _, _, _, _, (by first | assumption | rfl), by rfl⟩) (by omega) (Nat.le_of_ble_eq_true rfl) (C_stof (Or.inl rfl) (by omega) (by rw [f3]; exact h3) (by show ∀ k, 0 ≤ M2 4 k ∧ _; rw [f4]; exact hb) (by omega)) ?_
        rw [show M2 (3 + 1) = M 4 from f4, f3, f102, hck]
        refine c_S3p (d' := d - 1) dX0_lift_120 l_X0_122 k_X10_withStorey s_X10_withStorey (by omega) (Nat.le_of_ble_eq_true rfl) (C_withStorey hthk.1 (by omega) ho) ?_
        refine st_iast dX0_lift_123 (by first | assumption | rfl) (by omega) (by omega) (hn := by first | decide | omega) ?_
        refine st_iinc (L' := [_, _, _, _, _, _]) dX0_lift_124 rfl (by decide) rfl rfl ?_
        refine st_goto (tgt := 13) dX0_lift_127 rfl ?_
        rw [Int.toNat_natCast]
        refine AW.to (ih (k + 1) (q_up M2 102 k (w8 (M 102 k) one (stof (M 4) (max 0 (shS (M 100) (M 3 4).toNat k - w)) ((M 3 3).toNat - 1) 0))) (by omega) (hE2.tr (Exc.up (by decide))) (fun j hj => ?_) (fun j hj => ?_) (fun j hj => ?_) (l5 := x5)) (h2 := by simp)
        · rw [q_up_ne (by decide)]
          by_cases e : j = k
          · rw [e, f101]
          · rw [← ha j (by omega), hM2]
            simp [q_up, e]
        · by_cases e : j = k
          · rw [e]; simp [q_up]
          · rw [← hb2 j (by omega), ← f102]
            simp [q_up, e]
        · have e : ¬ j = k := by omega
          rw [← hc j (by omega), ← f102]
          simp [q_up, e]
      refine st_iload dX0_lift_13 rfl ?_
      refine st_iload_n dX0_lift_15 rfl ?_
      refine st_icmp_ge (tgt := 130) dX0_lift_16 (by omega) (by omega) rfl (fun h => ?_) (fun h => ?_)
      · skip
        omega
      · refine st_iload dX0_lift_19 rfl ?_
        refine st_aload_n dX0_lift_21 rfl ?_
        refine st_getfr dX0_lift_22 f_X0_30 (by first | assumption | rfl) (by rfl) ?_
        refine st_alen dX0_lift_25 (by first | assumption | rfl) (by decide) ?_
        refine st_icmp_ge (tgt := 130) dX0_lift_26 (by omega) (by omega) rfl (fun h5 => ?_) (fun h5 => ?_)
        · skip
          omega
        · refine st_iload dX0_lift_29 rfl ?_
          refine st_aload_n dX0_lift_31 rfl ?_
          refine st_getfr dX0_lift_32 f_X0_33 (by first | assumption | rfl) (by rfl) ?_
          refine st_alen dX0_lift_35 (by first | assumption | rfl) (by decide) ?_
          refine st_icmp_ge (tgt := 130) dX0_lift_36 (by omega) (by omega) rfl (fun h6 => ?_) (fun h6 => ?_)
          · skip
            omega
          · refine st_iload dX0_lift_39 rfl ?_
            refine st_iload dX0_lift_41 rfl ?_
            refine st_iconst dX0_lift_43 ?_
            refine st_isub dX0_lift_44 ?_
            refine st_iand dX0_lift_45 ?_
            refine AW.top (z_lo k) ?_
            refine st_istore (L' := [_, _, _, _, _, _]) dX0_lift_46 (by decide) rfl rfl ?_
            refine st_aload_n dX0_lift_48 rfl ?_
            refine st_getfr dX0_lift_49 f_X0_30 (by first | assumption | rfl) (by rfl) ?_
            refine st_iload dX0_lift_52 rfl ?_
            refine st_iload dX0_lift_54 rfl ?_
            refine st_if_ne (tgt := 63) dX0_lift_56 (by omega) rfl (fun h7 => ?_) (fun h7 => ?_)
            · refine st_aload_n dX0_lift_63 rfl ?_
              refine st_getfr dX0_lift_64 f_X0_30 (by first | assumption | rfl) (by rfl) ?_
              refine st_iload dX0_lift_67 rfl ?_
              have hl := lo_set k (by omega) (by omega)
              have hlt := lo_lt k (by omega) (by omega) (M 3 4).toNat (by omega) (by omega)
              have hsl := shS_lo (sh := M 100) (np := (M 3 4).toNat) (k := k) (by omega) (by omega) (by omega)
              refine c_S2p (d' := d - 1) dX0_lift_69 l_X0_66 k_X10_cell s_X10_cell (by omega) (Nat.le_of_ble_eq_true rfl) (C_cellI sh_101 (by decide) (by omega)) ?_
              rw [Int.toNat_natCast, ha _ hl.2]
              refine st_aload_n dX0_lift_72 rfl ?_
              refine st_getfr dX0_lift_73 f_X0_27 (by first | assumption | rfl) (by rfl) ?_
              refine st_iload dX0_lift_76 rfl ?_
              refine c_S1p (d' := d - 1) dX0_lift_78 l_X0_108 k_J6_numberOfTrailingZeros_0f7a4 s_J6_numberOfTrailingZeros_0f7a4 (by omega) (Nat.le_of_ble_eq_true rfl) (C_ntz (by omega) (by omega)) ?_
              refine c_S2p (d' := d - 1) dX0_lift_81 l_X0_66 k_X10_cell s_X10_cell (by omega) (Nat.le_of_ble_eq_true rfl) (C_cellI sh_100 (by decide) (by omega)) ?_
              rw [Int.toNat_natCast, e100]
              refine st_iadd dX0_lift_84 ?_
              refine st_iast dX0_lift_85 (by first | assumption | rfl) (by omega) (by omega) (hn := by first | decide | omega) ?_
              rw [← hsl, Int.toNat_natCast]
              exact AW.to (tail _ (some (I (k &&& (k - 1) : Nat))) rfl) (h2 := by simp)
            · refine st_iconst dX0_lift_59 ?_
              refine st_goto (tgt := 85) dX0_lift_60 rfl ?_
              refine st_iast dX0_lift_85 (by first | assumption | rfl) (by omega) (by omega) (hn := by first | decide | omega) ?_
              have hk0 : k = 0 := by omega
              have hz : shS (M 100) (M 3 4).toNat k = 0 := by rw [hk0]; exact hsum_0 (fun q _ => by simp)
              rw [Int.toNat_natCast]
              exact AW.to (tail (q_up M1 101 k 0) (some (I (k &&& (k - 1) : Nat))) (by rw [hz])) (h2 := by simp)
  exact loop (2 ^ (M 3 4).toNat) 0 M (by omega) Exc.rf (fun j hj => by omega) (fun j hj => by omega) (fun j _ => rfl) (l5 := none)


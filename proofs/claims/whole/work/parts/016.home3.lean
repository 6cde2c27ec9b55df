/-! the system's Home: things, the beat -/
theorem C_isWith {G : q_G} {d : Nat} {M : q_Mem} {N : q_MemL} {a t p : Nat} {w : Int} (ha : isHome a) (hd : 1 ≤ d) (h13 : 0 ≤ M a 13 ∧ M a 13 < 1048576) (ht : t < 3) (hp : p < 7) (hw : 0 ≤ w ∧ w < 2147483648) : AC0 G d m_X2_isWith [.ref a, I t, I p, I w] M N (CV (PU (Bz (g4 (M a 13) (7 + t) = g4 (M a 13) p ∧ g8 w (7 + t) = g8 w p)) M N)) := by
  have hS := sh_home ha
  have e4 := g4_lt (M a 13) (7 + t)
  have e8 := g8_lt w (7 + t)
  have e4p := g4_lt (M a 13) p
  have e8p := g8_lt w p
  have e7 : (7 : Int) + (t : Int) = ((7 + t : Nat) : Int) := by omega
  refine AC.of (L0 := [_, _, _, _, none]) pn_X2 (Nat.le_of_ble_eq_true rfl) rfl ?_
  refine st_bipush dX2_isWith_0 (by decide) ?_
  refine st_iload_n dX2_isWith_2 rfl ?_
  refine st_iadd dX2_isWith_3 ?_
  refine st_istore (L' := [_, _, _, _, _]) dX2_isWith_4 (by decide) rfl rfl ?_
  refine st_aload_n dX2_isWith_6 rfl ?_
  refine st_getfi dX2_isWith_7 f_X2_63 (by first | assumption | rfl) (by rfl) ?_
  refine st_iload dX2_isWith_10 rfl ?_
  rw [e7]
  refine c_S2p (d' := d - 1) dX2_isWith_12 l_X2_100 k_X10_roomIn s_X10_roomIn (by omega) (Nat.le_of_ble_eq_true rfl) (C_roomIn (by omega) (by omega)) ?_
  refine st_aload_n dX2_isWith_15 rfl ?_
  refine st_getfi dX2_isWith_16 f_X2_63 (by first | assumption | rfl) (by rfl) ?_
  refine st_iload_n dX2_isWith_19 rfl ?_
  refine c_S2p (d' := d - 1) dX2_isWith_20 l_X2_100 k_X10_roomIn s_X10_roomIn (by omega) (Nat.le_of_ble_eq_true rfl) (C_roomIn (by omega) (by omega)) ?_
  refine st_icmp_ne (tgt := 44) dX2_isWith_23 (by omega) (by omega) rfl (fun h => ?_) (fun h => ?_)
  · refine st_iconst dX2_isWith_44 ?_
    exact r_z dX2_isWith_45 rfl (by first | omega | (split <;> decide)) ⟨bz0 (by omega), rfl, rfl⟩
  · refine st_iload_n dX2_isWith_26 rfl ?_
    refine st_iload dX2_isWith_27 rfl ?_
    refine c_S2p (d' := d - 1) dX2_isWith_29 l_X2_103 k_X10_storeyIn s_X10_storeyIn (by omega) (Nat.le_of_ble_eq_true rfl) (C_storeyIn hw (by omega)) ?_
    refine st_iload_n dX2_isWith_32 rfl ?_
    refine st_iload_n dX2_isWith_33 rfl ?_
    refine c_S2p (d' := d - 1) dX2_isWith_34 l_X2_103 k_X10_storeyIn s_X10_storeyIn (by omega) (Nat.le_of_ble_eq_true rfl) (C_storeyIn hw (by omega)) ?_
    refine st_icmp_ne (tgt := 44) dX2_isWith_37 (by omega) (by omega) rfl (fun h2 => ?_) (fun h2 => ?_)
    · refine st_iconst dX2_isWith_44 ?_
      exact r_z dX2_isWith_45 rfl (by first | omega | (split <;> decide)) ⟨bz0 (by omega), rfl, rfl⟩
    · refine st_iconst dX2_isWith_40 ?_
      refine st_goto (tgt := 45) dX2_isWith_41 rfl ?_
      exact r_z dX2_isWith_45 rfl (by first | omega | (split <;> decide)) ⟨bz1 (by omega), rfl, rfl⟩
theorem hsum_low {f : Nat → Int} {c : Int} : ∀ {n : Nat}, (∀ q, q < n → 0 ≤ f q ∧ f q ≤ c) → 0 ≤ hsum f n := fun h => (hsum_rng h).1
theorem C_heardAt {G : q_G} {d : Nat} {M : q_Mem} {N : q_MemL} {a r t n : Nat} {vs : List Value} {w : Int} (ha : isHome a) (hd : 2 ≤ d) (hM : Hrg M a) (hr : S0[r]? = some (20, n, vs)) (hn : 7 ≤ n ∧ n < 1000) (ht : t < 3) (hw0 : 0 ≤ w ∧ w < 2147483648) (hv0 : Sok M r (M a 4).toNat) : AC0 G d m_X2_heardAt [.ref a, I t, I w, .ref r] M N (CV (PU (I (hearT (M a 4).toNat (M (a + 3) t) (g8 w) (g4 (M a 13)) (M r) t)) M N)) := by
  have hS := sh_home ha
  have hW := sh_home3 ha
  obtain ⟨h2, h3, h4, h5, h6, h13, hb, hw, hv⟩ := hM
  have hwt := hw t
  have rng : ∀ k, k ≤ (M a 4).toNat → 0 ≤ hsum (withF (g8 w) (g4 (M a 13)) (M r) t) k ∧ hsum (withF (g8 w) (g4 (M a 13)) (M r) t) k ≤ k * 30 := fun k hk => hsum_rng (fun q hq => by
    have := hv0 q (by omega)
    unfold withF
    split <;> omega)
  refine AC.of (L0 := [_, _, _, _, none, none]) pn_X2 (Nat.le_of_ble_eq_true rfl) rfl ?_
  refine st_aload_n dX2_heardAt_0 rfl ?_
  refine st_getfr dX2_heardAt_1 f_X2_18 (by first | assumption | rfl) (by rfl) ?_
  refine st_iload_n dX2_heardAt_4 rfl ?_
  refine c_S2p (d' := d - 1) dX2_heardAt_5 l_X2_93 k_X10_cell s_X10_cell (by omega) (Nat.le_of_ble_eq_true rfl) (C_cell (z := M (a + 3) t) hW (by decide) (by omega) (by rw [if_pos (by omega)]; rfl)) ?_
  refine st_ineg dX2_heardAt_8 ?_
  refine st_istore (L' := [_, _, _, _, _, _]) dX2_heardAt_9 (by decide) rfl rfl ?_
  refine st_iconst dX2_heardAt_11 ?_
  refine st_istore (L' := [_, _, _, _, _, _]) dX2_heardAt_12 (by decide) rfl rfl ?_
  have loop : ∀ (q k : Nat), k + q = (M a 4).toNat → AW0 G d m_X2_heardAt 14 [some (.ref a), some (I t), some (I w), some (.ref r), some (I (-(M (a + 3) t) + hsum (withF (g8 w) (g4 (M a 13)) (M r) t) k)), some (I k)] [] M N (CV (PU (I (hearT (M a 4).toNat (M (a + 3) t) (g8 w) (g4 (M a 13)) (M r) t)) M N)) := by
    intro q
    induction q with
    | zero =>
      intro k hk
      have := rng k (by omega)
      refine st_iload dX2_heardAt_14 rfl ?_
      refine st_aload_n dX2_heardAt_16 rfl ?_
      refine st_getfi dX2_heardAt_17 f_X2_44 (by first | assumption | rfl) (by rfl) ?_
      refine st_icmp_ge (tgt := 56) dX2_heardAt_20 (by omega) (by omega) rfl (fun h7 => ?_) (fun h7 => ?_)
      · refine st_iload dX2_heardAt_56 rfl ?_
        refine st_iconst dX2_heardAt_58 ?_
        refine st_mmax dX2_heardAt_59 lm_X2_97 (by omega) (Nat.le_of_ble_eq_true rfl) (by omega) (by omega) ?_
        exact r_i dX2_heardAt_62 rfl ⟨by rw [hearT, show k = (M a 4).toNat by omega]; congr 2; omega, rfl, rfl⟩
      · skip
        omega
    | succ q ih =>
      intro k hk
      have hs : hsum (withF (g8 w) (g4 (M a 13)) (M r) t) (k + 1) = hsum (withF (g8 w) (g4 (M a 13)) (M r) t) k + withF (g8 w) (g4 (M a 13)) (M r) t k := rfl
      refine st_iload dX2_heardAt_14 rfl ?_
      refine st_aload_n dX2_heardAt_16 rfl ?_
      refine st_getfi dX2_heardAt_17 f_X2_44 (by first | assumption | rfl) (by rfl) ?_
      refine st_icmp_ge (tgt := 56) dX2_heardAt_20 (by omega) (by omega) rfl (fun h7 => ?_) (fun h7 => ?_)
      · skip
        omega
      · refine st_iload dX2_heardAt_23 rfl ?_
        refine st_aload_n dX2_heardAt_25 rfl ?_
        refine st_alen dX2_heardAt_26 (by first | assumption | rfl) (by decide) ?_
        refine st_icmp_ge (tgt := 56) dX2_heardAt_27 (by omega) (by omega) rfl (fun h8 => ?_) (fun h8 => ?_)
        · skip
          omega
        · refine st_aload_n dX2_heardAt_30 rfl ?_
          refine st_iload_n dX2_heardAt_31 rfl ?_
          refine st_iload dX2_heardAt_32 rfl ?_
          refine st_iload_n dX2_heardAt_34 rfl ?_
          refine c_V3p (d' := d - 1) dX2_heardAt_35 l_X2_124 k_X2_isWith i_X2_isWith (Or.inl ⟨_, _, _, _, _, (by first | assumption | rfl), by rfl⟩) (by omega) (Nat.le_of_ble_eq_true rfl) (C_isWith ha (by omega) h13 ht (by omega) hw0) ?_
          refine b_eq (tgt := 50) dX2_heardAt_38 rfl (fun h9 => ?_) (fun h9 => ?_)
          · refine st_iinc (L' := [_, _, _, _, _, _]) dX2_heardAt_50 rfl (by decide) rfl rfl ?_
            refine st_goto (tgt := 14) dX2_heardAt_53 rfl ?_
            refine AW.to (ih (k + 1) (by omega)) (h2 := by rw [hs, withF, if_neg h9]; simp)
          · refine st_iload dX2_heardAt_41 rfl ?_
            refine st_aload_n dX2_heardAt_43 rfl ?_
            refine st_iload dX2_heardAt_44 rfl ?_
            refine st_iald dX2_heardAt_46 (by first | assumption | rfl) (by omega) (by omega) (hn := by first | decide | omega) ?_
            refine st_iadd dX2_heardAt_47 ?_
            refine st_istore (L' := [_, _, _, _, _, _]) dX2_heardAt_48 (by decide) rfl rfl ?_
            refine st_iinc (L' := [_, _, _, _, _, _]) dX2_heardAt_50 rfl (by decide) rfl rfl ?_
            refine st_goto (tgt := 14) dX2_heardAt_53 rfl ?_
            rw [show (((k : Int)).toNat) = k by omega]
            refine AW.to (ih (k + 1) (by omega)) (h2 := by rw [hs, withF, if_pos h9, ← Int.add_assoc]; simp)
  refine AW.to (loop (M a 4).toNat 0 (by omega)) (h2 := by simp [hsum])
theorem hearP_rng {n : Nat} {df : Int} {st rm v : Nat → Int} {p : Nat} (hp : p < n) (hn : n ≤ 7) (hv : ∀ q, q < n → 0 ≤ v q ∧ v q ≤ 30) : 0 ≤ hearP n df st rm v p ∧ hearP n df st rm v p ≤ 210 := by
  unfold hearP
  split
  · have := hv p hp
    omega
  · have := hsum_rng (f := hearF st rm v p) (c := 30) (n := n) (fun q hq => hearF_rng (hv q hq))
    omega
theorem hearT_rng {n : Nat} {w : Int} {st rm v : Nat → Int} {t : Nat} (hn : n ≤ 7) (hw : 0 ≤ w) (hv : ∀ q, q < n → 0 ≤ v q ∧ v q ≤ 30) : 0 ≤ hearT n w st rm v t ∧ hearT n w st rm v t ≤ 210 := by
  unfold hearT
  have := hsum_rng (f := withF st rm v t) (c := 30) (n := n) (fun q hq => by
    have := hv q hq
    unfold withF
    split <;> omega)
  omega
theorem g8_zero (k : Nat) : g8 0 k = 0 := by unfold g8; simp
/-- the first k of people, or all of them and the first k of things -/
theorem C_after {G : q_G} {d : Nat} {M : q_Mem} {N : q_MemL} {a r n : Nat} {vs : List Value} {w : Int} (ha : isHome a) (hd : 3 ≤ d) (hM : Hrg M a) (hr : S0[r]? = some (20, n, vs)) (hn : 7 ≤ n ∧ n < 1000) (hw0 : 0 ≤ w ∧ w < 2147483648) (hv0 : Sok M r (M a 4).toNat) : AC0 G d m_X2_after [.ref a, I w, .ref r] M N (CV (fun x M' N' => M' = M ∧ N' = N ∧ ∃ z, x = I z ∧ (0 ≤ z ∧ z < 1073741824) ∧ ∀ k, k < 10 → g8 z k = homeAft M a w (M r) k)) := by
  have hS := sh_home ha
  have hM0 := hM
  obtain ⟨h2, h3, h4, h5, h6, h13, hb, hw, hv⟩ := hM
  have hrng := homeAft_rng (M := M) (a := a) (w := w) (v := M r) h3
  refine AC.of (L0 := [_, _, _, none, none]) pn_X2 (Nat.le_of_ble_eq_true rfl) rfl ?_
  refine st_iconst dX2_after_0 ?_
  refine st_istore_n (L' := [_, _, _, _, _]) dX2_after_1 (by decide) rfl rfl ?_
  refine st_iconst dX2_after_2 ?_
  refine st_istore (L' := [_, _, _, _, _]) dX2_after_3 (by decide) rfl rfl ?_
  have loop2 : ∀ (q k : Nat) (z : Int), k + q = (M a 5).toNat → (0 ≤ z ∧ z < 1073741824) → (∀ j, j < 10 → g8 z j = if j < 7 + k then homeAft M a w (M r) j else 0) → AW0 G d m_X2_after 46 [some (.ref a), some (I w), some (.ref r), some (I z), some (I k)] [] M N (CV (fun x M' N' => M' = M ∧ N' = N ∧ ∃ z, x = I z ∧ (0 ≤ z ∧ z < 1073741824) ∧ ∀ k, k < 10 → g8 z k = homeAft M a w (M r) k)) := by
    intro q
    induction q with
    | zero =>
      intro k z hk hz hd9
      refine st_iload dX2_after_46 rfl ?_
      refine st_aload_n dX2_after_48 rfl ?_
      refine st_getfi dX2_after_49 f_X2_47 (by first | assumption | rfl) (by rfl) ?_
      refine st_icmp_ge (tgt := 83) dX2_after_52 (by omega) (by omega) rfl (fun h => ?_) (fun h => ?_)
      · refine st_iload_n dX2_after_83 rfl ?_
        refine r_i dX2_after_84 rfl ⟨rfl, rfl, z, rfl, hz, fun j hj => ?_⟩
        rw [hd9 j hj]
        split
        · rfl
        · rw [homeAft, aftD, if_neg (by omega), if_neg (by omega)]
      · skip
        omega
    | succ q ih =>
      intro k z hk hz hd9
      have hT := hearT_rng (n := (M a 4).toNat) (w := M (a + 3) k) (st := g8 w) (rm := g4 (M a 13)) (v := M r) (t := k) (by omega) (hw k).1 hv0
      have hval : stof (M (a + 1)) (hearT (M a 4).toNat (M (a + 3) k) (g8 w) (g4 (M a 13)) (M r) k) ((M a 3).toNat - 1) 0 = homeAft M a w (M r) (7 + k) := by
        rw [homeAft, aftD, if_neg (by omega), if_pos (by omega), show 7 + k - 7 = k by omega]
      have hst := hrng (7 + k)
      refine st_iload dX2_after_46 rfl ?_
      refine st_aload_n dX2_after_48 rfl ?_
      refine st_getfi dX2_after_49 f_X2_47 (by first | assumption | rfl) (by rfl) ?_
      refine st_icmp_ge (tgt := 83) dX2_after_52 (by omega) (by omega) rfl (fun h => ?_) (fun h => ?_)
      · skip
        omega
      · refine st_iload_n dX2_after_55 rfl ?_
        refine st_bipush dX2_after_56 (by decide) ?_
        refine st_iload dX2_after_58 rfl ?_
        refine st_iadd dX2_after_60 ?_
        refine st_aload_n dX2_after_61 rfl ?_
        refine st_aload_n dX2_after_62 rfl ?_
        refine st_iload dX2_after_63 rfl ?_
        refine st_iload_n dX2_after_65 rfl ?_
        refine st_aload_n dX2_after_66 rfl ?_
        refine c_V3p (d' := d - 1) dX2_after_67 l_X2_138 k_X2_heardAt i_X2_heardAt (Or.inl ⟨_, _, _, _, _, (by first | assumption | rfl), by rfl⟩) (by omega) (Nat.le_of_ble_eq_true rfl) (C_heardAt ha (by omega) hM0 hr hn (by omega) hw0 hv0) ?_
        refine c_V1p (d' := d - 1) dX2_after_70 l_X2_131 k_X2_storeyOf i_X2_storeyOf (Or.inl ⟨_, _, _, _, _, (by first | assumption | rfl), by rfl⟩) (by omega) (Nat.le_of_ble_eq_true rfl) (C_stof ha (by omega) h3 hb (by omega)) ?_
        rw [hval]
        rw [show (7 : Int) + (k : Int) = ((7 + k : Nat) : Int) by omega]
        refine c_S3p (d' := d - 1) dX2_after_73 l_X2_134 k_X10_withStorey s_X10_withStorey (by omega) (Nat.le_of_ble_eq_true rfl) (C_withStorey hz.1 (by omega) (by omega)) ?_
        refine st_istore_n (L' := [_, _, _, _, _]) dX2_after_76 (by decide) rfl rfl ?_
        refine st_iinc (L' := [_, _, _, _, _]) dX2_after_77 rfl (by decide) rfl rfl ?_
        refine st_goto (tgt := 46) dX2_after_80 rfl ?_
        refine AW.to (ih (k + 1) (w8 z (7 + k) (homeAft M a w (M r) (7 + k))) (by omega) (w8_lt hz (by omega) (by omega)) (fun j hj => ?_)) (h2 := by simp)
        rw [g8_w8 hz (by omega) (by omega), hd9 j hj]
        by_cases hj2 : j = 7 + k
        · rw [if_pos hj2, if_pos (by omega), hj2]
        · rw [if_neg hj2]
          have : (j < 7 + k) = (j < 7 + (k + 1)) := by apply propext; omega
          simp only [this]
  have loop1 : ∀ (q k : Nat) (z : Int), k + q = (M a 4).toNat → (0 ≤ z ∧ z < 1073741824) → (∀ j, j < 10 → g8 z j = if j < k then homeAft M a w (M r) j else 0) → AW0 G d m_X2_after 5 [some (.ref a), some (I w), some (.ref r), some (I z), some (I k)] [] M N (CV (fun x M' N' => M' = M ∧ N' = N ∧ ∃ z, x = I z ∧ (0 ≤ z ∧ z < 1073741824) ∧ ∀ k, k < 10 → g8 z k = homeAft M a w (M r) k)) := by
    intro q
    induction q with
    | zero =>
      intro k z hk hz hd9
      refine st_iload dX2_after_5 rfl ?_
      refine st_aload_n dX2_after_7 rfl ?_
      refine st_getfi dX2_after_8 f_X2_44 (by first | assumption | rfl) (by rfl) ?_
      refine st_icmp_ge (tgt := 43) dX2_after_11 (by omega) (by omega) rfl (fun h => ?_) (fun h => ?_)
      · refine st_iconst dX2_after_43 ?_
        refine st_istore (L' := [_, _, _, _, _]) dX2_after_44 (by decide) rfl rfl ?_
        refine loop2 (M a 5).toNat 0 z (by omega) hz (fun j hj => ?_)
        rw [hd9 j hj]
        by_cases q1 : j < k
        · rw [if_pos q1, if_pos (by omega)]
        · rw [if_neg q1]
          by_cases q2 : j < 7 + 0
          · rw [if_pos q2, homeAft, aftD, if_neg (by omega), if_neg (by omega)]
          · rw [if_neg q2]
      · skip
        omega
    | succ q ih =>
      intro k z hk hz hd9
      have hP := hearP_rng (n := (M a 4).toNat) (df := M a 6) (st := g8 w) (rm := g4 (M a 13)) (v := M r) (p := k) (by omega) (by omega) hv0
      have hval : stof (M (a + 1)) (hearP (M a 4).toNat (M a 6) (g8 w) (g4 (M a 13)) (M r) k) ((M a 3).toNat - 1) 0 = homeAft M a w (M r) k := by
        rw [homeAft, aftD, if_pos (by omega)]
      have hst := hrng k
      refine st_iload dX2_after_5 rfl ?_
      refine st_aload_n dX2_after_7 rfl ?_
      refine st_getfi dX2_after_8 f_X2_44 (by first | assumption | rfl) (by rfl) ?_
      refine st_icmp_ge (tgt := 43) dX2_after_11 (by omega) (by omega) rfl (fun h => ?_) (fun h => ?_)
      · skip
        omega
      · refine st_iload_n dX2_after_14 rfl ?_
        refine st_iload dX2_after_15 rfl ?_
        refine st_aload_n dX2_after_17 rfl ?_
        refine st_aload_n dX2_after_18 rfl ?_
        refine st_iload dX2_after_19 rfl ?_
        refine st_iload_n dX2_after_21 rfl ?_
        refine st_aload_n dX2_after_22 rfl ?_
        refine st_getfi dX2_after_23 f_X2_63 (by first | assumption | rfl) (by rfl) ?_
        refine st_aload_n dX2_after_26 rfl ?_
        refine c_V4p (d' := d - 1) dX2_after_27 l_X2_127 k_X2_heardBy i_X2_heardBy (Or.inl ⟨_, _, _, _, _, (by first | assumption | rfl), by rfl⟩) (by omega) (Nat.le_of_ble_eq_true rfl) (C_heardBy ha (by omega) hM0 hr hn (by omega) hw0 (by omega) hv0) ?_
        refine c_V1p (d' := d - 1) dX2_after_30 l_X2_131 k_X2_storeyOf i_X2_storeyOf (Or.inl ⟨_, _, _, _, _, (by first | assumption | rfl), by rfl⟩) (by omega) (Nat.le_of_ble_eq_true rfl) (C_stof ha (by omega) h3 hb (by omega)) ?_
        rw [hval]
        refine c_S3p (d' := d - 1) dX2_after_33 l_X2_134 k_X10_withStorey s_X10_withStorey (by omega) (Nat.le_of_ble_eq_true rfl) (C_withStorey hz.1 (by omega) (by omega)) ?_
        refine st_istore_n (L' := [_, _, _, _, _]) dX2_after_36 (by decide) rfl rfl ?_
        refine st_iinc (L' := [_, _, _, _, _]) dX2_after_37 rfl (by decide) rfl rfl ?_
        refine st_goto (tgt := 5) dX2_after_40 rfl ?_
        refine AW.to (ih (k + 1) (w8 z k (homeAft M a w (M r) k)) (by omega) (w8_lt hz (by omega) (by omega)) (fun j hj => ?_)) (h2 := by simp)
        rw [g8_w8 hz (by omega) (by omega), hd9 j hj]
        by_cases hj2 : j = k
        · rw [if_pos hj2, if_pos (by omega), hj2]
        · rw [if_neg hj2]
          have : (j < k) = (j < k + 1) := by apply propext; omega
          simp only [this]
  exact loop1 (M a 4).toNat 0 0 (by omega) (by omega) (fun j hj => by rw [g8_zero, if_neg (by omega)])


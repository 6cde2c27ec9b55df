/-! the system's Home: acts kept and taken back, copies -/
theorem C_cellI {G : q_G} {d : Nat} {M : q_Mem} {N : q_MemL} {r n : Nat} {vs : List Value} {i : Int} (hr : S0[r]? = some (20, n, vs)) (hn : n < 100000) (hi : 0 ≤ i ∧ i < n) : AC0 G d m_X10_cell [.ref r, I i] M N (CV (PU (I (M r i.toNat)) M N)) := C_cell hr hn (by omega) (by rw [if_pos hi])
theorem C_putI {G : q_G} {d : Nat} {M : q_Mem} {N : q_MemL} {r n : Nat} {vs : List Value} {i v : Int} (hr : S0[r]? = some (20, n, vs)) (hn : n < 100000) (hi : 0 ≤ i ∧ i < n) : AC0 G d m_X10_put [.ref r, I i, I v] M N (CN (fun M' N' => M' = q_up M r i.toNat v ∧ N' = N)) := by
  have h := C_put (G := G) (d := d) (M := M) (N := N) (i := i) (v := v) hr hn (by omega)
  rw [if_pos hi] at h
  simpa only [and_comm] using h
theorem C_move {G : q_G} {d : Nat} {M : q_Mem} {N : q_MemL} {a r n : Nat} {vs : List Value} (ha : isHome a) (hd : 4 ≤ d) (hM : Hrg M a) (hr : S0[r]? = some (20, n, vs)) (hn : 7 ≤ n ∧ n < 1000) (hw0 : 0 ≤ M a 12 ∧ M a 12 < 2147483648) (hv0 : Sok M r (M a 4).toNat) : AC0 G d m_X2_move [.ref a, .ref r] M N (CN (fun M' N' => N' = N ∧ ∃ z, (0 ≤ z ∧ z < 1073741824) ∧ (∀ k, k < 10 → g8 z k = homeAft M a (M a 12) (M r) k) ∧ M' = q_up (q_up M a 12 z) a 11 (M a 11 + 1))) := by
  have hS := sh_home ha
  refine AC.of (L0 := [_, _]) pn_X2 (Nat.le_of_ble_eq_true rfl) rfl ?_
  refine st_aload_n dX2_move_0 rfl ?_
  refine st_aload_n dX2_move_1 rfl ?_
  refine st_aload_n dX2_move_2 rfl ?_
  refine st_getfi dX2_move_3 f_X2_60 (by first | assumption | rfl) (by rfl) ?_
  refine st_aload_n dX2_move_6 rfl ?_
  refine c_V2i (d' := d - 1) dX2_move_7 l_X2_142 k_X2_after i_X2_after (Or.inl ⟨_, _, _, _, _, (by first | assumption | rfl), by rfl⟩) (by omega) (Nat.le_of_ble_eq_true rfl) (C_after ha (by omega) hM hr hn hw0 hv0) (fun x M1 N1 hx => ?_)
  obtain ⟨rfl, rfl, z, rfl, hz, hg⟩ := hx
  refine st_putfi dX2_move_10 w_X2_60 (by first | assumption | rfl) (by rfl) rfl rfl ?_
  refine st_aload_n dX2_move_13 rfl ?_
  refine st_dup dX2_move_14 rfl ?_
  refine st_getfi dX2_move_15 f_X2_57 (by first | assumption | rfl) (by rfl) ?_
  refine st_iconst dX2_move_18 ?_
  refine st_iadd dX2_move_19 ?_
  refine st_putfi dX2_move_20 w_X2_57 (by first | assumption | rfl) (by rfl) rfl rfl ?_
  exact r_v dX2_move_23 rfl ⟨rfl, z, hz, hg, by simp [q_up]⟩
def remA (M : q_Mem) (a : Nat) : q_Mem := if 20 ≤ M a 15 then q_up (q_cp M (a + 5) (a + 5) 5 0 95) a 15 19 else M
def remB (M : q_Mem) (a : Nat) (vp : Int) : q_Mem :=
  q_up (q_up (q_up (q_up (q_up (q_up M (a + 5) (M a 15 * 5).toNat (M a 11)) (a + 5) (M a 15 * 5 + 1).toNat (M a 12)) (a + 5) (M a 15 * 5 + 2).toNat (M a 13)) (a + 5) (M a 15 * 5 + 3).toNat vp) (a + 5) (M a 15 * 5 + 4).toNat (if 0 ≤ vp ∧ vp < (42 : Nat) then M (a + 4) vp.toNat else 0)) a 15 (M a 15 + 1)
theorem up_off {M : q_Mem} {a i j : Nat} {z : Int} {k : Nat} (h : ¬ (k = a ∧ j = i)) : q_up M a i z k j = M k j := by unfold q_up; rw [if_neg h]
theorem up_row {M : q_Mem} {a i : Nat} {z : Int} {k : Nat} (h : k ≠ a) : q_up M a i z k = M k := q_up_ne h
theorem C_remB {G : q_G} {d : Nat} {M : q_Mem} {N : q_MemL} {a : Nat} {vp : Int} (ha : isHome a) (hd : 1 ≤ d) (hac : 0 ≤ M a 15 ∧ M a 15 < 20) (hvp : -1 ≤ vp ∧ vp < 42) {l1 : Option Value} : AW0 G d m_X2_remember 35 [some (.ref a), some (I vp), l1] [] M N (CN (fun M' N' => M' = remB M a vp ∧ N' = N)) := by
  have hS := sh_home ha
  have hV := sh_home4 ha
  have hP := sh_home5 ha
  have n5 : a ≠ a + 5 := by omega
  have n45 : a + 4 ≠ a + 5 := by omega
  refine st_aload_n dX2_remember_35 rfl ?_
  refine st_getfi dX2_remember_36 f_X2_66 (by first | assumption | rfl) (by rfl) ?_
  refine st_iconst dX2_remember_39 ?_
  refine st_imul dX2_remember_40 ?_
  refine st_istore_n (L' := [_, _, _]) dX2_remember_41 (by decide) rfl rfl ?_
  refine st_aload_n dX2_remember_42 rfl ?_
  refine st_getfr dX2_remember_43 f_X2_24 (by first | assumption | rfl) (by rfl) ?_
  refine st_iload_n dX2_remember_46 rfl ?_
  refine st_aload_n dX2_remember_47 rfl ?_
  refine st_getfi dX2_remember_48 f_X2_57 (by first | assumption | rfl) (by rfl) ?_
  refine c_S3v (d' := d - 1) dX2_remember_51 l_X2_146 k_X10_put s_X10_put (by omega) (Nat.le_of_ble_eq_true rfl) (C_putI hP (by decide) (by omega)) (fun M1 N1 hx => ?_)
  obtain ⟨rfl, rfl⟩ := hx
  refine st_aload_n dX2_remember_54 rfl ?_
  refine st_getfr dX2_remember_55 f_X2_24 (by first | assumption | rfl) (by rfl) ?_
  refine st_iload_n dX2_remember_58 rfl ?_
  refine st_iconst dX2_remember_59 ?_
  refine st_iadd dX2_remember_60 ?_
  refine st_aload_n dX2_remember_61 rfl ?_
  refine st_getfi dX2_remember_62 f_X2_60 (by first | assumption | rfl) (by rfl) ?_
  simp only [up_row n5]
  refine c_S3v (d' := d - 1) dX2_remember_65 l_X2_146 k_X10_put s_X10_put (by omega) (Nat.le_of_ble_eq_true rfl) (C_putI hP (by decide) (by omega)) (fun M1 N1 hx => ?_)
  obtain ⟨rfl, rfl⟩ := hx
  refine st_aload_n dX2_remember_68 rfl ?_
  refine st_getfr dX2_remember_69 f_X2_24 (by first | assumption | rfl) (by rfl) ?_
  refine st_iload_n dX2_remember_72 rfl ?_
  refine st_iconst dX2_remember_73 ?_
  refine st_iadd dX2_remember_74 ?_
  refine st_aload_n dX2_remember_75 rfl ?_
  refine st_getfi dX2_remember_76 f_X2_63 (by first | assumption | rfl) (by rfl) ?_
  simp only [up_row n5]
  refine c_S3v (d' := d - 1) dX2_remember_79 l_X2_146 k_X10_put s_X10_put (by omega) (Nat.le_of_ble_eq_true rfl) (C_putI hP (by decide) (by omega)) (fun M1 N1 hx => ?_)
  obtain ⟨rfl, rfl⟩ := hx
  refine st_aload_n dX2_remember_82 rfl ?_
  refine st_getfr dX2_remember_83 f_X2_24 (by first | assumption | rfl) (by rfl) ?_
  refine st_iload_n dX2_remember_86 rfl ?_
  refine st_iconst dX2_remember_87 ?_
  refine st_iadd dX2_remember_88 ?_
  refine st_iload_n dX2_remember_89 rfl ?_
  refine c_S3v (d' := d - 1) dX2_remember_90 l_X2_146 k_X10_put s_X10_put (by omega) (Nat.le_of_ble_eq_true rfl) (C_putI hP (by decide) (by omega)) (fun M1 N1 hx => ?_)
  obtain ⟨rfl, rfl⟩ := hx
  refine st_aload_n dX2_remember_93 rfl ?_
  refine st_getfr dX2_remember_94 f_X2_24 (by first | assumption | rfl) (by rfl) ?_
  refine st_iload_n dX2_remember_97 rfl ?_
  refine st_iconst dX2_remember_98 ?_
  refine st_iadd dX2_remember_99 ?_
  refine st_aload_n dX2_remember_100 rfl ?_
  refine st_getfr dX2_remember_101 f_X2_21 (by first | assumption | rfl) (by rfl) ?_
  refine st_iload_n dX2_remember_104 rfl ?_
  refine c_S2p (d' := d - 1) dX2_remember_105 l_X2_93 k_X10_cell s_X10_cell (by omega) (Nat.le_of_ble_eq_true rfl) (C_cell (z := if 0 ≤ vp ∧ vp < (42 : Nat) then M (a + 4) vp.toNat else 0) hV (by decide) (by omega) (by simp only [up_row n45])) ?_
  refine c_S3v (d' := d - 1) dX2_remember_108 l_X2_146 k_X10_put s_X10_put (by omega) (Nat.le_of_ble_eq_true rfl) (C_putI hP (by decide) (by omega)) (fun M1 N1 hx => ?_)
  obtain ⟨rfl, rfl⟩ := hx
  refine st_aload_n dX2_remember_111 rfl ?_
  refine st_dup dX2_remember_112 rfl ?_
  refine st_getfi dX2_remember_113 f_X2_66 (by first | assumption | rfl) (by rfl) ?_
  refine st_iconst dX2_remember_116 ?_
  refine st_iadd dX2_remember_117 ?_
  refine st_putfi dX2_remember_118 w_X2_66 (by first | assumption | rfl) (by rfl) rfl rfl ?_
  simp only [up_row n5]
  exact r_v dX2_remember_121 rfl ⟨rfl, rfl⟩
theorem C_remember {G : q_G} {d : Nat} {M : q_Mem} {N : q_MemL} {a : Nat} {vp : Int} (ha : isHome a) (hd : 1 ≤ d) (hac : 0 ≤ M a 15 ∧ M a 15 ≤ 20) (hvp : -1 ≤ vp ∧ vp < 42) : AC0 G d m_X2_remember [.ref a, I vp] M N (CN (fun M' N' => M' = remB (remA M a) a vp ∧ N' = N)) := by
  have hS := sh_home ha
  have hP := sh_home5 ha
  refine AC.of (L0 := [_, _, none]) pn_X2 (Nat.le_of_ble_eq_true rfl) rfl ?_
  refine st_aload_n dX2_remember_0 rfl ?_
  refine st_getfi dX2_remember_1 f_X2_66 (by first | assumption | rfl) (by rfl) ?_
  refine st_bipush dX2_remember_4 (by decide) ?_
  refine st_icmp_lt (tgt := 35) dX2_remember_6 (by omega) (by omega) rfl (fun h => ?_) (fun h => ?_)
  · skip
    rw [show remA M a = M by rw [remA, if_neg (by omega)]]
    exact C_remB ha hd (by omega) hvp
  · refine st_aload_n dX2_remember_9 rfl ?_
    refine st_getfr dX2_remember_10 f_X2_24 (by first | assumption | rfl) (by rfl) ?_
    refine st_iconst dX2_remember_13 ?_
    refine st_aload_n dX2_remember_14 rfl ?_
    refine st_getfr dX2_remember_15 f_X2_24 (by first | assumption | rfl) (by rfl) ?_
    refine st_iconst dX2_remember_18 ?_
    refine st_aload_n dX2_remember_19 rfl ?_
    refine st_getfr dX2_remember_20 f_X2_24 (by first | assumption | rfl) (by rfl) ?_
    refine st_alen dX2_remember_23 (by first | assumption | rfl) (by decide) ?_
    refine st_iconst dX2_remember_24 ?_
    refine st_isub dX2_remember_25 ?_
    refine st_acopy dX2_remember_26 l_X2_81 ac_nat ac_stat ac_ini hP hP (by omega) (by omega) (by omega) (by omega) (by omega) (by omega) (by omega) hd (Nat.le_of_ble_eq_true rfl) ?_
    refine st_aload_n dX2_remember_29 rfl ?_
    refine st_bipush dX2_remember_30 (by decide) ?_
    refine st_putfi dX2_remember_32 w_X2_66 (by first | assumption | rfl) (by rfl) rfl rfl ?_
    rw [show remA M a = q_up (q_cp M (a + 5) (a + 5) 5 0 95) a 15 19 by rw [remA, if_pos (by omega)]]
    exact C_remB ha hd (by simp [q_up]) hvp
def tbM (M : q_Mem) (a : Nat) : q_Mem :=
  let k := (M a 15 - 1) * 5
  let M4 := q_up (q_up (q_up (q_up M a 15 (M a 15 - 1)) a 11 (M (a + 5) k.toNat)) a 12 (M (a + 5) (k + 1).toNat)) a 13 (M (a + 5) (k + 2).toNat)
  if 0 ≤ M (a + 5) (k + 3).toNat ∧ M (a + 5) (k + 3).toNat < (42 : Nat) then q_up M4 (a + 4) (M (a + 5) (k + 3).toNat).toNat (M (a + 5) (k + 4).toNat) else M4
theorem C_takeBack {G : q_G} {d : Nat} {M : q_Mem} {N : q_MemL} {a : Nat} (ha : isHome a) (hd : 1 ≤ d) (hac : 1 ≤ M a 15 ∧ M a 15 ≤ 20) (hpa : ∀ k, -1 ≤ M (a + 5) k ∧ M (a + 5) k < 1073741824) : AC0 G d m_X2_takeBack [.ref a] M N (CN (fun M' N' => N' = N ∧ M' = tbM M a)) := by
  have hS := sh_home ha
  have hV := sh_home4 ha
  have hP := sh_home5 ha
  have n5 : a + 5 ≠ a := by omega
  have h3 := hpa (((M a 15 - 1) * 5 + 3).toNat)
  refine AC.of (L0 := [_, none]) pn_X2 (Nat.le_of_ble_eq_true rfl) rfl ?_
  refine st_aload_n dX2_takeBack_0 rfl ?_
  refine st_dup dX2_takeBack_1 rfl ?_
  refine st_getfi dX2_takeBack_2 f_X2_66 (by first | assumption | rfl) (by rfl) ?_
  refine st_iconst dX2_takeBack_5 ?_
  refine st_isub dX2_takeBack_6 ?_
  refine st_putfi dX2_takeBack_7 w_X2_66 (by first | assumption | rfl) (by rfl) rfl rfl ?_
  refine st_aload_n dX2_takeBack_10 rfl ?_
  refine st_getfi dX2_takeBack_11 f_X2_66 (by first | assumption | rfl) (by rfl) ?_
  refine st_iconst dX2_takeBack_14 ?_
  refine st_imul dX2_takeBack_15 ?_
  refine st_istore_n (L' := [_, _]) dX2_takeBack_16 (by decide) rfl rfl ?_
  refine st_aload_n dX2_takeBack_17 rfl ?_
  refine st_aload_n dX2_takeBack_18 rfl ?_
  refine st_getfr dX2_takeBack_19 f_X2_24 (by first | assumption | rfl) (by rfl) ?_
  refine st_iload_n dX2_takeBack_22 rfl ?_
  simp only [show q_up M a 15 (M a 15 - 1) a 15 = M a 15 - 1 by simp [q_up]]
  refine c_S2p (d' := d - 1) dX2_takeBack_23 l_X2_93 k_X10_cell s_X10_cell (by omega) (Nat.le_of_ble_eq_true rfl) (C_cellI hP (by decide) (by omega)) ?_
  refine st_putfi dX2_takeBack_26 w_X2_57 (by first | assumption | rfl) (by rfl) rfl rfl ?_
  refine st_aload_n dX2_takeBack_29 rfl ?_
  refine st_aload_n dX2_takeBack_30 rfl ?_
  refine st_getfr dX2_takeBack_31 f_X2_24 (by first | assumption | rfl) (by rfl) ?_
  refine st_iload_n dX2_takeBack_34 rfl ?_
  refine st_iconst dX2_takeBack_35 ?_
  refine st_iadd dX2_takeBack_36 ?_
  refine c_S2p (d' := d - 1) dX2_takeBack_37 l_X2_93 k_X10_cell s_X10_cell (by omega) (Nat.le_of_ble_eq_true rfl) (C_cellI hP (by decide) (by omega)) ?_
  refine st_putfi dX2_takeBack_40 w_X2_60 (by first | assumption | rfl) (by rfl) rfl rfl ?_
  refine st_aload_n dX2_takeBack_43 rfl ?_
  refine st_aload_n dX2_takeBack_44 rfl ?_
  refine st_getfr dX2_takeBack_45 f_X2_24 (by first | assumption | rfl) (by rfl) ?_
  refine st_iload_n dX2_takeBack_48 rfl ?_
  refine st_iconst dX2_takeBack_49 ?_
  refine st_iadd dX2_takeBack_50 ?_
  refine c_S2p (d' := d - 1) dX2_takeBack_51 l_X2_93 k_X10_cell s_X10_cell (by omega) (Nat.le_of_ble_eq_true rfl) (C_cellI hP (by decide) (by omega)) ?_
  refine st_putfi dX2_takeBack_54 w_X2_63 (by first | assumption | rfl) (by rfl) rfl rfl ?_
  refine st_aload_n dX2_takeBack_57 rfl ?_
  refine st_getfr dX2_takeBack_58 f_X2_21 (by first | assumption | rfl) (by rfl) ?_
  refine st_aload_n dX2_takeBack_61 rfl ?_
  refine st_getfr dX2_takeBack_62 f_X2_24 (by first | assumption | rfl) (by rfl) ?_
  refine st_iload_n dX2_takeBack_65 rfl ?_
  refine st_iconst dX2_takeBack_66 ?_
  refine st_iadd dX2_takeBack_67 ?_
  refine c_S2p (d' := d - 1) dX2_takeBack_68 l_X2_93 k_X10_cell s_X10_cell (by omega) (Nat.le_of_ble_eq_true rfl) (C_cellI hP (by decide) (by omega)) ?_
  refine st_aload_n dX2_takeBack_71 rfl ?_
  refine st_getfr dX2_takeBack_72 f_X2_24 (by first | assumption | rfl) (by rfl) ?_
  refine st_iload_n dX2_takeBack_75 rfl ?_
  refine st_iconst dX2_takeBack_76 ?_
  refine st_iadd dX2_takeBack_77 ?_
  refine c_S2p (d' := d - 1) dX2_takeBack_78 l_X2_93 k_X10_cell s_X10_cell (by omega) (Nat.le_of_ble_eq_true rfl) (C_cellI hP (by decide) (by omega)) ?_
  simp only [up_row n5]
  refine c_S3v (d' := d - 1) dX2_takeBack_81 l_X2_146 k_X10_put s_X10_put (by omega) (Nat.le_of_ble_eq_true rfl) (C_put hV (by decide) (by omega)) (fun M1 N1 hx => ?_)
  obtain ⟨rfl, rfl⟩ := hx
  exact r_v dX2_takeBack_84 rfl ⟨rfl, rfl⟩
theorem C_copyRow {G : q_G} {d : Nat} {M : q_Mem} {N : q_MemL} {r q n : Nat} {vs ws : List Value} (hd : 1 ≤ d) (hr : S0[r]? = some (20, n, vs)) (hq : S0[q]? = some (20, n, ws)) (hn : n < 100000) : AC0 G d m_X2_copyRow [.ref r, .ref q] M N (CN (fun M' N' => M' = q_cp M r q 0 0 n ∧ N' = N)) := by
  refine AC.of (L0 := [_, _]) pn_X2 (Nat.le_of_ble_eq_true rfl) rfl ?_
  refine st_aload_n dX2_copyRow_0 rfl ?_
  refine st_iconst dX2_copyRow_1 ?_
  refine st_aload_n dX2_copyRow_2 rfl ?_
  refine st_iconst dX2_copyRow_3 ?_
  refine st_aload_n dX2_copyRow_4 rfl ?_
  refine st_alen dX2_copyRow_5 (by first | assumption | rfl) (by decide) ?_
  refine st_aload_n dX2_copyRow_6 rfl ?_
  refine st_alen dX2_copyRow_7 (by first | assumption | rfl) (by decide) ?_
  refine st_mmin dX2_copyRow_8 lm_X2_75 (by omega) (Nat.le_of_ble_eq_true rfl) (by omega) (by omega) ?_
  rw [show min (n : Int) n = n by omega]
  refine st_acopy dX2_copyRow_11 l_X2_81 ac_nat ac_stat ac_ini hr hq (by omega) (by omega) (by omega) (by omega) (by omega) (by omega) (by omega) hd (Nat.le_of_ble_eq_true rfl) ?_
  exact r_v dX2_copyRow_14 rfl ⟨by simp, rfl⟩
/-! a home copied onto another; a home emptied -/
def hFs : List Nat := [0, 1, 2, 3, 4, 5, 6, 11, 12, 13, 15, 17, 18]
/-- what lies outside of a home's rows is 0 -/
def Hz (M : q_Mem) (a : Nat) : Prop := (∀ j, j ∉ hFs → M a j = 0) ∧ (∀ j, 8 ≤ j → M (a + 1) j = 0) ∧ (∀ j, 7 ≤ j → M (a + 2) j = 0) ∧ (∀ j, 3 ≤ j → M (a + 3) j = 0) ∧ (∀ j, 42 ≤ j → M (a + 4) j = 0) ∧ (∀ j, 100 ≤ j → M (a + 5) j = 0) ∧ (∀ j, 24 ≤ j → M (a + 6) j = 0)
/-- the fields fs and the rows rs of b copied to a -/
def cpB (M : q_Mem) (a b : Nat) (fs rs : List Nat) : q_Mem := fun a' j => if a' = a then (if j ∈ fs then M b j else M a j) else if a < a' ∧ a' - a ∈ rs then M (b + (a' - a)) j else M a' j
def far (a b : Nat) : Prop := a + 7 ≤ b ∨ b + 7 ≤ a
theorem far_of {a b : Nat} (ha : isHome a) (hb : isHome b) (h : a ≠ b) : far a b := by
  unfold far isHome at *
  omega
def small (rs : List Nat) : Prop := ∀ o, o ∈ rs → o < 7
theorem cpB_b {M : q_Mem} {a b : Nat} {fs rs : List Nat} (hf : far a b) (hr : small rs) {o : Nat} (ho : o < 7) : cpB M a b fs rs (b + o) = M (b + o) := by
  funext j
  unfold cpB far at *
  rw [if_neg (by omega), if_neg (by intro ⟨q1, q2⟩; have := hr _ q2; omega)]
theorem cpB_f {M : q_Mem} {a b : Nat} {fs rs : List Nat} {f : Nat} : q_up (cpB M a b fs rs) a f (M b f) = cpB M a b (f :: fs) rs := by
  funext a' j
  unfold q_up cpB
  by_cases h : a' = a
  · by_cases hj : j = f
    · simp [h, hj]
    · simp [h, hj]
  · simp [h]
theorem cpB_r {M : q_Mem} {a b : Nat} {fs rs : List Nat} {o n : Nat} (hf : far a b) (hr : small rs) (ho : 0 < o ∧ o < 7) (ha0 : ∀ j, n ≤ j → M (a + o) j = 0) (hb0 : ∀ j, n ≤ j → M (b + o) j = 0) (hno : o ∉ rs) : q_cp (cpB M a b fs rs) (b + o) (a + o) 0 0 n = cpB M a b fs (o :: rs) := by
  funext a' j
  unfold q_cp
  rw [cpB_b hf hr ho.2]
  by_cases h : a' = a + o
  · subst h
    have e : a + o - a = o := by omega
    by_cases hj : j < n
    · rw [if_pos rfl, if_pos (by omega)]
      unfold cpB
      rw [if_neg (by omega), if_pos (by rw [e]; exact ⟨by omega, List.mem_cons_self⟩), e]
      simp
    · rw [if_pos rfl, if_neg (by omega)]
      unfold cpB
      rw [if_neg (by omega), if_neg (by rw [e]; intro q; exact hno q.2), if_neg (by omega), if_pos (by rw [e]; exact ⟨by omega, List.mem_cons_self⟩), e, ha0 j (by omega), hb0 j (by omega)]
  · rw [if_neg h]
    unfold cpB
    by_cases h2 : a' = a
    · simp [h2]
    · rw [if_neg h2, if_neg h2]
      have : (a < a' ∧ a' - a ∈ rs) = (a < a' ∧ a' - a ∈ o :: rs) := by
        apply propext
        rw [List.mem_cons]
        constructor
        · intro ⟨q1, q2⟩
          exact ⟨q1, Or.inr q2⟩
        · intro ⟨q1, q2⟩
          refine ⟨q1, q2.resolve_left (by omega)⟩
      simp only [this]
/-- a is as b -/
def cpH (M : q_Mem) (a b : Nat) : q_Mem := fun a' j => if a ≤ a' ∧ a' < a + 7 then M (b + (a' - a)) j else M a' j
theorem cpB_all {M : q_Mem} {a b : Nat} (ha : Hz M a) (hb : Hz M b) : cpB M a b [18, 17, 15, 13, 12, 11, 6, 5, 4, 3, 2, 1, 0] [6, 5, 4, 3, 2, 1] = cpH M a b := by
  funext a' j
  unfold cpB cpH
  by_cases h : a' = a
  · subst h
    rw [if_pos rfl, show (if a' ≤ a' ∧ a' < a' + 7 then M (b + (a' - a')) j else M a' j) = M b j by rw [if_pos (by omega), Nat.sub_self, Nat.add_zero]]
    by_cases hj : j ∈ hFs
    · rw [if_pos (by simp only [hFs, List.mem_cons, List.not_mem_nil, or_false] at hj ⊢; omega)]
    · rw [if_neg (by simp only [hFs, List.mem_cons, List.not_mem_nil, or_false] at hj ⊢; omega), ha.1 j hj, hb.1 j hj]
  · rw [if_neg h]
    have : (a < a' ∧ a' - a ∈ [6, 5, 4, 3, 2, 1]) = (a ≤ a' ∧ a' < a + 7) := by
      apply propext
      simp only [List.mem_cons, List.not_mem_nil, or_false]
      omega
    simp only [this]
/-- copyFrom -/
theorem C_copyFrom {G : q_G} {d : Nat} {M : q_Mem} {N : q_MemL} {a b : Nat} (ha : isHome a) (hb : isHome b) (hab : a ≠ b) (hd : 2 ≤ d) (za : Hz M a) (zb : Hz M b) (h0 : M b 0 = 0 ∨ M b 0 = 1) : AC0 G d m_X2_copyFrom [.ref a, .ref b] M N (CN (fun M' N' => M' = cpH M a b ∧ N' = N)) := by
  have hS := sh_home ha
  have hT := sh_home hb
  have hA1 := sh_home1 ha
  have hB1 := sh_home1 hb
  have hA2 := sh_home2 ha
  have hB2 := sh_home2 hb
  have hA3 := sh_home3 ha
  have hB3 := sh_home3 hb
  have hA4 := sh_home4 ha
  have hB4 := sh_home4 hb
  have hA5 := sh_home5 ha
  have hB5 := sh_home5 hb
  have hA6 := sh_home6 ha
  have hB6 := sh_home6 hb
  have hf := far_of ha hb hab
  have e0 : M = cpB M a b [] [] := by funext a' j; unfold cpB; by_cases h : a' = a <;> simp [h]
  rw [← cpB_all za zb]
  have nf : narrow .boolean (I (M b 0)) = I (M b 0) := by rcases h0 with h | h <;> rw [h] <;> rfl
  have ft : fits .boolean (I (M b 0)) = true := by rcases h0 with h | h <;> rw [h] <;> rfl
  have hb9 : ∀ (fs rs : List Nat), small rs → cpB M a b fs rs b = M b := fun fs rs hr => cpB_b (o := 0) hf hr (by decide)
  have s0 : small [] := by unfold small; decide
  have s1 : small [1] := by unfold small; decide
  have s2 : small [2, 1] := by unfold small; decide
  have s3 : small [3, 2, 1] := by unfold small; decide
  have s4 : small [4, 3, 2, 1] := by unfold small; decide
  have s5 : small [5, 4, 3, 2, 1] := by unfold small; decide
  have s6 : small [6, 5, 4, 3, 2, 1] := by unfold small; decide
  obtain ⟨zaf, za1, za2, za3, za4, za5, za6⟩ := id za
  obtain ⟨zbf, zb1, zb2, zb3, zb4, zb5, zb6⟩ := id zb
  refine AC.of (L0 := [_, _]) pn_X2 (Nat.le_of_ble_eq_true rfl) rfl ?_
  refine AW.to (M' := cpB M a b [] []) ?_ (h4 := e0)
  refine st_aload_n dX2_copyFrom_0 rfl ?_
  refine st_aload_n dX2_copyFrom_1 rfl ?_
  refine st_getfi dX2_copyFrom_2 f_X2_30 (by first | assumption | rfl) (by rfl) ?_
  rw [hb9 [] [] s0]
  refine st_putfi dX2_copyFrom_5 w_X2_30 (by first | assumption | rfl) (by rfl) (by first | rfl | (split <;> rfl) | assumption) (by first | rfl | assumption) ?_
  rw [cpB_f]
  refine st_aload_n dX2_copyFrom_8 rfl ?_
  refine st_aload_n dX2_copyFrom_9 rfl ?_
  refine st_getfi dX2_copyFrom_10 f_X2_34 (by first | assumption | rfl) (by rfl) ?_
  rw [hb9 [0] [] s0]
  refine st_putfi dX2_copyFrom_13 w_X2_34 (by first | assumption | rfl) (by rfl) rfl rfl ?_
  rw [cpB_f]
  refine st_aload_n dX2_copyFrom_16 rfl ?_
  refine st_aload_n dX2_copyFrom_17 rfl ?_
  refine st_getfi dX2_copyFrom_18 f_X2_38 (by first | assumption | rfl) (by rfl) ?_
  rw [hb9 [1, 0] [] s0]
  refine st_putfi dX2_copyFrom_21 w_X2_38 (by first | assumption | rfl) (by rfl) rfl rfl ?_
  rw [cpB_f]
  refine st_aload_n dX2_copyFrom_24 rfl ?_
  refine st_aload_n dX2_copyFrom_25 rfl ?_
  refine st_getfi dX2_copyFrom_26 f_X2_41 (by first | assumption | rfl) (by rfl) ?_
  rw [hb9 [2, 1, 0] [] s0]
  refine st_putfi dX2_copyFrom_29 w_X2_41 (by first | assumption | rfl) (by rfl) rfl rfl ?_
  rw [cpB_f]
  refine st_aload_n dX2_copyFrom_32 rfl ?_
  refine st_aload_n dX2_copyFrom_33 rfl ?_
  refine st_getfi dX2_copyFrom_34 f_X2_44 (by first | assumption | rfl) (by rfl) ?_
  rw [hb9 [3, 2, 1, 0] [] s0]
  refine st_putfi dX2_copyFrom_37 w_X2_44 (by first | assumption | rfl) (by rfl) rfl rfl ?_
  rw [cpB_f]
  refine st_aload_n dX2_copyFrom_40 rfl ?_
  refine st_aload_n dX2_copyFrom_41 rfl ?_
  refine st_getfi dX2_copyFrom_42 f_X2_47 (by first | assumption | rfl) (by rfl) ?_
  rw [hb9 [4, 3, 2, 1, 0] [] s0]
  refine st_putfi dX2_copyFrom_45 w_X2_47 (by first | assumption | rfl) (by rfl) rfl rfl ?_
  rw [cpB_f]
  refine st_aload_n dX2_copyFrom_48 rfl ?_
  refine st_aload_n dX2_copyFrom_49 rfl ?_
  refine st_getfi dX2_copyFrom_50 f_X2_50 (by first | assumption | rfl) (by rfl) ?_
  rw [hb9 [5, 4, 3, 2, 1, 0] [] s0]
  refine st_putfi dX2_copyFrom_53 w_X2_50 (by first | assumption | rfl) (by rfl) rfl rfl ?_
  rw [cpB_f]
  refine st_aload_n dX2_copyFrom_56 rfl ?_
  refine st_getfr dX2_copyFrom_57 f_X2_9 (by first | assumption | rfl) (by rfl) ?_
  refine st_aload_n dX2_copyFrom_60 rfl ?_
  refine st_getfr dX2_copyFrom_61 f_X2_9 (by first | assumption | rfl) (by rfl) ?_
  refine c_S2v (d' := d - 1) dX2_copyFrom_64 l_X2_53 k_X2_copyRow s_X2_copyRow (by omega) (Nat.le_of_ble_eq_true rfl) (C_copyRow (by omega) hB1 hA1 (by decide)) (fun M1 N1 hx => ?_)
  obtain ⟨rfl, rfl⟩ := hx
  rw [cpB_r hf s0 (by decide) za1 zb1 (by decide)]
  refine st_aload_n dX2_copyFrom_67 rfl ?_
  refine st_getfr dX2_copyFrom_68 f_X2_15 (by first | assumption | rfl) (by rfl) ?_
  refine st_aload_n dX2_copyFrom_71 rfl ?_
  refine st_getfr dX2_copyFrom_72 f_X2_15 (by first | assumption | rfl) (by rfl) ?_
  refine c_S2v (d' := d - 1) dX2_copyFrom_75 l_X2_53 k_X2_copyRow s_X2_copyRow (by omega) (Nat.le_of_ble_eq_true rfl) (C_copyRow (by omega) hB2 hA2 (by decide)) (fun M1 N1 hx => ?_)
  obtain ⟨rfl, rfl⟩ := hx
  rw [cpB_r hf s1 (by decide) za2 zb2 (by decide)]
  refine st_aload_n dX2_copyFrom_78 rfl ?_
  refine st_getfr dX2_copyFrom_79 f_X2_18 (by first | assumption | rfl) (by rfl) ?_
  refine st_aload_n dX2_copyFrom_82 rfl ?_
  refine st_getfr dX2_copyFrom_83 f_X2_18 (by first | assumption | rfl) (by rfl) ?_
  refine c_S2v (d' := d - 1) dX2_copyFrom_86 l_X2_53 k_X2_copyRow s_X2_copyRow (by omega) (Nat.le_of_ble_eq_true rfl) (C_copyRow (by omega) hB3 hA3 (by decide)) (fun M1 N1 hx => ?_)
  obtain ⟨rfl, rfl⟩ := hx
  rw [cpB_r hf s2 (by decide) za3 zb3 (by decide)]
  refine st_aload_n dX2_copyFrom_89 rfl ?_
  refine st_getfr dX2_copyFrom_90 f_X2_21 (by first | assumption | rfl) (by rfl) ?_
  refine st_aload_n dX2_copyFrom_93 rfl ?_
  refine st_getfr dX2_copyFrom_94 f_X2_21 (by first | assumption | rfl) (by rfl) ?_
  refine c_S2v (d' := d - 1) dX2_copyFrom_97 l_X2_53 k_X2_copyRow s_X2_copyRow (by omega) (Nat.le_of_ble_eq_true rfl) (C_copyRow (by omega) hB4 hA4 (by decide)) (fun M1 N1 hx => ?_)
  obtain ⟨rfl, rfl⟩ := hx
  rw [cpB_r hf s3 (by decide) za4 zb4 (by decide)]
  refine st_aload_n dX2_copyFrom_100 rfl ?_
  refine st_aload_n dX2_copyFrom_101 rfl ?_
  refine st_getfi dX2_copyFrom_102 f_X2_57 (by first | assumption | rfl) (by rfl) ?_
  rw [hb9 [6, 5, 4, 3, 2, 1, 0] [4, 3, 2, 1] s4]
  refine st_putfi dX2_copyFrom_105 w_X2_57 (by first | assumption | rfl) (by rfl) rfl rfl ?_
  rw [cpB_f]
  refine st_aload_n dX2_copyFrom_108 rfl ?_
  refine st_aload_n dX2_copyFrom_109 rfl ?_
  refine st_getfi dX2_copyFrom_110 f_X2_60 (by first | assumption | rfl) (by rfl) ?_
  rw [hb9 [11, 6, 5, 4, 3, 2, 1, 0] [4, 3, 2, 1] s4]
  refine st_putfi dX2_copyFrom_113 w_X2_60 (by first | assumption | rfl) (by rfl) rfl rfl ?_
  rw [cpB_f]
  refine st_aload_n dX2_copyFrom_116 rfl ?_
  refine st_aload_n dX2_copyFrom_117 rfl ?_
  refine st_getfi dX2_copyFrom_118 f_X2_63 (by first | assumption | rfl) (by rfl) ?_
  rw [hb9 [12, 11, 6, 5, 4, 3, 2, 1, 0] [4, 3, 2, 1] s4]
  refine st_putfi dX2_copyFrom_121 w_X2_63 (by first | assumption | rfl) (by rfl) rfl rfl ?_
  rw [cpB_f]
  refine st_aload_n dX2_copyFrom_124 rfl ?_
  refine st_getfr dX2_copyFrom_125 f_X2_24 (by first | assumption | rfl) (by rfl) ?_
  refine st_aload_n dX2_copyFrom_128 rfl ?_
  refine st_getfr dX2_copyFrom_129 f_X2_24 (by first | assumption | rfl) (by rfl) ?_
  refine c_S2v (d' := d - 1) dX2_copyFrom_132 l_X2_53 k_X2_copyRow s_X2_copyRow (by omega) (Nat.le_of_ble_eq_true rfl) (C_copyRow (by omega) hB5 hA5 (by decide)) (fun M1 N1 hx => ?_)
  obtain ⟨rfl, rfl⟩ := hx
  rw [cpB_r hf s4 (by decide) za5 zb5 (by decide)]
  refine st_aload_n dX2_copyFrom_135 rfl ?_
  refine st_aload_n dX2_copyFrom_136 rfl ?_
  refine st_getfi dX2_copyFrom_137 f_X2_66 (by first | assumption | rfl) (by rfl) ?_
  rw [hb9 [13, 12, 11, 6, 5, 4, 3, 2, 1, 0] [5, 4, 3, 2, 1] s5]
  refine st_putfi dX2_copyFrom_140 w_X2_66 (by first | assumption | rfl) (by rfl) rfl rfl ?_
  rw [cpB_f]
  refine st_aload_n dX2_copyFrom_143 rfl ?_
  refine st_getfr dX2_copyFrom_144 f_X2_27 (by first | assumption | rfl) (by rfl) ?_
  refine st_aload_n dX2_copyFrom_147 rfl ?_
  refine st_getfr dX2_copyFrom_148 f_X2_27 (by first | assumption | rfl) (by rfl) ?_
  refine c_S2v (d' := d - 1) dX2_copyFrom_151 l_X2_53 k_X2_copyRow s_X2_copyRow (by omega) (Nat.le_of_ble_eq_true rfl) (C_copyRow (by omega) hB6 hA6 (by decide)) (fun M1 N1 hx => ?_)
  obtain ⟨rfl, rfl⟩ := hx
  rw [cpB_r hf s5 (by decide) za6 zb6 (by decide)]
  refine st_aload_n dX2_copyFrom_154 rfl ?_
  refine st_aload_n dX2_copyFrom_155 rfl ?_
  refine st_getfi dX2_copyFrom_156 f_X2_69 (by first | assumption | rfl) (by rfl) ?_
  rw [hb9 [15, 13, 12, 11, 6, 5, 4, 3, 2, 1, 0] [6, 5, 4, 3, 2, 1] s6]
  refine st_putfi dX2_copyFrom_159 w_X2_69 (by first | assumption | rfl) (by rfl) rfl rfl ?_
  rw [cpB_f]
  refine st_aload_n dX2_copyFrom_162 rfl ?_
  refine st_aload_n dX2_copyFrom_163 rfl ?_
  refine st_getfi dX2_copyFrom_164 f_X2_72 (by first | assumption | rfl) (by rfl) ?_
  rw [hb9 [17, 15, 13, 12, 11, 6, 5, 4, 3, 2, 1, 0] [6, 5, 4, 3, 2, 1] s6]
  refine st_putfi dX2_copyFrom_167 w_X2_72 (by first | assumption | rfl) (by rfl) rfl rfl ?_
  rw [cpB_f]
  exact r_v dX2_copyFrom_170 rfl ⟨rfl, rfl⟩


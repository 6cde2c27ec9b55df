/-! the system reads a house: clauses -/
def wsH : List (List Int) := [chL 6, chL 7, chL 8, chL 9, chL 10, chL 11]
theorem wsH_jn : chL 0 = jnW wsH := by decide +kernel
theorem C_readNumberX {G : q_G} {d : Nat} {M : q_Mem} {N : q_MemL} {n : Nat} {lo hi F : Int} (hd : 2 ≤ d) (h : TE M n F) : AC0 G d m_X8_readNumber [.ref 1, I lo, I hi] M N (CV (fun x M' N' => N' = N ∧ x = I lo ∧ M' = M)) := by
  refine AC.mono (fun v S' M' N' hq => ?_) (C_readNumberE (lo := lo) (hi := hi) hd h)
  obtain ⟨hS, x, hv, hx, hM, hN⟩ := hq
  exact ⟨hS, x, hv, hN, hx, hM⟩
theorem C_readRest {G : q_G} {d : Nat} {M : q_Mem} {N : q_MemL} {n p : Nat} {w : Int} (hd : 4 ≤ d) (h : TP M n p) (hH : HP M) (hw : 0 ≤ w ∧ w ≤ 5) (h1 : w = 1 → 1 ≤ M 10 3 ∧ M 10 3 < 8) (h7 : w = 2 → M 10 4 < 7) (h3 : w = 4 → M 10 5 < 3) : AC0 G d m_X3_readRest [.ref 83, I w] M N (CN (fun M' N' => N' = N ∧ hQ [1, 10, 11, 12, 13, 14] M n (hRest n w M) M')) := by
  have hH0 := hH
  obtain ⟨⟨r1, r2⟩, ⟨r3, r4⟩, ⟨r5, r6⟩, ⟨r7, r8⟩, ⟨r9, r10⟩, r11, r12⟩ := hH
  have hc : w = 0 ∨ w = 1 ∨ w = 2 ∨ w = 3 ∨ w = 4 ∨ w = 5 := by omega
  rcases hc with rfl | rfl | rfl | rfl | rfl | rfl
  · unfold hRest
    rw [if_pos rfl]
    refine AC.of (L0 := [_, _, none, none, none]) pn_X3 (Nat.le_of_ble_eq_true rfl) rfl ?_
    refine st_iload_n dX3_readRest_0 rfl ?_
    refine st_tsIn (off := 35) (tgt := 36) dX3_readRest_1 (by decide) (by decide) (by decide) rfl rfl ?_
    refine st_aload_n dX3_readRest_36 rfl ?_
    refine st_getfr dX3_readRest_37 f_X3_15 (by first | with_reducible assumption | rfl) (by rfl) ?_
    refine st_aload_n dX3_readRest_40 rfl ?_
    refine st_getfr dX3_readRest_41 f_X3_9 (by first | with_reducible assumption | rfl) (by rfl) ?_
    refine st_iconst dX3_readRest_44 ?_
    refine st_iconst dX3_readRest_45 ?_
    refine c_V2i (d' := d - 1) dX3_readRest_46 l_X3_78 k_X8_readNumber i_X8_readNumber (Or.inl ⟨_, _, _, _, _, (by first | with_reducible assumption | rfl), by rfl⟩) (by omega) (Nat.le_of_ble_eq_true rfl) (C_rd (by omega) h (by unfold i32; omega) (by unfold i32; omega)) (fun x M2 N2 hx => ?_)
    obtain ⟨rfl, hx⟩ := hx
    rcases hx with ⟨v, hr, rfl⟩ | ⟨F, hr, rfl, hE2, hT2⟩
    · obtain ⟨k1, ⟨p2, k2⟩, k3, -⟩ := rd_ok h hr
      rw [hr]
      dsimp only
      refine st_putfi dX3_readRest_49 w_X3_82 (by first | with_reducible assumption | rfl) (by rfl) rfl rfl ?_
      refine st_aload_n dX3_readRest_52 rfl ?_
      refine st_getfr dX3_readRest_53 f_X3_15 (by first | with_reducible assumption | rfl) (by rfl) ?_
      refine st_aload_n dX3_readRest_56 rfl ?_
      refine st_getfr dX3_readRest_57 f_X3_9 (by first | with_reducible assumption | rfl) (by rfl) ?_
      refine st_iconst dX3_readRest_60 ?_
      refine st_bipush dX3_readRest_61 (by decide) ?_
      have hT3 : TP (q_up M2 10 1 v) n p2 := k2.exc (Exc.up (L := [10]) (by simp)) (by simp)
      refine c_V2i (d' := d - 1) dX3_readRest_63 l_X3_78 k_X8_readNumber i_X8_readNumber (Or.inl ⟨_, _, _, _, _, (by first | with_reducible assumption | rfl), by rfl⟩) (by omega) (Nat.le_of_ble_eq_true rfl) (C_rd (by omega) hT3 (by unfold i32; omega) (by unfold i32; omega)) (fun x M3 N3 hx => ?_)
      obtain ⟨rfl, hx⟩ := hx
      rcases hx with ⟨v2, hr2, rfl⟩ | ⟨F, hr2, rfl, hE3, hT4⟩
      · rw [hr2]
        refine st_putfi dX3_readRest_66 w_X3_85 (by first | with_reducible assumption | rfl) (by rfl) rfl rfl ?_
        refine st_aload_n dX3_readRest_69 rfl ?_
        refine st_getfr dX3_readRest_70 f_X3_15 (by first | with_reducible assumption | rfl) (by rfl) ?_
        refine st_iconst dX3_readRest_73 ?_
        refine st_putfi dX3_readRest_74 w_X3_69 (by first | with_reducible assumption | rfl) (by rfl) rfl rfl ?_
        refine st_goto (tgt := 316) dX3_readRest_77 rfl ?_
        refine r_v dX3_readRest_316 rfl ⟨rfl, Or.inl rfl⟩
      · rw [hr2]
        refine st_putfi dX3_readRest_66 w_X3_85 (by first | with_reducible assumption | rfl) (by rfl) rfl rfl ?_
        refine st_aload_n dX3_readRest_69 rfl ?_
        refine st_getfr dX3_readRest_70 f_X3_15 (by first | with_reducible assumption | rfl) (by rfl) ?_
        refine st_iconst dX3_readRest_73 ?_
        refine st_putfi dX3_readRest_74 w_X3_69 (by first | with_reducible assumption | rfl) (by rfl) rfl rfl ?_
        refine st_goto (tgt := 316) dX3_readRest_77 rfl ?_
        refine r_v dX3_readRest_316 rfl ⟨rfl, Or.inr ⟨F, rfl, ?_, (hT4.exc (Exc.up (L := [10]) (by simp)) (by simp)).exc (Exc.up (L := [10]) (by simp)) (by simp)⟩⟩
        exact ((k1.hz (by simp)).tr (Exh.up (by simp) (by omega))).tr ((hE3.hz (by simp)).tr ((Exh.up (by simp) (by omega)).tr (Exh.up (by simp) (by omega))))
    · rw [hr]
      dsimp only
      refine st_putfi dX3_readRest_49 w_X3_82 (by first | with_reducible assumption | rfl) (by rfl) rfl rfl ?_
      refine st_aload_n dX3_readRest_52 rfl ?_
      refine st_getfr dX3_readRest_53 f_X3_15 (by first | with_reducible assumption | rfl) (by rfl) ?_
      refine st_aload_n dX3_readRest_56 rfl ?_
      refine st_getfr dX3_readRest_57 f_X3_9 (by first | with_reducible assumption | rfl) (by rfl) ?_
      refine st_iconst dX3_readRest_60 ?_
      refine st_bipush dX3_readRest_61 (by decide) ?_
      have hT3 : TE (q_up M2 10 1 1) n F := hT2.exc (Exc.up (L := [10]) (by simp)) (by simp)
      refine c_V2p (d' := d - 1) dX3_readRest_63 l_X3_78 k_X8_readNumber i_X8_readNumber (Or.inl ⟨_, _, _, _, _, (by first | with_reducible assumption | rfl), by rfl⟩) (by omega) (Nat.le_of_ble_eq_true rfl) (C_readNumberE (by omega) hT3) ?_
      refine st_putfi dX3_readRest_66 w_X3_85 (by first | with_reducible assumption | rfl) (by rfl) rfl rfl ?_
      refine st_aload_n dX3_readRest_69 rfl ?_
      refine st_getfr dX3_readRest_70 f_X3_15 (by first | with_reducible assumption | rfl) (by rfl) ?_
      refine st_iconst dX3_readRest_73 ?_
      refine st_putfi dX3_readRest_74 w_X3_69 (by first | with_reducible assumption | rfl) (by rfl) rfl rfl ?_
      refine st_goto (tgt := 316) dX3_readRest_77 rfl ?_
      refine r_v dX3_readRest_316 rfl ⟨rfl, Or.inr ⟨F, rfl, ?_, (hT3.exc (Exc.up (L := [10]) (by simp)) (by simp)).exc (Exc.up (L := [10]) (by simp)) (by simp)⟩⟩
      exact (hE2.hz (by simp)).tr ((Exh.up (by simp) (by omega)).tr ((Exh.up (by simp) (by omega)).tr (Exh.up (by simp) (by omega))))
  · obtain ⟨g1, g2⟩ := h1 rfl
    obtain ⟨s, hs⟩ : ∃ s : Nat, M 10 3 = (s : Int) := ⟨(M 10 3).toNat, by omega⟩
    unfold hRest
    rw [if_neg (by decide), if_pos rfl]
    refine AC.of (L0 := [_, _, none, none, none]) pn_X3 (Nat.le_of_ble_eq_true rfl) rfl ?_
    refine st_iload_n dX3_readRest_0 rfl ?_
    refine st_tsIn (off := 79) (tgt := 80) dX3_readRest_1 (by decide) (by decide) (by decide) rfl rfl ?_
    refine st_aload_n dX3_readRest_80 rfl ?_
    refine st_getfr dX3_readRest_81 f_X3_15 (by first | with_reducible assumption | rfl) (by rfl) ?_
    refine st_getfr dX3_readRest_84 f_X3_88 (by first | with_reducible assumption | rfl) (by rfl) ?_
    refine st_aload_n dX3_readRest_87 rfl ?_
    refine st_getfr dX3_readRest_88 f_X3_15 (by first | with_reducible assumption | rfl) (by rfl) ?_
    refine st_getfi dX3_readRest_91 f_X3_69 (by first | with_reducible assumption | rfl) (by rfl) ?_
    rw [hs]
    refine st_iconst dX3_readRest_94 ?_
    refine st_isub dX3_readRest_95 ?_
    refine c_S2p (d' := d - 1) dX3_readRest_96 l_X3_92 k_X10_cell s_X10_cell (by omega) (Nat.le_of_ble_eq_true rfl) (C_cell (n := 8) (z := M 11 (s - 1)) rfl (by omega) (by omega) (by rw [if_pos (by omega), show ((s : Int) - 1).toNat = s - 1 by omega])) ?_
    refine st_istore_n (L' := [_, _, _, _, _]) dX3_readRest_99 (by decide) rfl rfl ?_
    refine st_aload_n dX3_readRest_100 rfl ?_
    refine st_getfr dX3_readRest_101 f_X3_15 (by first | with_reducible assumption | rfl) (by rfl) ?_
    refine st_getfr dX3_readRest_104 f_X3_88 (by first | with_reducible assumption | rfl) (by rfl) ?_
    refine st_aload_n dX3_readRest_107 rfl ?_
    refine st_getfr dX3_readRest_108 f_X3_15 (by first | with_reducible assumption | rfl) (by rfl) ?_
    refine st_getfi dX3_readRest_111 f_X3_69 (by first | with_reducible assumption | rfl) (by rfl) ?_
    rw [hs]
    refine st_iload_n dX3_readRest_114 rfl ?_
    refine st_aload_n dX3_readRest_115 rfl ?_
    refine st_getfr dX3_readRest_116 f_X3_9 (by first | with_reducible assumption | rfl) (by rfl) ?_
    refine st_iconst dX3_readRest_119 ?_
    refine st_bipush dX3_readRest_120 (by decide) ?_
    refine c_V2i (d' := d - 1) dX3_readRest_122 l_X3_78 k_X8_readNumber i_X8_readNumber (Or.inl ⟨_, _, _, _, _, (by first | with_reducible assumption | rfl), by rfl⟩) (by omega) (Nat.le_of_ble_eq_true rfl) (C_rd (by omega) h (by unfold i32; omega) (by unfold i32; omega)) (fun x M2 N2 hx => ?_)
    obtain ⟨rfl, hx⟩ := hx
    rcases hx with ⟨v, hr, rfl⟩ | ⟨F, hr, rfl, hE2, hT2⟩
    · obtain ⟨k1, ⟨p2, k2⟩, k3, -⟩ := rd_ok h hr
      rw [hr]
      dsimp only
      have e10 : M2 10 = M 10 := k1 10 (by simp)
      refine st_iadd dX3_readRest_125 ?_
      refine c_S3v (d' := d - 1) dX3_readRest_126 l_X3_96 k_X10_put s_X10_put (by omega) (Nat.le_of_ble_eq_true rfl) (C_put (n := 8) rfl (by omega) (by omega)) (fun M3 N3 hx => ?_)
      obtain ⟨rfl, rfl⟩ := hx
      rw [if_pos (by omega)]
      refine st_aload_n dX3_readRest_129 rfl ?_
      refine st_getfr dX3_readRest_130 f_X3_15 (by first | with_reducible assumption | rfl) (by rfl) ?_
      refine st_dup dX3_readRest_133 rfl ?_
      refine st_getfi dX3_readRest_134 f_X3_69 (by first | with_reducible assumption | rfl) (by rfl) ?_
      rw [show q_up M2 11 ((s : Int)).toNat (M 11 (s - 1) + v) 10 3 = (s : Int) by simp [q_up, e10, hs]]
      refine st_iconst dX3_readRest_137 ?_
      refine st_iadd dX3_readRest_138 ?_
      refine st_putfi dX3_readRest_139 w_X3_69 (by first | with_reducible assumption | rfl) (by rfl) rfl rfl ?_
      refine st_goto (tgt := 316) dX3_readRest_142 rfl ?_
      refine r_v dX3_readRest_316 rfl ⟨rfl, Or.inl ?_⟩
      rw [Int.toNat_natCast]
    · rw [hr]
      dsimp only
      have e10 : M2 10 = M 10 := hE2 10 (by simp)
      refine st_iadd dX3_readRest_125 ?_
      refine c_S3v (d' := d - 1) dX3_readRest_126 l_X3_96 k_X10_put s_X10_put (by omega) (Nat.le_of_ble_eq_true rfl) (C_put (n := 8) rfl (by omega) (by omega)) (fun M3 N3 hx => ?_)
      obtain ⟨rfl, rfl⟩ := hx
      rw [if_pos (by omega)]
      refine st_aload_n dX3_readRest_129 rfl ?_
      refine st_getfr dX3_readRest_130 f_X3_15 (by first | with_reducible assumption | rfl) (by rfl) ?_
      refine st_dup dX3_readRest_133 rfl ?_
      refine st_getfi dX3_readRest_134 f_X3_69 (by first | with_reducible assumption | rfl) (by rfl) ?_
      rw [show q_up M2 11 ((s : Int)).toNat (M 11 (s - 1) + 1) 10 3 = (s : Int) by simp [q_up, e10, hs]]
      refine st_iconst dX3_readRest_137 ?_
      refine st_iadd dX3_readRest_138 ?_
      refine st_putfi dX3_readRest_139 w_X3_69 (by first | with_reducible assumption | rfl) (by rfl) rfl rfl ?_
      refine st_goto (tgt := 316) dX3_readRest_142 rfl ?_
      refine r_v dX3_readRest_316 rfl ⟨rfl, Or.inr ⟨F, rfl, ?_, (hT2.exc (Exc.up (L := [11]) (by simp)) (by simp)).exc (Exc.up (L := [10]) (by simp)) (by simp)⟩⟩
      exact (hE2.hz (by simp)).tr ((Exh.up (by simp) (by omega)).tr (Exh.up (by simp) (by omega)))
  · refine AC.of (L0 := [_, _, none, none, none]) pn_X3 (Nat.le_of_ble_eq_true rfl) rfl ?_
    refine st_iload_n dX3_readRest_0 rfl ?_
    refine st_tsIn (off := 144) (tgt := 145) dX3_readRest_1 (by decide) (by decide) (by decide) rfl rfl ?_
    refine st_aload_n dX3_readRest_145 rfl ?_
    refine c_V0v (d' := d - 1) dX3_readRest_146 l_X3_100 k_X3_readPerson i_X3_readPerson (Or.inl ⟨_, _, _, _, _, (by first | with_reducible assumption | rfl), by rfl⟩) (by omega) (Nat.le_of_ble_eq_true rfl) (C_hperson (by omega) h hH0 (h7 rfl)) (fun M2 N2 hx => ?_)
    obtain ⟨rfl, hx⟩ := hx
    refine st_goto (tgt := 316) dX3_readRest_149 rfl ?_
    refine r_v dX3_readRest_316 rfl ⟨rfl, ?_⟩
    rcases hx with hx | ⟨F, h1, h2, h3⟩
    · exact Or.inl hx
    · exact Or.inr ⟨F, h1, h2.sub (by simp), h3⟩
  · unfold hRest
    rw [if_neg (by decide), if_neg (by decide), if_neg (by decide), if_pos rfl]
    refine AC.of (L0 := [_, _, none, none, none]) pn_X3 (Nat.le_of_ble_eq_true rfl) rfl ?_
    refine st_iload_n dX3_readRest_0 rfl ?_
    refine st_tsIn (off := 151) (tgt := 152) dX3_readRest_1 (by decide) (by decide) (by decide) rfl rfl ?_
    refine st_aload_n dX3_readRest_152 rfl ?_
    refine st_getfr dX3_readRest_153 f_X3_15 (by first | with_reducible assumption | rfl) (by rfl) ?_
    refine st_dup dX3_readRest_156 rfl ?_
    refine st_getfi dX3_readRest_157 f_X3_103 (by first | with_reducible assumption | rfl) (by rfl) ?_
    refine st_iconst dX3_readRest_160 ?_
    refine st_aload_n dX3_readRest_161 rfl ?_
    refine st_getfr dX3_readRest_162 f_X3_9 (by first | with_reducible assumption | rfl) (by rfl) ?_
    refine st_iconst dX3_readRest_165 ?_
    refine st_aload_n dX3_readRest_166 rfl ?_
    refine st_getfr dX3_readRest_167 f_X3_15 (by first | with_reducible assumption | rfl) (by rfl) ?_
    refine st_getfi dX3_readRest_170 f_X3_72 (by first | with_reducible assumption | rfl) (by rfl) ?_
    refine st_iconst dX3_readRest_173 ?_
    refine st_isub dX3_readRest_174 ?_
    refine c_V2i (d' := d - 1) dX3_readRest_175 l_X3_78 k_X8_readNumber i_X8_readNumber (Or.inl ⟨_, _, _, _, _, (by first | with_reducible assumption | rfl), by rfl⟩) (by omega) (Nat.le_of_ble_eq_true rfl) (C_rd (by omega) h (by unfold i32; omega) (by unfold i32; omega)) (fun x M2 N2 hx => ?_)
    obtain ⟨rfl, hx⟩ := hx
    rcases hx with ⟨v, hr, rfl⟩ | ⟨F, hr, rfl, hE2, hT2⟩
    · obtain ⟨k1, ⟨p2, k2⟩, k3, -⟩ := rd_ok h hr
      rw [hr]
      dsimp only
      obtain ⟨vn, rfl⟩ : ∃ vn : Nat, v = (vn : Int) := ⟨v.toNat, by omega⟩
      refine st_ishl dX3_readRest_178 ?_
      refine st_ior dX3_readRest_179 ?_
      refine AW.top (z_set r11.1 (by omega)) ?_
      refine st_putfi dX3_readRest_180 w_X3_103 (by first | with_reducible assumption | rfl) (by rfl) rfl rfl ?_
      refine st_goto (tgt := 316) dX3_readRest_183 rfl ?_
      refine r_v dX3_readRest_316 rfl ⟨rfl, Or.inl ?_⟩
      rw [Int.toNat_natCast]
    · rw [hr]
      dsimp only
      refine st_ishl dX3_readRest_178 ?_
      refine st_ior dX3_readRest_179 ?_
      refine AW.top (z_set (p := 0) r11.1 (by omega)) ?_
      refine st_putfi dX3_readRest_180 w_X3_103 (by first | with_reducible assumption | rfl) (by rfl) rfl rfl ?_
      refine st_goto (tgt := 316) dX3_readRest_183 rfl ?_
      refine r_v dX3_readRest_316 rfl ⟨rfl, Or.inr ⟨F, rfl, ?_, hT2.exc (Exc.up (L := [10]) (by simp)) (by simp)⟩⟩
      exact (hE2.hz (by simp)).tr (Exh.up (by simp) (by omega))
  · obtain ⟨t, ht⟩ : ∃ t : Nat, M 10 5 = (t : Int) := ⟨(M 10 5).toNat, by omega⟩
    have ht3 := h3 rfl
    unfold hRest
    rw [if_neg (by decide), if_neg (by decide), if_neg (by decide), if_neg (by decide), if_pos rfl]
    refine AC.of (L0 := [_, _, none, none, none]) pn_X3 (Nat.le_of_ble_eq_true rfl) rfl ?_
    refine st_iload_n dX3_readRest_0 rfl ?_
    refine st_tsIn (off := 185) (tgt := 186) dX3_readRest_1 (by decide) (by decide) (by decide) rfl rfl ?_
    refine st_aload_n dX3_readRest_186 rfl ?_
    refine st_getfr dX3_readRest_187 f_X3_9 (by first | with_reducible assumption | rfl) (by rfl) ?_
    refine st_iconst dX3_readRest_190 ?_
    refine st_aload_n dX3_readRest_191 rfl ?_
    refine st_getfr dX3_readRest_192 f_X3_15 (by first | with_reducible assumption | rfl) (by rfl) ?_
    refine st_getfi dX3_readRest_195 f_X3_82 (by first | with_reducible assumption | rfl) (by rfl) ?_
    refine st_iconst dX3_readRest_198 ?_
    refine st_isub dX3_readRest_199 ?_
    refine c_V2i (d' := d - 1) dX3_readRest_200 l_X3_78 k_X8_readNumber i_X8_readNumber (Or.inl ⟨_, _, _, _, _, (by first | with_reducible assumption | rfl), by rfl⟩) (by omega) (Nat.le_of_ble_eq_true rfl) (C_rd (by omega) h (by unfold i32; omega) (by unfold i32; omega)) (fun x M2 N2 hx => ?_)
    obtain ⟨rfl, hx⟩ := hx
    rcases hx with ⟨v, hr, rfl⟩ | ⟨F, hr, rfl, hE2, hT2⟩
    · obtain ⟨k1, ⟨p2, k2⟩, k3, -⟩ := rd_ok h hr
      rw [hr]
      dsimp only
      have e10 : M2 10 = M 10 := k1 10 (by simp)
      refine st_istore_n (L' := [_, _, _, _, _]) dX3_readRest_203 (by decide) rfl rfl ?_
      refine st_aload_n dX3_readRest_204 rfl ?_
      refine st_getfr dX3_readRest_205 f_X3_15 (by first | with_reducible assumption | rfl) (by rfl) ?_
      refine st_aload_n dX3_readRest_208 rfl ?_
      refine st_getfr dX3_readRest_209 f_X3_15 (by first | with_reducible assumption | rfl) (by rfl) ?_
      refine st_getfi dX3_readRest_212 f_X3_106 (by first | with_reducible assumption | rfl) (by rfl) ?_
      refine st_bipush dX3_readRest_215 (by decide) ?_
      refine st_aload_n dX3_readRest_217 rfl ?_
      refine st_getfr dX3_readRest_218 f_X3_15 (by first | with_reducible assumption | rfl) (by rfl) ?_
      refine st_getfi dX3_readRest_221 f_X3_75 (by first | with_reducible assumption | rfl) (by rfl) ?_
      rw [e10, ht]
      refine st_iadd dX3_readRest_224 ?_
      refine st_iload_n dX3_readRest_225 rfl ?_
      rw [show (7 : Int) + (t : Int) = ((7 + t : Nat) : Int) by omega]
      refine c_S3p (d' := d - 1) dX3_readRest_226 l_X3_109 k_X10_withRoom s_X10_withRoom (by omega) (Nat.le_of_ble_eq_true rfl) (C_withRoom (k := 7 + t) r12.1 (by omega) (by omega)) ?_
      refine st_putfi dX3_readRest_229 w_X3_106 (by first | with_reducible assumption | rfl) (by rfl) rfl rfl ?_
      refine st_aload_n dX3_readRest_232 rfl ?_
      refine st_getfr dX3_readRest_233 f_X3_15 (by first | with_reducible assumption | rfl) (by rfl) ?_
      refine st_getfr dX3_readRest_236 f_X3_113 (by first | with_reducible assumption | rfl) (by rfl) ?_
      refine st_aload_n dX3_readRest_239 rfl ?_
      refine st_getfr dX3_readRest_240 f_X3_15 (by first | with_reducible assumption | rfl) (by rfl) ?_
      refine st_getfi dX3_readRest_243 f_X3_75 (by first | with_reducible assumption | rfl) (by rfl) ?_
      rw [show q_up M2 10 13 (w4 (M 10 13) (7 + t) v) 10 5 = (t : Int) by simp [q_up, e10, ht]]
      refine st_aload_n dX3_readRest_246 rfl ?_
      refine st_getfr dX3_readRest_247 f_X3_9 (by first | with_reducible assumption | rfl) (by rfl) ?_
      refine st_iconst dX3_readRest_250 ?_
      refine st_bipush dX3_readRest_251 (by decide) ?_
      have hT3 : TP (q_up M2 10 13 (w4 (M 10 13) (7 + t) v)) n p2 := k2.exc (Exc.up (L := [10]) (by simp)) (by simp)
      refine c_V2i (d' := d - 1) dX3_readRest_253 l_X3_78 k_X8_readNumber i_X8_readNumber (Or.inl ⟨_, _, _, _, _, (by first | with_reducible assumption | rfl), by rfl⟩) (by omega) (Nat.le_of_ble_eq_true rfl) (C_rd (by omega) hT3 (by unfold i32; omega) (by unfold i32; omega)) (fun x M3 N3 hx => ?_)
      obtain ⟨rfl, hx⟩ := hx
      rcases hx with ⟨v2, hr2, rfl⟩ | ⟨F, hr2, rfl, hE3, hT4⟩
      · obtain ⟨j1, ⟨p3, j2⟩, j3, -⟩ := rd_ok hT3 hr2
        have f5 : M3 10 5 = (t : Int) := by rw [j1 10 (by simp)]; simp [q_up, e10, ht]
        refine c_S3v (d' := d - 1) dX3_readRest_256 l_X3_96 k_X10_put s_X10_put (by omega) (Nat.le_of_ble_eq_true rfl) (C_put (n := 3) rfl (by omega) (by omega)) (fun M4 N4 hx => ?_)
        obtain ⟨rfl, rfl⟩ := hx
        rw [if_pos (by omega)]
        refine st_aload_n dX3_readRest_259 rfl ?_
        refine st_getfr dX3_readRest_260 f_X3_15 (by first | with_reducible assumption | rfl) (by rfl) ?_
        refine st_dup dX3_readRest_263 rfl ?_
        refine st_getfi dX3_readRest_264 f_X3_75 (by first | with_reducible assumption | rfl) (by rfl) ?_
        rw [show q_up M3 13 ((t : Int)).toNat v2 10 5 = (t : Int) by simp [q_up, f5]]
        refine st_iconst dX3_readRest_267 ?_
        refine st_iadd dX3_readRest_268 ?_
        refine st_putfi dX3_readRest_269 w_X3_75 (by first | with_reducible assumption | rfl) (by rfl) rfl rfl ?_
        refine st_goto (tgt := 316) dX3_readRest_272 rfl ?_
        refine r_v dX3_readRest_316 rfl ⟨rfl, Or.inl ?_⟩
        rw [Int.toNat_natCast, hr2]
      · have f5 : M3 10 5 = (t : Int) := by rw [hE3 10 (by simp)]; simp [q_up, e10, ht]
        refine c_S3v (d' := d - 1) dX3_readRest_256 l_X3_96 k_X10_put s_X10_put (by omega) (Nat.le_of_ble_eq_true rfl) (C_put (n := 3) rfl (by omega) (by omega)) (fun M4 N4 hx => ?_)
        obtain ⟨rfl, rfl⟩ := hx
        rw [if_pos (by omega)]
        refine st_aload_n dX3_readRest_259 rfl ?_
        refine st_getfr dX3_readRest_260 f_X3_15 (by first | with_reducible assumption | rfl) (by rfl) ?_
        refine st_dup dX3_readRest_263 rfl ?_
        refine st_getfi dX3_readRest_264 f_X3_75 (by first | with_reducible assumption | rfl) (by rfl) ?_
        rw [show q_up M3 13 ((t : Int)).toNat 0 10 5 = (t : Int) by simp [q_up, f5]]
        refine st_iconst dX3_readRest_267 ?_
        refine st_iadd dX3_readRest_268 ?_
        refine st_putfi dX3_readRest_269 w_X3_75 (by first | with_reducible assumption | rfl) (by rfl) rfl rfl ?_
        refine st_goto (tgt := 316) dX3_readRest_272 rfl ?_
        refine r_v dX3_readRest_316 rfl ⟨rfl, Or.inr ⟨F, ?_, ?_, (hT4.exc (Exc.up (L := [13]) (by simp)) (by simp)).exc (Exc.up (L := [10]) (by simp)) (by simp)⟩⟩
        · rw [Int.toNat_natCast, hr2]
        · exact ((k1.hz (by simp)).tr (Exh.up (by simp) (by omega))).tr ((hE3.hz (by simp)).tr ((Exh.up (by simp) (by omega)).tr (Exh.up (by simp) (by omega))))
    · rw [hr]
      dsimp only
      have e10 : M2 10 = M 10 := hE2 10 (by simp)
      refine st_istore_n (L' := [_, _, _, _, _]) dX3_readRest_203 (by decide) rfl rfl ?_
      refine st_aload_n dX3_readRest_204 rfl ?_
      refine st_getfr dX3_readRest_205 f_X3_15 (by first | with_reducible assumption | rfl) (by rfl) ?_
      refine st_aload_n dX3_readRest_208 rfl ?_
      refine st_getfr dX3_readRest_209 f_X3_15 (by first | with_reducible assumption | rfl) (by rfl) ?_
      refine st_getfi dX3_readRest_212 f_X3_106 (by first | with_reducible assumption | rfl) (by rfl) ?_
      refine st_bipush dX3_readRest_215 (by decide) ?_
      refine st_aload_n dX3_readRest_217 rfl ?_
      refine st_getfr dX3_readRest_218 f_X3_15 (by first | with_reducible assumption | rfl) (by rfl) ?_
      refine st_getfi dX3_readRest_221 f_X3_75 (by first | with_reducible assumption | rfl) (by rfl) ?_
      rw [e10, ht]
      refine st_iadd dX3_readRest_224 ?_
      refine st_iload_n dX3_readRest_225 rfl ?_
      rw [show (7 : Int) + (t : Int) = ((7 + t : Nat) : Int) by omega]
      refine c_S3p (d' := d - 1) dX3_readRest_226 l_X3_109 k_X10_withRoom s_X10_withRoom (by omega) (Nat.le_of_ble_eq_true rfl) (C_withRoom (k := 7 + t) r12.1 (by omega) (by omega)) ?_
      refine st_putfi dX3_readRest_229 w_X3_106 (by first | with_reducible assumption | rfl) (by rfl) rfl rfl ?_
      refine st_aload_n dX3_readRest_232 rfl ?_
      refine st_getfr dX3_readRest_233 f_X3_15 (by first | with_reducible assumption | rfl) (by rfl) ?_
      refine st_getfr dX3_readRest_236 f_X3_113 (by first | with_reducible assumption | rfl) (by rfl) ?_
      refine st_aload_n dX3_readRest_239 rfl ?_
      refine st_getfr dX3_readRest_240 f_X3_15 (by first | with_reducible assumption | rfl) (by rfl) ?_
      refine st_getfi dX3_readRest_243 f_X3_75 (by first | with_reducible assumption | rfl) (by rfl) ?_
      rw [show q_up M2 10 13 (w4 (M 10 13) (7 + t) 0) 10 5 = (t : Int) by simp [q_up, e10, ht]]
      refine st_aload_n dX3_readRest_246 rfl ?_
      refine st_getfr dX3_readRest_247 f_X3_9 (by first | with_reducible assumption | rfl) (by rfl) ?_
      refine st_iconst dX3_readRest_250 ?_
      refine st_bipush dX3_readRest_251 (by decide) ?_
      have hT3 : TE (q_up M2 10 13 (w4 (M 10 13) (7 + t) 0)) n F := hT2.exc (Exc.up (L := [10]) (by simp)) (by simp)
      refine c_V2p (d' := d - 1) dX3_readRest_253 l_X3_78 k_X8_readNumber i_X8_readNumber (Or.inl ⟨_, _, _, _, _, (by first | with_reducible assumption | rfl), by rfl⟩) (by omega) (Nat.le_of_ble_eq_true rfl) (C_readNumberE (by omega) hT3) ?_
      refine c_S3v (d' := d - 1) dX3_readRest_256 l_X3_96 k_X10_put s_X10_put (by omega) (Nat.le_of_ble_eq_true rfl) (C_put (n := 3) rfl (by omega) (by omega)) (fun M4 N4 hx => ?_)
      obtain ⟨rfl, rfl⟩ := hx
      rw [if_pos (by omega)]
      refine st_aload_n dX3_readRest_259 rfl ?_
      refine st_getfr dX3_readRest_260 f_X3_15 (by first | with_reducible assumption | rfl) (by rfl) ?_
      refine st_dup dX3_readRest_263 rfl ?_
      refine st_getfi dX3_readRest_264 f_X3_75 (by first | with_reducible assumption | rfl) (by rfl) ?_
      rw [show q_up (q_up M2 10 13 (w4 (M 10 13) (7 + t) 0)) 13 ((t : Int)).toNat 0 10 5 = (t : Int) by simp [q_up, e10, ht]]
      refine st_iconst dX3_readRest_267 ?_
      refine st_iadd dX3_readRest_268 ?_
      refine st_putfi dX3_readRest_269 w_X3_75 (by first | with_reducible assumption | rfl) (by rfl) rfl rfl ?_
      refine st_goto (tgt := 316) dX3_readRest_272 rfl ?_
      refine r_v dX3_readRest_316 rfl ⟨rfl, Or.inr ⟨F, rfl, ?_, (hT3.exc (Exc.up (L := [13]) (by simp)) (by simp)).exc (Exc.up (L := [10]) (by simp)) (by simp)⟩⟩
      exact (hE2.hz (by simp)).tr ((Exh.up (by simp) (by omega)).tr ((Exh.up (by simp) (by omega)).tr (Exh.up (by simp) (by omega))))
  · unfold hRest
    rw [if_neg (by decide), if_neg (by decide), if_neg (by decide), if_neg (by decide), if_neg (by decide)]
    refine AC.of (L0 := [_, _, none, none, none]) pn_X3 (Nat.le_of_ble_eq_true rfl) rfl ?_
    refine st_iload_n dX3_readRest_0 rfl ?_
    refine st_tsOut (tgt := 275) dX3_readRest_1 (by omega) (by omega) rfl ?_
    refine st_aload_n dX3_readRest_275 rfl ?_
    refine st_getfr dX3_readRest_276 f_X3_9 (by first | with_reducible assumption | rfl) (by rfl) ?_
    refine st_iconst dX3_readRest_279 ?_
    refine st_aload_n dX3_readRest_280 rfl ?_
    refine st_getfr dX3_readRest_281 f_X3_15 (by first | with_reducible assumption | rfl) (by rfl) ?_
    refine st_getfi dX3_readRest_284 f_X3_72 (by first | with_reducible assumption | rfl) (by rfl) ?_
    refine st_iconst dX3_readRest_287 ?_
    refine st_isub dX3_readRest_288 ?_
    refine c_V2i (d' := d - 1) dX3_readRest_289 l_X3_78 k_X8_readNumber i_X8_readNumber (Or.inl ⟨_, _, _, _, _, (by first | with_reducible assumption | rfl), by rfl⟩) (by omega) (Nat.le_of_ble_eq_true rfl) (C_rd (by omega) h (by unfold i32; omega) (by unfold i32; omega)) (fun x M2 N2 hx => ?_)
    obtain ⟨rfl, hx⟩ := hx
    rcases hx with ⟨v, hr, rfl⟩ | ⟨F, hr, rfl, hE2, hT2⟩
    · obtain ⟨k1, ⟨p2, k2⟩, k3, -⟩ := rd_ok h hr
      rw [hr]
      dsimp only
      refine st_istore (L' := [_, _, _, _, _]) dX3_readRest_292 (by decide) rfl rfl ?_
      refine st_aload_n dX3_readRest_294 rfl ?_
      refine st_getfr dX3_readRest_295 f_X3_15 (by first | with_reducible assumption | rfl) (by rfl) ?_
      refine st_getfr dX3_readRest_298 f_X3_116 (by first | with_reducible assumption | rfl) (by rfl) ?_
      refine st_iload dX3_readRest_301 rfl ?_
      refine st_aload_n dX3_readRest_303 rfl ?_
      refine st_getfr dX3_readRest_304 f_X3_9 (by first | with_reducible assumption | rfl) (by rfl) ?_
      refine st_iconst dX3_readRest_307 ?_
      refine st_bipush dX3_readRest_308 (by decide) ?_
      refine c_V2i (d' := d - 1) dX3_readRest_310 l_X3_78 k_X8_readNumber i_X8_readNumber (Or.inl ⟨_, _, _, _, _, (by first | with_reducible assumption | rfl), by rfl⟩) (by omega) (Nat.le_of_ble_eq_true rfl) (C_rd (by omega) k2 (by unfold i32; omega) (by unfold i32; omega)) (fun x M3 N3 hx => ?_)
      obtain ⟨rfl, hx⟩ := hx
      rcases hx with ⟨v2, hr2, rfl⟩ | ⟨F, hr2, rfl, hE3, hT4⟩
      · rw [hr2]
        refine c_S3v (d' := d - 1) dX3_readRest_313 l_X3_96 k_X10_put s_X10_put (by omega) (Nat.le_of_ble_eq_true rfl) (C_put (n := 7) rfl (by omega) (by omega)) (fun M4 N4 hx => ?_)
        obtain ⟨rfl, rfl⟩ := hx
        rw [if_pos (by omega)]
        refine r_v dX3_readRest_316 rfl ⟨rfl, Or.inl rfl⟩
      · rw [hr2]
        refine c_S3v (d' := d - 1) dX3_readRest_313 l_X3_96 k_X10_put s_X10_put (by omega) (Nat.le_of_ble_eq_true rfl) (C_put (n := 7) rfl (by omega) (by omega)) (fun M4 N4 hx => ?_)
        obtain ⟨rfl, rfl⟩ := hx
        rw [if_pos (by omega)]
        refine r_v dX3_readRest_316 rfl ⟨rfl, Or.inr ⟨F, rfl, ?_, hT4.exc (Exc.up (L := [12]) (by simp)) (by simp)⟩⟩
        exact (k1.hz (by simp)).tr ((hE3.hz (by simp)).tr (Exh.up (by simp) (by omega)))
    · rw [hr]
      dsimp only
      refine st_istore (L' := [_, _, _, _, _]) dX3_readRest_292 (by decide) rfl rfl ?_
      refine st_aload_n dX3_readRest_294 rfl ?_
      refine st_getfr dX3_readRest_295 f_X3_15 (by first | with_reducible assumption | rfl) (by rfl) ?_
      refine st_getfr dX3_readRest_298 f_X3_116 (by first | with_reducible assumption | rfl) (by rfl) ?_
      refine st_iload dX3_readRest_301 rfl ?_
      refine st_aload_n dX3_readRest_303 rfl ?_
      refine st_getfr dX3_readRest_304 f_X3_9 (by first | with_reducible assumption | rfl) (by rfl) ?_
      refine st_iconst dX3_readRest_307 ?_
      refine st_bipush dX3_readRest_308 (by decide) ?_
      refine c_V2p (d' := d - 1) dX3_readRest_310 l_X3_78 k_X8_readNumber i_X8_readNumber (Or.inl ⟨_, _, _, _, _, (by first | with_reducible assumption | rfl), by rfl⟩) (by omega) (Nat.le_of_ble_eq_true rfl) (C_readNumberE (by omega) hT2) ?_
      refine c_S3v (d' := d - 1) dX3_readRest_313 l_X3_96 k_X10_put s_X10_put (by omega) (Nat.le_of_ble_eq_true rfl) (C_put (n := 7) rfl (by omega) (by omega)) (fun M4 N4 hx => ?_)
      obtain ⟨rfl, rfl⟩ := hx
      rw [if_pos (by omega)]
      refine r_v dX3_readRest_316 rfl ⟨rfl, Or.inr ⟨F, rfl, ?_, hT2.exc (Exc.up (L := [12]) (by simp)) (by simp)⟩⟩
      exact (hE2.hz (by simp)).tr (Exh.up (by simp) (by omega))
/-- a clause that has no place -/
def hAm (M : q_Mem) (w : Int) (c : Nat) : Bool := decide (40 ≤ c) || decide ((w = 0 ∧ ¬ c = 0) ∨ (¬ w = 0 ∧ c = 0)) || (decide (w = 1) && decide (8 ≤ M 10 3)) || (decide (w = 2) && decide (7 ≤ M 10 4)) || (decide (w = 4) && decide (3 ≤ M 10 5))
theorem hAm_iff {M : q_Mem} {w : Int} {c : Nat} : hAm M w c = true ↔ (40 ≤ c ∨ ((w = 0 ∧ ¬ c = 0) ∨ (¬ w = 0 ∧ c = 0)) ∨ (w = 1 ∧ 8 ≤ M 10 3) ∨ (w = 2 ∧ 7 ≤ M 10 4) ∨ (w = 4 ∧ 3 ≤ M 10 5)) := by
  unfold hAm
  simp only [Bool.or_eq_true, Bool.and_eq_true, decide_eq_true_eq]
  omega
theorem C_isAmiss {G : q_G} {d : Nat} {M : q_Mem} {N : q_MemL} {w : Int} {c : Nat} (hH : HP M) (hw : 0 ≤ w ∧ w ≤ 5) (hc : c ≤ 40) : AC0 G d m_X3_isAmiss [.ref 83, I w, I c] M N (CV (PU (Bz (hAm M w c = true)) M N)) := by
  obtain ⟨⟨r1, r2⟩, ⟨r3, r4⟩, ⟨r5, r6⟩, ⟨r7, r8⟩, ⟨r9, r10⟩, r11, r12⟩ := hH
  have hi := hAm_iff (M := M) (w := w) (c := c)
  have yes : hAm M w c = true → AW0 G d m_X3_isAmiss 79 [some (.ref 83), some (I w), some (I c)] [] M N (CV (PU (Bz (hAm M w c = true)) M N)) := by
    intro hy
    refine st_iconst dX3_isAmiss_79 ?_
    refine st_goto (tgt := 84) dX3_isAmiss_80 rfl ?_
    refine r_z dX3_isAmiss_84 rfl (by omega) ⟨bz1 hy, rfl, rfl⟩
  have yes2 : hAm M w c = true → AW0 G d m_X3_isAmiss 27 [some (.ref 83), some (I w), some (I c)] [] M N (CV (PU (Bz (hAm M w c = true)) M N)) := by
    intro hy
    refine st_iconst dX3_isAmiss_27 ?_
    refine r_z dX3_isAmiss_28 rfl (by omega) ⟨bz1 hy, rfl, rfl⟩
  have no : ¬ hAm M w c = true → AW0 G d m_X3_isAmiss 83 [some (.ref 83), some (I w), some (I c)] [] M N (CV (PU (Bz (hAm M w c = true)) M N)) := by
    intro hy
    refine st_iconst dX3_isAmiss_83 ?_
    refine r_z dX3_isAmiss_84 rfl (by omega) ⟨bz0 hy, rfl, rfl⟩
  have e63 : ¬ (40 ≤ c ∨ ((w = 0 ∧ ¬ c = 0) ∨ (¬ w = 0 ∧ c = 0)) ∨ (w = 1 ∧ 8 ≤ M 10 3) ∨ (w = 2 ∧ 7 ≤ M 10 4)) → AW0 G d m_X3_isAmiss 63 [some (.ref 83), some (I w), some (I c)] [] M N (CV (PU (Bz (hAm M w c = true)) M N)) := by
    intro h0
    refine st_iload_n dX3_isAmiss_63 rfl ?_
    refine st_iconst dX3_isAmiss_64 ?_
    refine st_icmp_ne (tgt := 83) dX3_isAmiss_65 (by omega) (by omega) rfl (fun c1 => ?_) (fun c1 => ?_)
    · skip
      exact no (fun z => by have := hi.1 z; omega)
    · refine st_aload_n dX3_isAmiss_68 rfl ?_
      refine st_getfr dX3_isAmiss_69 f_X3_15 (by first | with_reducible assumption | rfl) (by rfl) ?_
      refine st_getfi dX3_isAmiss_72 f_X3_75 (by first | with_reducible assumption | rfl) (by rfl) ?_
      refine st_iconst dX3_isAmiss_75 ?_
      refine st_icmp_lt (tgt := 83) dX3_isAmiss_76 (by omega) (by omega) rfl (fun c2 => ?_) (fun c2 => ?_)
      · skip
        exact no (fun z => by have := hi.1 z; omega)
      · skip
        exact yes (hi.2 (by omega))
  have e46 : ¬ (40 ≤ c ∨ ((w = 0 ∧ ¬ c = 0) ∨ (¬ w = 0 ∧ c = 0)) ∨ (w = 1 ∧ 8 ≤ M 10 3)) → AW0 G d m_X3_isAmiss 46 [some (.ref 83), some (I w), some (I c)] [] M N (CV (PU (Bz (hAm M w c = true)) M N)) := by
    intro h0
    refine st_iload_n dX3_isAmiss_46 rfl ?_
    refine st_iconst dX3_isAmiss_47 ?_
    refine st_icmp_ne (tgt := 63) dX3_isAmiss_48 (by omega) (by omega) rfl (fun c1 => ?_) (fun c1 => ?_)
    · skip
      exact e63 (by omega)
    · refine st_aload_n dX3_isAmiss_51 rfl ?_
      refine st_getfr dX3_isAmiss_52 f_X3_15 (by first | with_reducible assumption | rfl) (by rfl) ?_
      refine st_getfi dX3_isAmiss_55 f_X3_72 (by first | with_reducible assumption | rfl) (by rfl) ?_
      refine st_bipush dX3_isAmiss_58 (by decide) ?_
      refine st_icmp_ge (tgt := 79) dX3_isAmiss_60 (by omega) (by omega) rfl (fun c2 => ?_) (fun c2 => ?_)
      · skip
        exact yes (hi.2 (by omega))
      · skip
        exact e63 (by omega)
  have e29 : ¬ (40 ≤ c ∨ ((w = 0 ∧ ¬ c = 0) ∨ (¬ w = 0 ∧ c = 0))) → AW0 G d m_X3_isAmiss 29 [some (.ref 83), some (I w), some (I c)] [] M N (CV (PU (Bz (hAm M w c = true)) M N)) := by
    intro h0
    refine st_iload_n dX3_isAmiss_29 rfl ?_
    refine st_iconst dX3_isAmiss_30 ?_
    refine st_icmp_ne (tgt := 46) dX3_isAmiss_31 (by omega) (by omega) rfl (fun c1 => ?_) (fun c1 => ?_)
    · skip
      exact e46 (by omega)
    · refine st_aload_n dX3_isAmiss_34 rfl ?_
      refine st_getfr dX3_isAmiss_35 f_X3_15 (by first | with_reducible assumption | rfl) (by rfl) ?_
      refine st_getfi dX3_isAmiss_38 f_X3_69 (by first | with_reducible assumption | rfl) (by rfl) ?_
      refine st_bipush dX3_isAmiss_41 (by decide) ?_
      refine st_icmp_ge (tgt := 79) dX3_isAmiss_43 (by omega) (by omega) rfl (fun c2 => ?_) (fun c2 => ?_)
      · skip
        exact yes (hi.2 (by omega))
      · skip
        exact e46 (by omega)
  refine AC.of (L0 := [_, _, _]) pn_X3 (Nat.le_of_ble_eq_true rfl) rfl ?_
  refine st_iload_n dX3_isAmiss_0 rfl ?_
  refine st_bipush dX3_isAmiss_1 (by decide) ?_
  refine st_icmp_ge (tgt := 27) dX3_isAmiss_3 (by omega) (by omega) rfl (fun c0 => ?_) (fun c0 => ?_)
  · skip
    exact yes2 (hi.2 (by omega))
  · refine st_iload_n dX3_isAmiss_6 rfl ?_
    refine st_if_ne (tgt := 14) dX3_isAmiss_7 (by omega) rfl (fun c1 => ?_) (fun c1 => ?_)
    · refine st_iconst dX3_isAmiss_14 ?_
      refine st_iload_n dX3_isAmiss_15 rfl ?_
      refine st_if_ne (tgt := 23) dX3_isAmiss_16 (by omega) rfl (fun c2 => ?_) (fun c2 => ?_)
      · refine st_iconst dX3_isAmiss_23 ?_
        refine st_icmp_eq (tgt := 29) dX3_isAmiss_24 (by omega) (by omega) rfl (fun c3 => ?_) (fun c3 => ?_)
        · skip
          exact e29 (by omega)
        · skip
          exact yes2 (hi.2 (by omega))
      · refine st_iconst dX3_isAmiss_19 ?_
        refine st_goto (tgt := 24) dX3_isAmiss_20 rfl ?_
        refine st_icmp_eq (tgt := 29) dX3_isAmiss_24 (by omega) (by omega) rfl (fun c3 => ?_) (fun c3 => ?_)
        · skip
          omega
        · skip
          exact yes2 (hi.2 (by omega))
    · refine st_iconst dX3_isAmiss_10 ?_
      refine st_goto (tgt := 15) dX3_isAmiss_11 rfl ?_
      refine st_iload_n dX3_isAmiss_15 rfl ?_
      refine st_if_ne (tgt := 23) dX3_isAmiss_16 (by omega) rfl (fun c2 => ?_) (fun c2 => ?_)
      · refine st_iconst dX3_isAmiss_23 ?_
        refine st_icmp_eq (tgt := 29) dX3_isAmiss_24 (by omega) (by omega) rfl (fun c3 => ?_) (fun c3 => ?_)
        · skip
          omega
        · skip
          exact yes2 (hi.2 (by omega))
      · refine st_iconst dX3_isAmiss_19 ?_
        refine st_goto (tgt := 24) dX3_isAmiss_20 rfl ?_
        refine st_icmp_eq (tgt := 29) dX3_isAmiss_24 (by omega) (by omega) rfl (fun c3 => ?_) (fun c3 => ?_)
        · skip
          exact e29 (by omega)
        · skip
          exact yes2 (hi.2 (by omega))
/-- a clause of a house -/
def hCl (n c : Nat) (M : q_Mem) : Except Int q_Mem :=
  if findW (M 2) n (skip (M 2) n (M 1 2).toNat) wsH 0 = -1 then .error (1 + 8 * (skip (M 2) n (M 1 2).toNat : Nat))
  else if hAm M (findW (M 2) n (skip (M 2) n (M 1 2).toNat) wsH 0) c = true then .error (1 + 8 * (skip (M 2) n (M 1 2).toNat : Nat) + 4)
  else hRest n (findW (M 2) n (skip (M 2) n (M 1 2).toNat) wsH 0) (q_up M 1 2 ((skip (M 2) n (M 1 2).toNat + lets (M 2) n (skip (M 2) n (M 1 2).toNat) : Nat) : Int))
theorem skip_skip (f : Nat → Int) (n p : Nat) : skip f n (skip f n p) = skip f n p := by
  have key : ∀ m p, p + m = n → skB f n (n - skB f n m p) (skB f n m p) = skB f n m p := by
    intro m
    induction m with
    | zero =>
      intro p hp
      rw [show skB f n 0 p = p from rfl, show n - p = 0 by omega]
      rfl
    | succ m ih =>
      intro p hp
      by_cases hb : bytA f n p = 32
      · rw [show skB f n (m + 1) p = skB f n m (p + 1) by conv => lhs; unfold skB; rw [if_pos hb]]
        exact ih (p + 1) (by omega)
      · rw [show skB f n (m + 1) p = p by conv => lhs; unfold skB; rw [if_neg hb]]
        rw [show n - p = m + 1 by omega]
        conv => lhs; unfold skB
        rw [if_neg hb]
  unfold skip
  by_cases hp : p ≤ n
  · exact key (n - p) p (by omega)
  · rw [show n - p = 0 by omega, show skB f n 0 p = p from rfl, show n - p = 0 by omega]
    rfl
theorem C_readWordT {G : q_G} {d : Nat} {M : q_Mem} {N : q_MemL} {n p i : Nat} {ws : List (List Int)} (hd : 5 ≤ d) (hi : i < q_nS) (hws : chL i = jnW ws) (hw0 : ¬ ws = []) (hw1 : ws.all (fun w => w.all (fun c => decide (¬ c = 32))) = true) (h : TP M n p) : AC0 G d m_X8_readWord [.ref 1, .ref (1000 + 2 * i)] M N (CV (fun x M' N' => N' = N ∧ x = I (findW (M 2) n (skip (M 2) n p) ws 0) ∧ M' = q_up M 1 2 (if findW (M 2) n (skip (M 2) n p) ws 0 = -1 then ((skip (M 2) n p : Nat) : Int) else ((skip (M 2) n p + lets (M 2) n (skip (M 2) n p) : Nat) : Int)) ∧ TP M' n (if findW (M 2) n (skip (M 2) n p) ws 0 = -1 then skip (M 2) n p else skip (M 2) n p + lets (M 2) n (skip (M 2) n p)))) := by
  have hs := skip_le (M 2) n p
  have hl := lets_le (M 2) n (skip (M 2) n p)
  have hT := h
  obtain ⟨a, b, c, e, f⟩ := h
  refine AC.mono (fun v S' M' N' hq => ?_) (C_readWord hd hi hws hw0 hw1 a b c (by omega))
  obtain ⟨hS, x, hv, hN, hx, hM⟩ := hq
  refine ⟨hS, x, hv, hN, hx, hM, ?_⟩
  rw [hM]
  split
  · exact hT.up (by omega)
  · exact hT.up (by omega)
theorem C_hclause {G : q_G} {d : Nat} {M : q_Mem} {N : q_MemL} {n p c : Nat} (hd : 6 ≤ d) (h : TP M n p) (hH : HP M) (hc : c ≤ 40) (h3 : ¬ c = 0 → 1 ≤ M 10 3) : AC0 G d m_X3_readClause [.ref 83, I c] M N (CN (fun M' N' => N' = N ∧ hQ [1, 10, 11, 12, 13, 14] M n (hCl n c M) M')) := by
  have hp : (M 1 2).toNat = p := by have := h.2.2.1; omega
  have hs := skip_le (M 2) n p
  unfold hCl
  rw [hp]
  refine AC.of (L0 := [_, _, none, none]) pn_X3 (Nat.le_of_ble_eq_true rfl) rfl ?_
  refine st_aload_n dX3_readClause_0 rfl ?_
  refine st_getfr dX3_readClause_1 f_X3_9 (by first | with_reducible assumption | rfl) (by rfl) ?_
  refine c_V0i (d' := d - 1) dX3_readClause_4 l_X3_45 k_X8_peek i_X8_peek (Or.inl ⟨_, _, _, _, _, (by first | with_reducible assumption | rfl), by rfl⟩) (by omega) (Nat.le_of_ble_eq_true rfl) (C_peekT (by omega) h) (fun x M1 N1 hx => ?_)
  obtain ⟨rfl, rfl, hM1, hT1⟩ := hx
  have e2 : M1 2 = M 2 := by rw [hM1]; exact q_up_ne (by decide)
  have eE : Exc [1] M M1 := by rw [hM1]; exact Exc.up (by simp)
  refine st_pop dX3_readClause_7 rfl ?_
  refine st_aload_n dX3_readClause_8 rfl ?_
  refine st_getfr dX3_readClause_9 f_X3_9 (by first | with_reducible assumption | rfl) (by rfl) ?_
  refine st_getfi dX3_readClause_12 f_X3_49 (by first | with_reducible assumption | rfl) (by rfl) ?_
  rw [hT1.2.2.1]
  refine st_istore_n (L' := [_, _, _, _]) dX3_readClause_15 (by decide) rfl rfl ?_
  refine st_aload_n dX3_readClause_16 rfl ?_
  refine st_getfr dX3_readClause_17 f_X3_9 (by first | with_reducible assumption | rfl) (by rfl) ?_
  refine st_ldcS (i := 0) dX3_readClause_20 rfl ?_
  refine c_V1i (d' := d - 1) dX3_readClause_22 l_X3_54 k_X8_readWord i_X8_readWord (Or.inl ⟨_, _, _, _, _, (by first | with_reducible assumption | rfl), by rfl⟩) (by omega) (Nat.le_of_ble_eq_true rfl) (C_readWordT (i := 0) (ws := wsH) (by omega) (by decide) wsH_jn (by decide) (by decide +kernel) hT1) (fun x M2 N2 hx => ?_)
  obtain ⟨rfl, rfl, hM2, hT2⟩ := hx
  rw [e2, skip_skip] at hM2 hT2 ⊢
  have hq4 : skip (M 2) n p ≤ 400 := by have := h.2.1; have := h.2.2.2.1; omega
  generalize hq : skip (M 2) n p = q at *
  have hfr := findW_rng (M 2) n q wsH 0 (by omega)
  rw [show wsH.length = 6 from rfl] at hfr
  generalize hw : findW (M 2) n q wsH 0 = w at *
  have eE2 : Exc [1] M M2 := eE.tr (by rw [hM2]; exact Exc.up (by simp))
  refine st_istore_n (L' := [_, _, _, _]) dX3_readClause_25 (by decide) rfl rfl ?_
  refine st_iload_n dX3_readClause_26 rfl ?_
  refine st_iconst dX3_readClause_27 ?_
  refine st_icmp_ne (tgt := 43) dX3_readClause_28 (by omega) (by omega) rfl (fun c1 => ?_) (fun c1 => ?_)
  · refine st_aload_n dX3_readClause_43 rfl ?_
    refine st_iload_n dX3_readClause_44 rfl ?_
    refine st_iload_n dX3_readClause_45 rfl ?_
    rw [if_neg c1] at hT2 hM2 ⊢
    have hH2 : HP M2 := hH.exc (eE2 10 (by simp))
    have hM22 : M2 = q_up M 1 2 ((q + lets (M 2) n q : Nat) : Int) := by
      rw [hM2, hM1]
      funext a j
      simp only [q_up]
      split <;> rfl
    refine c_V2p (d' := d - 1) dX3_readClause_46 l_X3_62 k_X3_isAmiss i_X3_isAmiss (Or.inl ⟨_, _, _, _, _, (by first | with_reducible assumption | rfl), by rfl⟩) (by omega) (Nat.le_of_ble_eq_true rfl) (C_isAmiss hH2 (by omega) hc) ?_
    have hAe : hAm M2 w c = hAm M w c := by unfold hAm; rw [eE2 10 (by simp)]
    rw [hAe]
    refine b_eq (tgt := 64) dX3_readClause_49 rfl (fun c2 => ?_) (fun c2 => ?_)
    · rw [if_neg c2, ← hM22]
      have hi := hAm_iff (M := M) (w := w) (c := c)
      refine st_aload_n dX3_readClause_64 rfl ?_
      refine st_iload_n dX3_readClause_65 rfl ?_
      refine c_V1v (d' := d - 1) dX3_readClause_66 l_X3_66 k_X3_readRest i_X3_readRest (Or.inl ⟨_, _, _, _, _, (by first | with_reducible assumption | rfl), by rfl⟩) (by omega) (Nat.le_of_ble_eq_true rfl) (C_readRest (by omega) hT2 hH2 (by omega) (fun z => ⟨by rw [eE2 10 (by simp)]; exact h3 (fun z0 => c2 (hi.2 (by omega))), by rw [eE2 10 (by simp)]; apply Decidable.byContradiction; intro z0; exact c2 (hi.2 (by omega))⟩) (fun z => by rw [eE2 10 (by simp)]; apply Decidable.byContradiction; intro z0; exact c2 (hi.2 (by omega))) (fun z => by rw [eE2 10 (by simp)]; apply Decidable.byContradiction; intro z0; exact c2 (hi.2 (by omega)))) (fun M3 N3 hx => ?_)
      obtain ⟨rfl, hx⟩ := hx
      refine r_v dX3_readClause_69 rfl ⟨rfl, ?_⟩
      rcases hx with hx | ⟨F, h1, h2, h3⟩
      · exact Or.inl hx
      · exact Or.inr ⟨F, h1, (eE2.hz (by simp)).tr h2, h3⟩
    · rw [if_pos c2]
      refine st_aload_n dX3_readClause_52 rfl ?_
      refine st_getfr dX3_readClause_53 f_X3_9 (by first | with_reducible assumption | rfl) (by rfl) ?_
      refine st_iload_n dX3_readClause_56 rfl ?_
      refine st_iconst dX3_readClause_57 ?_
      refine c_V2v (d' := d - 1) dX3_readClause_58 l_X3_58 k_X8_fail i_X8_fail (Or.inl ⟨_, _, _, _, _, (by first | with_reducible assumption | rfl), by rfl⟩) (by omega) (Nat.le_of_ble_eq_true rfl) (C_failT (k := 4) hT2 hq4 (by omega)) (fun M3 N3 hx => ?_)
      obtain ⟨rfl, hE3, hT3⟩ := hx
      refine st_goto (tgt := 69) dX3_readClause_61 rfl ?_
      refine r_v dX3_readClause_69 rfl ⟨rfl, Or.inr ⟨_, rfl, (eE2.hz (by simp)).tr (hE3.hz (by simp)), hT3⟩⟩
  · refine st_aload_n dX3_readClause_31 rfl ?_
    refine st_getfr dX3_readClause_32 f_X3_9 (by first | with_reducible assumption | rfl) (by rfl) ?_
    refine st_iload_n dX3_readClause_35 rfl ?_
    refine st_iconst dX3_readClause_36 ?_
    rw [if_pos c1] at hT2 ⊢
    refine c_V2v (d' := d - 1) dX3_readClause_37 l_X3_58 k_X8_fail i_X8_fail (Or.inl ⟨_, _, _, _, _, (by first | with_reducible assumption | rfl), by rfl⟩) (by omega) (Nat.le_of_ble_eq_true rfl) (C_failT (k := 0) hT2 hq4 (by omega)) (fun M3 N3 hx => ?_)
    obtain ⟨rfl, hE3, hT3⟩ := hx
    refine st_goto (tgt := 69) dX3_readClause_40 rfl ?_
    refine r_v dX3_readClause_69 rfl ⟨rfl, Or.inr ⟨_, rfl, (eE2.hz (by simp)).tr (hE3.hz (by simp)), ?_⟩⟩
    exact (show (1 + 8 * (q : Int) + ((0 : Nat) : Int)) = 1 + 8 * (q : Int) by omega) ▸ hT3


/-! the reference: what a part of a rule comes to -/
/-- the reference's sort for the system's code of an operator -/
def opR (c : Int) : Int := if c = 11 then 2 else if c = 12 then 3 else if c = 13 then 13 else if c = 14 then 14 else if c = 15 then 15 else if c = 16 then 4 else if c = 17 then 5 else if c = 18 then 6 else if c = 19 then 7 else if c = 20 then 8 else if c = 21 then 9 else if c = 22 then 10 else 11
/-- a code and an entry say the same -/
def cR (c s v : Int) : Prop := (32 ≤ c ∧ s = 0 ∧ v = c - 32) ∨ ((0 ≤ c ∧ c ≤ 10) ∧ s = 1 ∧ v = c) ∨ ((11 ≤ c ∧ c ≤ 23) ∧ s = opR c)
theorem C_truth {G : q_G} {d : Nat} {M : q_Mem} {N : q_MemL} {z : Int} (hz : z = 0 ∨ z = 1) : AC0 G d m_X11_truth [I z] M N (CV (PU (.long (if z = 1 then 1 else 0)) M N)) := by
  refine AC.of (L0 := [_]) pn_X11 (Nat.le_of_ble_eq_true rfl) rfl ?_
  refine st_iload_n dX11_truth_0 rfl ?_
  refine st_if_eq (tgt := 8) dX11_truth_1 (by omega) rfl (fun h => ?_) (fun h => ?_)
  · refine st_lc0K dX11_truth_8 ?_
    refine r_l dX11_truth_9 rfl ⟨?_, rfl, rfl⟩
    rw [if_neg (by omega)]
    rfl
  · refine st_lc1K dX11_truth_4 ?_
    refine st_goto (tgt := 9) dX11_truth_5 rfl ?_
    refine r_l dX11_truth_9 rfl ⟨?_, rfl, rfl⟩
    rw [if_pos (by omega)]
    rfl
theorem C_both {G : q_G} {d : Nat} {M : q_Mem} {N : q_MemL} {c : Int} {a b : Int64} (hd : 1 ≤ d) (hc : 11 ≤ c ∧ c ≤ 23 ∧ ¬ c = 21) : AC0 G d m_X11_both [I (opR c), .long a, .long b] M N (CV (PU (.long (joC c a b)) M N)) := by
  have hr := cmpL_rng a b
  have hr0 := cmpL_rng b 0
  have hcs : c = 11 ∨ c = 12 ∨ c = 13 ∨ c = 14 ∨ c = 15 ∨ c = 16 ∨ c = 17 ∨ c = 18 ∨ c = 19 ∨ c = 20 ∨ c = 22 ∨ c = 23 := by omega
  rcases hcs with rfl | rfl | rfl | rfl | rfl | rfl | rfl | rfl | rfl | rfl | rfl | rfl
  · rw [show opR 11 = 2 from rfl]
    refine AC.of (L0 := [_, _, _, _, _]) pn_X11 (Nat.le_of_ble_eq_true rfl) rfl ?_
    refine st_iload_n dX11_both_0 rfl ?_
    refine st_tsIn (off := 71) (tgt := 72) dX11_both_1 (by decide) (by decide) (by decide) rfl rfl ?_
    refine st_lload_n dX11_both_72 rfl ?_
    refine st_lload_n dX11_both_73 rfl ?_
    refine st_ladd dX11_both_74 ?_
    refine r_l dX11_both_75 rfl ⟨rfl, rfl, rfl⟩
  · rw [show opR 12 = 3 from rfl]
    refine AC.of (L0 := [_, _, _, _, _]) pn_X11 (Nat.le_of_ble_eq_true rfl) rfl ?_
    refine st_iload_n dX11_both_0 rfl ?_
    refine st_tsIn (off := 75) (tgt := 76) dX11_both_1 (by decide) (by decide) (by decide) rfl rfl ?_
    refine st_lload_n dX11_both_76 rfl ?_
    refine st_lload_n dX11_both_77 rfl ?_
    refine st_lsub dX11_both_78 ?_
    refine r_l dX11_both_79 rfl ⟨rfl, rfl, rfl⟩
  · rw [show opR 13 = 13 from rfl]
    refine AC.of (L0 := [_, _, _, _, _]) pn_X11 (Nat.le_of_ble_eq_true rfl) rfl ?_
    refine st_iload_n dX11_both_0 rfl ?_
    refine st_tsIn (off := 79) (tgt := 80) dX11_both_1 (by decide) (by decide) (by decide) rfl rfl ?_
    refine st_lload_n dX11_both_80 rfl ?_
    refine st_lload_n dX11_both_81 rfl ?_
    refine st_lmul dX11_both_82 ?_
    refine r_l dX11_both_83 rfl ⟨rfl, rfl, rfl⟩
  · rw [show opR 14 = 14 from rfl]
    refine AC.of (L0 := [_, _, _, _, _]) pn_X11 (Nat.le_of_ble_eq_true rfl) rfl ?_
    refine st_iload_n dX11_both_0 rfl ?_
    refine st_tsIn (off := 83) (tgt := 84) dX11_both_1 (by decide) (by decide) (by decide) rfl rfl ?_
    refine st_lload_n dX11_both_84 rfl ?_
    refine st_lc0K dX11_both_85 ?_
    refine AW.topv (show _ = Value.long 0 from rfl) ?_
    refine st_lcmpL dX11_both_86 ?_
    refine st_if_ne (tgt := 94) dX11_both_87 (by omega) rfl (fun h => ?_) (fun h => ?_)
    · refine st_lload_n dX11_both_94 rfl ?_
      refine st_lload_n dX11_both_95 rfl ?_
      refine st_ldiv dX11_both_96 (fun z => h (by rw [z]; exact cmpL_rf 0)) ?_
      refine r_l dX11_both_97 rfl ⟨?_, rfl, rfl⟩
      rw [show joC 14 a b = (if cmpL b 0 = 0 then 0 else a / b) from rfl, if_neg h]
    · refine st_lc0K dX11_both_90 ?_
      refine st_goto (tgt := 97) dX11_both_91 rfl ?_
      refine r_l dX11_both_97 rfl ⟨?_, rfl, rfl⟩
      rw [show joC 14 a b = (if cmpL b 0 = 0 then 0 else a / b) from rfl, if_pos (by omega)]
      rfl
  · rw [show opR 15 = 15 from rfl]
    refine AC.of (L0 := [_, _, _, _, _]) pn_X11 (Nat.le_of_ble_eq_true rfl) rfl ?_
    refine st_iload_n dX11_both_0 rfl ?_
    refine st_tsIn (off := 97) (tgt := 98) dX11_both_1 (by decide) (by decide) (by decide) rfl rfl ?_
    refine st_lload_n dX11_both_98 rfl ?_
    refine st_lc0K dX11_both_99 ?_
    refine AW.topv (show _ = Value.long 0 from rfl) ?_
    refine st_lcmpL dX11_both_100 ?_
    refine st_if_ne (tgt := 108) dX11_both_101 (by omega) rfl (fun h => ?_) (fun h => ?_)
    · refine st_lload_n dX11_both_108 rfl ?_
      refine st_lload_n dX11_both_109 rfl ?_
      refine st_lrem dX11_both_110 (fun z => h (by rw [z]; exact cmpL_rf 0)) ?_
      refine r_l dX11_both_111 rfl ⟨?_, rfl, rfl⟩
      rw [show joC 15 a b = (if cmpL b 0 = 0 then 0 else a - a / b * b) from rfl, if_neg h]
    · refine st_lc0K dX11_both_104 ?_
      refine st_goto (tgt := 111) dX11_both_105 rfl ?_
      refine r_l dX11_both_111 rfl ⟨?_, rfl, rfl⟩
      rw [show joC 15 a b = (if cmpL b 0 = 0 then 0 else a - a / b * b) from rfl, if_pos (by omega)]
      rfl
  · rw [show opR 16 = 4 from rfl]
    refine AC.of (L0 := [_, _, _, _, _]) pn_X11 (Nat.le_of_ble_eq_true rfl) rfl ?_
    refine st_iload_n dX11_both_0 rfl ?_
    refine st_tsIn (off := 111) (tgt := 112) dX11_both_1 (by decide) (by decide) (by decide) rfl rfl ?_
    refine st_lload_n dX11_both_112 rfl ?_
    refine st_lload_n dX11_both_113 rfl ?_
    refine st_lcmpL dX11_both_114 ?_
    refine st_if_ge (tgt := 122) dX11_both_115 (by omega) rfl (fun h => ?_) (fun h => ?_)
    · refine st_iconst dX11_both_122 ?_
      refine c_S1p (d' := d - 1) dX11_both_123 l_X11_382 k_X11_truth s_X11_truth (by omega) (Nat.le_of_ble_eq_true rfl) (C_truth (Or.inl rfl)) ?_
      refine r_l dX11_both_126 rfl ⟨?_, rfl, rfl⟩
      rw [show joC 16 a b = (if cmpL a b < 0 then 1 else 0) from rfl, if_neg (show ¬ (cmpL a b < 0) by omega)]
      rfl
    · refine st_iconst dX11_both_118 ?_
      refine st_goto (tgt := 123) dX11_both_119 rfl ?_
      refine c_S1p (d' := d - 1) dX11_both_123 l_X11_382 k_X11_truth s_X11_truth (by omega) (Nat.le_of_ble_eq_true rfl) (C_truth (Or.inr rfl)) ?_
      refine r_l dX11_both_126 rfl ⟨?_, rfl, rfl⟩
      rw [show joC 16 a b = (if cmpL a b < 0 then 1 else 0) from rfl, if_pos (show cmpL a b < 0 by omega)]
      rfl
  · rw [show opR 17 = 5 from rfl]
    refine AC.of (L0 := [_, _, _, _, _]) pn_X11 (Nat.le_of_ble_eq_true rfl) rfl ?_
    refine st_iload_n dX11_both_0 rfl ?_
    refine st_tsIn (off := 126) (tgt := 127) dX11_both_1 (by decide) (by decide) (by decide) rfl rfl ?_
    refine st_lload_n dX11_both_127 rfl ?_
    refine st_lload_n dX11_both_128 rfl ?_
    refine st_lcmpL dX11_both_129 ?_
    refine st_if_gt (tgt := 137) dX11_both_130 (by omega) rfl (fun h => ?_) (fun h => ?_)
    · refine st_iconst dX11_both_137 ?_
      refine c_S1p (d' := d - 1) dX11_both_138 l_X11_382 k_X11_truth s_X11_truth (by omega) (Nat.le_of_ble_eq_true rfl) (C_truth (Or.inl rfl)) ?_
      refine r_l dX11_both_141 rfl ⟨?_, rfl, rfl⟩
      rw [show joC 17 a b = (if cmpL a b ≤ 0 then 1 else 0) from rfl, if_neg (show ¬ (cmpL a b ≤ 0) by omega)]
      rfl
    · refine st_iconst dX11_both_133 ?_
      refine st_goto (tgt := 138) dX11_both_134 rfl ?_
      refine c_S1p (d' := d - 1) dX11_both_138 l_X11_382 k_X11_truth s_X11_truth (by omega) (Nat.le_of_ble_eq_true rfl) (C_truth (Or.inr rfl)) ?_
      refine r_l dX11_both_141 rfl ⟨?_, rfl, rfl⟩
      rw [show joC 17 a b = (if cmpL a b ≤ 0 then 1 else 0) from rfl, if_pos (show cmpL a b ≤ 0 by omega)]
      rfl
  · rw [show opR 18 = 6 from rfl]
    refine AC.of (L0 := [_, _, _, _, _]) pn_X11 (Nat.le_of_ble_eq_true rfl) rfl ?_
    refine st_iload_n dX11_both_0 rfl ?_
    refine st_tsIn (off := 141) (tgt := 142) dX11_both_1 (by decide) (by decide) (by decide) rfl rfl ?_
    refine st_lload_n dX11_both_142 rfl ?_
    refine st_lload_n dX11_both_143 rfl ?_
    refine st_lcmpL dX11_both_144 ?_
    refine st_if_ne (tgt := 152) dX11_both_145 (by omega) rfl (fun h => ?_) (fun h => ?_)
    · refine st_iconst dX11_both_152 ?_
      refine c_S1p (d' := d - 1) dX11_both_153 l_X11_382 k_X11_truth s_X11_truth (by omega) (Nat.le_of_ble_eq_true rfl) (C_truth (Or.inl rfl)) ?_
      refine r_l dX11_both_156 rfl ⟨?_, rfl, rfl⟩
      rw [show joC 18 a b = (if cmpL a b = 0 then 1 else 0) from rfl, if_neg (show ¬ (cmpL a b = 0) by omega)]
      rfl
    · refine st_iconst dX11_both_148 ?_
      refine st_goto (tgt := 153) dX11_both_149 rfl ?_
      refine c_S1p (d' := d - 1) dX11_both_153 l_X11_382 k_X11_truth s_X11_truth (by omega) (Nat.le_of_ble_eq_true rfl) (C_truth (Or.inr rfl)) ?_
      refine r_l dX11_both_156 rfl ⟨?_, rfl, rfl⟩
      rw [show joC 18 a b = (if cmpL a b = 0 then 1 else 0) from rfl, if_pos (show cmpL a b = 0 by omega)]
      rfl
  · rw [show opR 19 = 7 from rfl]
    refine AC.of (L0 := [_, _, _, _, _]) pn_X11 (Nat.le_of_ble_eq_true rfl) rfl ?_
    refine st_iload_n dX11_both_0 rfl ?_
    refine st_tsIn (off := 156) (tgt := 157) dX11_both_1 (by decide) (by decide) (by decide) rfl rfl ?_
    refine st_lload_n dX11_both_157 rfl ?_
    refine st_lload_n dX11_both_158 rfl ?_
    refine st_lcmpL dX11_both_159 ?_
    refine st_if_lt (tgt := 167) dX11_both_160 (by omega) rfl (fun h => ?_) (fun h => ?_)
    · refine st_iconst dX11_both_167 ?_
      refine c_S1p (d' := d - 1) dX11_both_168 l_X11_382 k_X11_truth s_X11_truth (by omega) (Nat.le_of_ble_eq_true rfl) (C_truth (Or.inl rfl)) ?_
      refine r_l dX11_both_171 rfl ⟨?_, rfl, rfl⟩
      rw [show joC 19 a b = (if 0 ≤ cmpL a b then 1 else 0) from rfl, if_neg (show ¬ (0 ≤ cmpL a b) by omega)]
      rfl
    · refine st_iconst dX11_both_163 ?_
      refine st_goto (tgt := 168) dX11_both_164 rfl ?_
      refine c_S1p (d' := d - 1) dX11_both_168 l_X11_382 k_X11_truth s_X11_truth (by omega) (Nat.le_of_ble_eq_true rfl) (C_truth (Or.inr rfl)) ?_
      refine r_l dX11_both_171 rfl ⟨?_, rfl, rfl⟩
      rw [show joC 19 a b = (if 0 ≤ cmpL a b then 1 else 0) from rfl, if_pos (show 0 ≤ cmpL a b by omega)]
      rfl
  · rw [show opR 20 = 8 from rfl]
    refine AC.of (L0 := [_, _, _, _, _]) pn_X11 (Nat.le_of_ble_eq_true rfl) rfl ?_
    refine st_iload_n dX11_both_0 rfl ?_
    refine st_tsIn (off := 171) (tgt := 172) dX11_both_1 (by decide) (by decide) (by decide) rfl rfl ?_
    refine st_lload_n dX11_both_172 rfl ?_
    refine st_lload_n dX11_both_173 rfl ?_
    refine st_lcmpL dX11_both_174 ?_
    refine st_if_le (tgt := 182) dX11_both_175 (by omega) rfl (fun h => ?_) (fun h => ?_)
    · refine st_iconst dX11_both_182 ?_
      refine c_S1p (d' := d - 1) dX11_both_183 l_X11_382 k_X11_truth s_X11_truth (by omega) (Nat.le_of_ble_eq_true rfl) (C_truth (Or.inl rfl)) ?_
      refine r_l dX11_both_186 rfl ⟨?_, rfl, rfl⟩
      rw [show joC 20 a b = (if 0 < cmpL a b then 1 else 0) from rfl, if_neg (show ¬ (0 < cmpL a b) by omega)]
      rfl
    · refine st_iconst dX11_both_178 ?_
      refine st_goto (tgt := 183) dX11_both_179 rfl ?_
      refine c_S1p (d' := d - 1) dX11_both_183 l_X11_382 k_X11_truth s_X11_truth (by omega) (Nat.le_of_ble_eq_true rfl) (C_truth (Or.inr rfl)) ?_
      refine r_l dX11_both_186 rfl ⟨?_, rfl, rfl⟩
      rw [show joC 20 a b = (if 0 < cmpL a b then 1 else 0) from rfl, if_pos (show 0 < cmpL a b by omega)]
      rfl
  · rw [show opR 22 = 10 from rfl]
    refine AC.of (L0 := [_, _, _, _, _]) pn_X11 (Nat.le_of_ble_eq_true rfl) rfl ?_
    refine st_iload_n dX11_both_0 rfl ?_
    refine st_tsIn (off := 186) (tgt := 187) dX11_both_1 (by decide) (by decide) (by decide) rfl rfl ?_
    refine st_lload_n dX11_both_187 rfl ?_
    refine st_lload_n dX11_both_188 rfl ?_
    refine st_land dX11_both_189 ?_
    refine r_l dX11_both_190 rfl ⟨rfl, rfl, rfl⟩
  · rw [show opR 23 = 11 from rfl]
    refine AC.of (L0 := [_, _, _, _, _]) pn_X11 (Nat.le_of_ble_eq_true rfl) rfl ?_
    refine st_iload_n dX11_both_0 rfl ?_
    refine st_tsIn (off := 190) (tgt := 191) dX11_both_1 (by decide) (by decide) (by decide) rfl rfl ?_
    refine st_lload_n dX11_both_191 rfl ?_
    refine st_lload_n dX11_both_192 rfl ?_
    refine st_lor dX11_both_193 ?_
    refine r_l dX11_both_194 rfl ⟨rfl, rfl, rfl⟩
/-- what stays when a part of a rule is reckoned -/
theorem C_ranswer {G : q_G} {d : Nat} {M : q_Mem} {N : q_MemL} {wr i0 n : Nat} {f : Nat → Int} {w : Nat → Int64} {t : Bool} (hd : 2 ≤ d) (hwr : wr < 6) (hto : i0 + n ≤ 300) (hw : ∀ j, j < 11 → N 141 j = w j) (hcR : ∀ i, i0 ≤ i → i < i0 + n → cR (f i) (M 133 (300 * wr + i)) (M 134 (300 * wr + i))) (hty : tyN f i0 n [] = some [t]) : AC0 G d m_X11_answer [.ref 112, I wr, I i0, I ((i0 + n : Nat) : Int)] M N (CV (fun x M' N' => ∃ y, evN w f i0 n [] = [y] ∧ tyV [t] [y] ∧ x = .long y ∧ M' = M ∧ ∀ a, ¬ a = 142 → N' a = N a)) := by
  refine AC.of (L0 := [_, _, _, _, none, none, none, none]) pn_X11 (Nat.le_of_ble_eq_true rfl) rfl ?_
  refine st_iconst dX11_answer_0 ?_
  refine st_istore (L' := [_, _, _, _, _, _, _, _]) dX11_answer_1 (by decide) rfl rfl ?_
  refine st_iload_n dX11_answer_3 rfl ?_
  refine st_istore (L' := [_, _, _, _, _, _, _, _]) dX11_answer_4 (by decide) rfl rfl ?_
  have loop : ∀ (m i : Nat) (N1 : q_MemL) (ts : List Bool) (st : List Int64) (l6 l7 : Option Value), i + m = i0 + n → (∀ a, ¬ a = 142 → N1 a = N a) → StR N1 142 st → tyV ts st → ts.length ≤ 60 → tyN f i m ts = some [t] → evN w f i m st = evN w f i0 n [] → i0 ≤ i → AW0 G d m_X11_answer 6 [some (.ref 112), some (I wr), some (I i0), some (I ((i0 + n : Nat) : Int)), some (I (st.length : Int)), some (I i), l6, l7] [] M N1 (CV (fun x M' N' => ∃ y, evN w f i0 n [] = [y] ∧ tyV [t] [y] ∧ x = .long y ∧ M' = M ∧ ∀ a, ¬ a = 142 → N' a = N a)) := by
    intro m
    induction m with
    | zero =>
      intro i N1 ts st l6 l7 hi hE hS hv hl6 htt hev hi0
      have e1 : ts = [t] := Option.some.inj htt
      subst e1
      match st, hv, hS, hev with
      | [y], hv, hS, hev =>
        refine st_iload dX11_answer_6 rfl ?_
        refine st_iload_n dX11_answer_8 rfl ?_
        refine st_icmp_ge (tgt := 153) dX11_answer_9 (by omega) (by omega) rfl (fun c => ?_) (fun c => ?_)
        · refine st_aload_n dX11_answer_153 rfl ?_
          refine st_getfr dX11_answer_154 f_X11_104 (by first | with_reducible assumption | rfl) (by rfl) ?_
          refine st_iconst dX11_answer_157 ?_
          refine st_laldK (k' := 0) dX11_answer_158 sh_142 rfl (by omega) (hn := by decide) ?_
          refine r_l dX11_answer_159 rfl ⟨y, hev.symm, hv, by rw [hS.1.symm]; rfl, rfl, hE⟩
        · skip
          omega
    | succ m ih =>
      intro i N1 ts st l6 l7 hi hE hS hv hl6 htt hev hi0
      have hlen := hv.len
      have tl : ∀ (N2 : q_MemL) (l6 l7 : Option Value) (t' : List Bool) (z : Int), tyS (f i) ts = some t' → (∀ a, ¬ a = 142 → N2 a = N a) → z = ((evS w (f i) st).length : Nat) → StR N2 142 (evS w (f i) st) → AW0 G d m_X11_answer 147 [some (.ref 112), some (I wr), some (I i0), some (I ((i0 + n : Nat) : Int)), some (I z), some (I i), l6, l7] [] M N2 (CV (fun x M' N' => ∃ y, evN w f i0 n [] = [y] ∧ tyV [t] [y] ∧ x = .long y ∧ M' = M ∧ ∀ a, ¬ a = 142 → N' a = N a)) := by
        intro N2 l6 l7 t' z ht' hE2 hz hS2
        subst hz
        refine st_iinc (L' := [_, _, _, _, _, _, _, _]) dX11_answer_147 rfl (by decide) rfl rfl ?_
        refine st_goto (tgt := 6) dX11_answer_150 rfl ?_
        refine AW.to (ih (i + 1) N2 t' _ l6 l7 (by omega) hE2 hS2 (tyV_ev ht' hv) (tyS_len ht' hl6) ?_ hev (by omega)) (h2 := by simp)
        have htt2 := htt
        unfold tyN at htt2
        rw [ht'] at htt2
        exact htt2
      obtain ⟨t', ht'⟩ : ∃ t', tyS (f i) ts = some t' := by
        unfold tyN at htt
        match e : tyS (f i) ts with
        | some t' => exact ⟨t', rfl⟩
        | none => rw [e] at htt; cases htt
      have hcc := tyS_cs ht'
      have hcr := hcR i hi0 (by omega)
      have e89 : N1 141 = N 141 := hE 141 (by decide)
      generalize f i = c0 at *
      have hrg : 0 ≤ c0 ∧ c0 ≤ 100031 := by
        rcases hcc with ⟨q, -⟩ | ⟨q, -⟩ | ⟨q, -⟩ <;> omega
      refine st_iload dX11_answer_6 rfl ?_
      refine st_iload_n dX11_answer_8 rfl ?_
      refine st_icmp_ge (tgt := 153) dX11_answer_9 (by omega) (by omega) rfl (fun c => ?_) (fun c => ?_)
      · skip
        omega
      · refine st_aload_n dX11_answer_12 rfl ?_
        refine st_getfr dX11_answer_13 f_X11_75 (by first | with_reducible assumption | rfl) (by rfl) ?_
        refine st_sipush dX11_answer_16 (by decide) ?_
        refine st_iload_n dX11_answer_19 rfl ?_
        refine st_imul dX11_answer_20 ?_
        refine st_iload dX11_answer_21 rfl ?_
        refine st_iadd dX11_answer_23 ?_
        refine st_ialdK (k' := 300 * wr + i) dX11_answer_24 sh_133 (by omega) (by omega) (hn := by decide) ?_
        refine st_istore (L' := [_, _, _, _, _, _, _, _]) dX11_answer_25 (by decide) rfl rfl ?_
        refine st_aload_n dX11_answer_27 rfl ?_
        refine st_getfr dX11_answer_28 f_X11_78 (by first | with_reducible assumption | rfl) (by rfl) ?_
        refine st_sipush dX11_answer_31 (by decide) ?_
        refine st_iload_n dX11_answer_34 rfl ?_
        refine st_imul dX11_answer_35 ?_
        refine st_iload dX11_answer_36 rfl ?_
        refine st_iadd dX11_answer_38 ?_
        refine st_ialdK (k' := 300 * wr + i) dX11_answer_39 sh_134 (by omega) (by omega) (hn := by decide) ?_
        generalize M 133 (300 * wr + i) = s0 at *
        generalize M 134 (300 * wr + i) = v0 at *
        have hop : 11 ≤ c0 → c0 ≤ 23 → 2 ≤ opR c0 ∧ opR c0 ≤ 15 ∧ (opR c0 = 9 ↔ c0 = 21) := by
          intro u1 u2
          have hcs : c0 = 11 ∨ c0 = 12 ∨ c0 = 13 ∨ c0 = 14 ∨ c0 = 15 ∨ c0 = 16 ∨ c0 = 17 ∨ c0 = 18 ∨ c0 = 19 ∨ c0 = 20 ∨ c0 = 21 ∨ c0 = 22 ∨ c0 = 23 := by omega
          clear hcc hcr hev htt tl ht' ih
          rcases hcs with rfl | rfl | rfl | rfl | rfl | rfl | rfl | rfl | rfl | rfl | rfl | rfl | rfl <;> decide
        have hs0 : 0 ≤ s0 ∧ s0 ≤ 15 := by
          rcases hcr with ⟨-, q, -⟩ | ⟨-, q, -⟩ | ⟨u, q⟩
          · omega
          · omega
          · have := hop u.1 u.2
            omega
        refine st_istore (L' := [_, _, _, _, _, _, _, _]) dX11_answer_40 (by decide) rfl rfl ?_
        refine st_iload dX11_answer_42 rfl ?_
        refine st_if_eq (tgt := 53) dX11_answer_44 (by omega) rfl (fun b1 => ?_) (fun b1 => ?_)
        · refine st_aload_n dX11_answer_53 rfl ?_
          refine st_getfr dX11_answer_54 f_X11_104 (by first | with_reducible assumption | rfl) (by rfl) ?_
          refine st_iload dX11_answer_57 rfl ?_
          refine st_iload dX11_answer_59 rfl ?_
          refine st_if_ne (tgt := 70) dX11_answer_61 (by omega) rfl (fun b2 => ?_) (fun b2 => ?_)
          · skip
            omega
          · skip
            rcases hcr with ⟨u, -, q⟩ | ⟨u, q, -⟩ | ⟨u, q⟩
            · subst q
              have hl60 : st.length < 60 := by
                rcases hcc with ⟨-, q, -⟩ | ⟨q, -⟩ | ⟨q, -⟩ <;> omega
              have eS : evS w c0 st = Int64.ofInt (c0 - 32) :: st := by
                unfold evS
                rw [if_pos (by omega)]
              rw [eS] at tl
              refine st_iload dX11_answer_64 rfl ?_
              refine st_i2lK dX11_answer_66 (by omega) ?_
              refine st_goto (tgt := 77) dX11_answer_67 rfl ?_
              refine st_lastK (k' := st.length) dX11_answer_77 sh_142 rfl (by omega) (hn := by decide) ?_
              refine st_iinc (L' := [_, _, _, _, _, _, _, _]) dX11_answer_78 rfl (by decide) rfl rfl ?_
              refine st_goto (tgt := 147) dX11_answer_81 rfl ?_
              exact tl _ _ _ t' _ ht' (fun a ha => by rw [q_upL_ne ha]; exact hE a ha) (by simp) (StR.low hS rfl)
            · omega
            · have := hop u.1 u.2
              omega
        · refine st_iload dX11_answer_47 rfl ?_
          refine st_iconst dX11_answer_49 ?_
          refine st_icmp_ne (tgt := 84) dX11_answer_50 (by omega) (by omega) rfl (fun b3 => ?_) (fun b3 => ?_)
          · refine st_iload dX11_answer_84 rfl ?_
            refine st_bipush dX11_answer_86 (by decide) ?_
            rcases hcr with ⟨u, q, -⟩ | ⟨u, q, -⟩ | ⟨u, q⟩
            · omega
            · omega
            have ho := hop u.1 u.2
            subst q
            refine st_icmp_ne (tgt := 114) dX11_answer_88 (by omega) (by omega) rfl (fun b4 => ?_) (fun b4 => ?_)
            · skip
              have hn21 : ¬ c0 = 21 := fun z => b4 (ho.2.2.2 z)
              rcases hcc with ⟨q, -⟩ | ⟨q, -⟩ | ⟨q, a', b', r', rfl, e2, -⟩
              · omega
              · omega
              match st, hv, hS, hev, hlen, tl with
              | b :: a :: s, hv, hS, hev, hlen, tl =>
                have hl60 : s.length < 59 := by simp at hlen hl6; omega
                have eS : evS w c0 (b :: a :: s) = joC c0 a b :: s := by
                  unfold evS
                  rw [if_neg (by omega), if_neg (by omega), if_neg hn21]
                rw [eS] at tl
                have q0 : N1 142 (s.length + 1) = b := hS.1
                have q1 : N1 142 s.length = a := hS.2.1
                have z1 : (((b :: a :: s).length : Nat) : Int) + -1 - 1 = (s.length : Int) := by simp; omega
                have z2 : (((b :: a :: s).length : Nat) : Int) + -1 = ((s.length + 1 : Nat) : Int) := by simp; omega
                refine st_iinc (L' := [_, _, _, _, _, _, _, _]) dX11_answer_114 rfl (by decide) rfl rfl ?_
                refine st_aload_n dX11_answer_117 rfl ?_
                refine st_getfr dX11_answer_118 f_X11_104 (by first | with_reducible assumption | rfl) (by rfl) ?_
                refine st_iload dX11_answer_121 rfl ?_
                refine st_iconst dX11_answer_123 ?_
                refine st_isub dX11_answer_124 ?_
                refine st_iload dX11_answer_125 rfl ?_
                refine st_aload_n dX11_answer_127 rfl ?_
                refine st_getfr dX11_answer_128 f_X11_104 (by first | with_reducible assumption | rfl) (by rfl) ?_
                refine st_iload dX11_answer_131 rfl ?_
                refine st_iconst dX11_answer_133 ?_
                refine st_isub dX11_answer_134 ?_
                refine st_laldK (k' := s.length) dX11_answer_135 sh_142 (by simp; omega) (by omega) (hn := by decide) ?_
                rw [q1]
                refine st_aload_n dX11_answer_136 rfl ?_
                refine st_getfr dX11_answer_137 f_X11_104 (by first | with_reducible assumption | rfl) (by rfl) ?_
                refine st_iload dX11_answer_140 rfl ?_
                refine st_laldK (k' := s.length + 1) dX11_answer_142 sh_142 (by simp; omega) (by omega) (hn := by decide) ?_
                rw [q0]
                refine c_S3p (d' := d - 1) dX11_answer_143 l_X11_386 k_X11_both s_X11_both (by omega) (Nat.le_of_ble_eq_true rfl) (C_both (by omega) (by omega)) ?_
                refine st_lastK (k' := s.length) dX11_answer_146 sh_142 (by simp; omega) (by omega) (hn := by decide) ?_
                exact tl _ _ _ t' _ ht' (fun a ha => by rw [q_upL_ne ha]; exact hE a ha) (by simp; omega) (StR.low hS.2.2 rfl)
            · skip
              have c21 : c0 = 21 := ho.2.2.1 b4
              rcases hcc with ⟨q, -⟩ | ⟨-, r', rfl, e2⟩ | ⟨q, -⟩
              · omega
              · match st, hv, hS, hev, hlen, tl with
                | x :: s, hv, hS, hev, hlen, tl =>
                  have hl60 : s.length < 60 := by simp at hlen hl6; omega
                  have eS : evS w c0 (x :: s) = (1 - x) :: s := by
                    unfold evS
                    rw [if_neg (by omega), if_neg (by omega), if_pos c21]
                  rw [eS] at tl
                  have q0 : N1 142 s.length = x := hS.1
                  refine st_aload_n dX11_answer_91 rfl ?_
                  refine st_getfr dX11_answer_92 f_X11_104 (by first | with_reducible assumption | rfl) (by rfl) ?_
                  refine st_iload dX11_answer_95 rfl ?_
                  refine st_iconst dX11_answer_97 ?_
                  refine st_isub dX11_answer_98 ?_
                  refine st_lc1K dX11_answer_99 ?_
                  refine AW.topv (show _ = Value.long 1 from rfl) ?_
                  refine st_aload_n dX11_answer_100 rfl ?_
                  refine st_getfr dX11_answer_101 f_X11_104 (by first | with_reducible assumption | rfl) (by rfl) ?_
                  refine st_iload dX11_answer_104 rfl ?_
                  refine st_iconst dX11_answer_106 ?_
                  refine st_isub dX11_answer_107 ?_
                  refine st_laldK (k' := s.length) dX11_answer_108 sh_142 (by simp) (by omega) (hn := by decide) ?_
                  rw [q0]
                  refine st_lsub dX11_answer_109 ?_
                  refine st_lastK (k' := s.length) dX11_answer_110 sh_142 (by simp) (by omega) (hn := by decide) ?_
                  refine st_goto (tgt := 147) dX11_answer_111 rfl ?_
                  exact tl _ _ _ t' _ ht' (fun a ha => by rw [q_upL_ne ha]; exact hE a ha) (by simp) (StR.low hS.2 rfl)
              · omega
          · skip
            rcases hcr with ⟨u, q, -⟩ | ⟨u, -, q⟩ | ⟨u, q⟩
            · omega
            · subst q
              have hl60 : st.length < 60 := by
                rcases hcc with ⟨-, q, -⟩ | ⟨q, -⟩ | ⟨q, -⟩ <;> omega
              have eS : evS w v0 st = w v0.toNat :: st := by
                unfold evS
                rw [if_neg (by omega), if_pos (by omega)]
              rw [eS] at tl
              refine st_aload_n dX11_answer_53 rfl ?_
              refine st_getfr dX11_answer_54 f_X11_104 (by first | with_reducible assumption | rfl) (by rfl) ?_
              refine st_iload dX11_answer_57 rfl ?_
              refine st_iload dX11_answer_59 rfl ?_
              refine st_if_ne (tgt := 70) dX11_answer_61 (by omega) rfl (fun b5 => ?_) (fun b5 => ?_)
              · refine st_aload_n dX11_answer_70 rfl ?_
                refine st_getfr dX11_answer_71 f_X11_100 (by first | with_reducible assumption | rfl) (by rfl) ?_
                refine st_iload dX11_answer_74 rfl ?_
                refine st_laldK (k' := v0.toNat) dX11_answer_76 sh_141 (by omega) (by omega) (hn := by decide) ?_
                rw [e89, hw _ (by omega)]
                refine st_lastK (k' := st.length) dX11_answer_77 sh_142 rfl (by omega) (hn := by decide) ?_
                refine st_iinc (L' := [_, _, _, _, _, _, _, _]) dX11_answer_78 rfl (by decide) rfl rfl ?_
                refine st_goto (tgt := 147) dX11_answer_81 rfl ?_
                exact tl _ _ _ t' _ ht' (fun a ha => by rw [q_upL_ne ha]; exact hE a ha) (by simp) (StR.low hS rfl)
              · skip
                omega
            · have := hop u.1 u.2
              omega
  refine AW.to (loop n i0 N [] [] none none (by omega) (fun _ _ => rfl) trivial trivial (by decide) hty rfl (Nat.le_refl _)) (h2 := ?_)
  rfl


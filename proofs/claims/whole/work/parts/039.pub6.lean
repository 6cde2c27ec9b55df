/-! the system's questions: things; ears -/
def A_thing (M : q_Mem) (t what : Int) : Int := if 0 ≤ t ∧ t < M 3 5 then (if what = 0 then g4 (M 3 13) (7 + t.toNat) else if what = 1 then g8 (M 3 12) (7 + t.toNat) else if what = 2 then M 6 t.toNat else if what = 3 then hearT (M 3 4).toNat (M 6 t.toNat) (g8 (M 3 12)) (g4 (M 3 13)) (nowV M 0) t.toNat else -1) else -1
theorem C_thing {G : q_G} {d : Nat} {M : q_Mem} {N : q_MemL} {t what : Int} (hd : 4 ≤ d) (hM : NowOk M) (ht : i32 t) (hw : i32 what) : AC0 G d m_X10_thing [.ref 0, I t, I what] M N (CV (fun v M' N' => v = I (A_thing M t what) ∧ N' = N ∧ Exc [111] M M')) := by
  have hr := Hok.rg hM
  have hH : isHome 3 := Or.inl rfl
  obtain ⟨h0, h1, h2, h3, h4, h5, h6, h11, h12, h13, -⟩ := id hM
  have htt := ht
  unfold i32 at htt hw
  refine AC.of (L0 := [_, _, _]) pn_X10 (Nat.le_of_ble_eq_true rfl) rfl ?_
  refine st_aload_n dX10_thing_0 rfl ?_
  refine st_getfr dX10_thing_1 f_X10_19 (by first | assumption | rfl) (by rfl) ?_
  refine st_iload_n dX10_thing_4 rfl ?_
  refine c_V1p (d' := d - 1) dX10_thing_5 l_X10_179 k_X2_hasThing i_X2_hasThing (Or.inl ⟨_, _, _, _, _, (by first | assumption | rfl), by rfl⟩) (by omega) (Nat.le_of_ble_eq_true rfl) (C_hasThing hH (by omega) ht) ?_
  refine b_ne (tgt := 13) dX10_thing_8 rfl (fun h7 => ?_) (fun h7 => ?_)
  · skip
    have e : A_thing M t what = (if what = 0 then g4 (M 3 13) (7 + t.toNat) else if what = 1 then g8 (M 3 12) (7 + t.toNat) else if what = 2 then M 6 t.toNat else if what = 3 then hearT (M 3 4).toNat (M 6 t.toNat) (g8 (M 3 12)) (g4 (M 3 13)) (nowV M 0) t.toNat else -1) := if_pos h7
    have hpe : t = ((t.toNat : Nat) : Int) := by omega
    have hpe7 : (7 : Int) + t = ((7 + t.toNat : Nat) : Int) := by omega
    refine st_iload_n dX10_thing_13 rfl ?_
    by_cases hc : 0 ≤ what ∧ what ≤ 3
    · have hc2 : what = 0 ∨ what = 1 ∨ what = 2 ∨ what = 3 := by omega
      rcases hc2 with rfl | rfl | rfl | rfl
      · refine st_tsIn (off := 30) (tgt := 44) dX10_thing_14 (by decide) (by decide) (by decide) rfl rfl ?_
        refine st_aload_n dX10_thing_44 rfl ?_
        refine st_getfr dX10_thing_45 f_X10_19 (by first | assumption | rfl) (by rfl) ?_
        refine st_getfi dX10_thing_48 f_X10_131 (by first | assumption | rfl) (by rfl) ?_
        refine st_bipush dX10_thing_51 (by decide) ?_
        refine st_iload_n dX10_thing_53 rfl ?_
        refine st_iadd dX10_thing_54 ?_
        rw [hpe7]
        refine c_S2p (d' := d - 1) dX10_thing_55 l_X10_134 k_X10_roomIn s_X10_roomIn (by omega) (Nat.le_of_ble_eq_true rfl) (C_roomIn (by omega) (by omega)) ?_
        exact r_i dX10_thing_58 rfl ⟨by rw [e]; rfl, rfl, Exc.rf⟩
      · refine st_tsIn (off := 45) (tgt := 59) dX10_thing_14 (by decide) (by decide) (by decide) rfl rfl ?_
        refine st_aload_n dX10_thing_59 rfl ?_
        refine st_getfr dX10_thing_60 f_X10_19 (by first | assumption | rfl) (by rfl) ?_
        refine st_getfi dX10_thing_63 f_X10_138 (by first | assumption | rfl) (by rfl) ?_
        refine st_bipush dX10_thing_66 (by decide) ?_
        refine st_iload_n dX10_thing_68 rfl ?_
        refine st_iadd dX10_thing_69 ?_
        rw [hpe7]
        refine c_S2p (d' := d - 1) dX10_thing_70 l_X10_141 k_X10_storeyIn s_X10_storeyIn (by omega) (Nat.le_of_ble_eq_true rfl) (C_storeyIn (by omega) (by omega)) ?_
        exact r_i dX10_thing_73 rfl ⟨by rw [e]; rfl, rfl, Exc.rf⟩
      · refine st_tsIn (off := 60) (tgt := 74) dX10_thing_14 (by decide) (by decide) (by decide) rfl rfl ?_
        refine st_aload_n dX10_thing_74 rfl ?_
        refine st_getfr dX10_thing_75 f_X10_19 (by first | assumption | rfl) (by rfl) ?_
        refine st_getfr dX10_thing_78 f_X10_182 (by first | assumption | rfl) (by rfl) ?_
        refine st_iload_n dX10_thing_81 rfl ?_
        refine c_S2p (d' := d - 1) dX10_thing_82 l_X10_172 k_X10_cell s_X10_cell (by omega) (Nat.le_of_ble_eq_true rfl) (C_cellI sh_6 (by decide) (by omega)) ?_
        exact r_i dX10_thing_85 rfl ⟨by rw [e]; rfl, rfl, Exc.rf⟩
      · refine st_tsIn (off := 72) (tgt := 86) dX10_thing_14 (by decide) (by decide) (by decide) rfl rfl ?_
        refine st_aload_n dX10_thing_86 rfl ?_
        refine st_getfr dX10_thing_87 f_X10_19 (by first | assumption | rfl) (by rfl) ?_
        refine st_aload_n dX10_thing_90 rfl ?_
        refine st_getfr dX10_thing_91 f_X10_19 (by first | assumption | rfl) (by rfl) ?_
        refine st_getfi dX10_thing_94 f_X10_144 (by first | assumption | rfl) (by rfl) ?_
        refine st_iconst dX10_thing_97 ?_
        refine st_aload_n dX10_thing_98 rfl ?_
        refine st_getfr dX10_thing_99 f_X10_92 (by first | assumption | rfl) (by rfl) ?_
        refine c_V3v (d' := d - 1) dX10_thing_102 l_X10_154 k_X2_tell i_X2_tell (Or.inl ⟨_, _, _, _, _, (by first | assumption | rfl), by rfl⟩) (by omega) (Nat.le_of_ble_eq_true rfl) (C_tellV hH (by omega) hr sh_111 (by decide) (by decide) (by omega) (by omega)) (fun M1 N1 hx => ?_)
        obtain ⟨rfl, hE, hv, -⟩ := hx
        have e3 := hE 3 (by decide)
        refine st_aload_n dX10_thing_105 rfl ?_
        refine st_getfr dX10_thing_106 f_X10_19 (by first | assumption | rfl) (by rfl) ?_
        refine st_iload_n dX10_thing_109 rfl ?_
        refine st_aload_n dX10_thing_110 rfl ?_
        refine st_getfr dX10_thing_111 f_X10_19 (by first | assumption | rfl) (by rfl) ?_
        refine st_getfi dX10_thing_114 f_X10_138 (by first | assumption | rfl) (by rfl) ?_
        refine st_aload_n dX10_thing_117 rfl ?_
        refine st_getfr dX10_thing_118 f_X10_92 (by first | assumption | rfl) (by rfl) ?_
        rw [hpe]
        refine c_V3p (d' := d - 1) dX10_thing_121 l_X10_185 k_X2_heardAt i_X2_heardAt (Or.inl ⟨_, _, _, _, _, (by first | assumption | rfl), by rfl⟩) (by omega) (Nat.le_of_ble_eq_true rfl) (C_heardAt hH (by omega) (hr.exc hE (by decide) (by decide) (by decide) (by decide)) sh_111 (by decide) (by omega) (by rw [e3]; omega) (toldS hr e3 hv)) ?_
        rw [e3, show M1 (3 + 3) = M 6 from hE 6 (by decide), hearT_congr (v' := nowV M 0) (st' := g8 (M 3 12)) (rm' := g4 (M 3 13)) (w' := M 6 t.toNat) rfl (fun _ _ => rfl) (fun _ _ => rfl) hv rfl rfl]
        exact r_i dX10_thing_124 rfl ⟨by rw [← hpe, e]; rfl, rfl, hE⟩
    · rw [if_neg (by omega), if_neg (by omega), if_neg (by omega), if_neg (by omega)] at e
      refine st_tsOut (tgt := 125) dX10_thing_14 (by omega) (by omega) rfl ?_
      refine st_iconst dX10_thing_125 ?_
      exact r_i dX10_thing_126 rfl ⟨by rw [e], rfl, Exc.rf⟩
  · refine st_iconst dX10_thing_11 ?_
    exact r_i dX10_thing_12 rfl ⟨by rw [A_thing, if_neg h7], rfl, Exc.rf⟩
def earOk (M : q_Mem) (r s v : Int) : Prop := M 3 17 < 8 ∧ (0 ≤ r ∧ r < M 3 1) ∧ (0 ≤ s ∧ s < M 3 3) ∧ 0 ≤ v ∧ v ≤ 30
/-- one more ear -/
def U_ear (M : q_Mem) (r s v : Int) : q_Mem := q_up (q_up (q_up (q_up M 9 (M 3 17 * 3).toNat r) 9 (M 3 17 * 3 + 1).toNat s) 9 (M 3 17 * 3 + 2).toNat v) 3 17 (M 3 17 + 1)
def EarR (M : q_Mem) (N : q_MemL) (r s v : Int) : Value → q_Mem → q_MemL → Prop := fun x M' N' => N' = N ∧ ((r = -1 ∧ x = I 0 ∧ M' = q_up M 3 17 0) ∨ (¬ r = -1 ∧ ¬ earOk M r s v ∧ x = I (-2) ∧ M' = M) ∨ (¬ r = -1 ∧ earOk M r s v ∧ x = I (M 3 17 + 1) ∧ M' = U_ear M r s v))
theorem C_ear {G : q_G} {d : Nat} {M : q_Mem} {N : q_MemL} {r s v : Int} (hd : 2 ≤ d) (hM : NowOk M) (hr : i32 r) (hs : i32 s) (hv : i32 v) : AC0 G d m_X10_ear [.ref 0, I r, I s, I v] M N (CV (EarR M N r s v)) := by
  have hH : isHome 3 := Or.inl rfl
  obtain ⟨h0, h1, h2, h3, h4, h5, h6, h11, h12, h13, h15, h17, -⟩ := id hM
  have hrr := hr
  unfold i32 at hrr
  refine AC.of (L0 := [_, _, _, _, none, none]) pn_X10 (Nat.le_of_ble_eq_true rfl) rfl ?_
  refine st_iload_n dX10_ear_0 rfl ?_
  refine st_iconst dX10_ear_1 ?_
  refine st_icmp_ne (tgt := 15) dX10_ear_2 (by omega) (by omega) rfl (fun h7 => ?_) (fun h7 => ?_)
  · refine st_aload_n dX10_ear_15 rfl ?_
    refine st_getfr dX10_ear_16 f_X10_19 (by first | assumption | rfl) (by rfl) ?_
    refine st_getfi dX10_ear_19 f_X10_278 (by first | assumption | rfl) (by rfl) ?_
    refine st_bipush dX10_ear_22 (by decide) ?_
    have no : ¬ earOk M r s v → {l4 : Option Value} → AW0 G d m_X10_ear 68 [some (.ref 0), some (I r), some (I s), some (I v), l4, none] [] M N (CV (EarR M N r s v)) := by
      intro hno l4
      refine st_bipush dX10_ear_68 (by decide) ?_
      exact r_i dX10_ear_70 rfl ⟨rfl, Or.inr (Or.inl ⟨h7, hno, rfl, rfl⟩)⟩
    unfold earOk at no
    refine st_icmp_lt (tgt := 31) dX10_ear_24 (by omega) (by omega) rfl (fun h8 => ?_) (fun h8 => ?_)
    · refine st_iconst dX10_ear_31 ?_
      refine st_istore (L' := [_, _, _, _, _, _]) dX10_ear_32 (by decide) rfl rfl ?_
      refine st_iload dX10_ear_34 rfl ?_
      refine st_if_ne (tgt := 68) dX10_ear_36 (by omega) rfl (fun h9 => ?_) (fun h9 => ?_)
      · skip
        omega
      · refine st_aload_n dX10_ear_39 rfl ?_
        refine st_getfr dX10_ear_40 f_X10_19 (by first | assumption | rfl) (by rfl) ?_
        refine st_iload_n dX10_ear_43 rfl ?_
        refine c_V1p (d' := d - 1) dX10_ear_44 l_X10_196 k_X2_hasRoom i_X2_hasRoom (Or.inl ⟨_, _, _, _, _, (by first | assumption | rfl), by rfl⟩) (by omega) (Nat.le_of_ble_eq_true rfl) (C_hasRoom hH (by omega) hr) ?_
        refine b_eq (tgt := 68) dX10_ear_47 rfl (fun h10 => ?_) (fun h10 => ?_)
        · skip
          exact no (fun z => h10 z.2.1)
        · refine st_aload_n dX10_ear_50 rfl ?_
          refine st_getfr dX10_ear_51 f_X10_19 (by first | assumption | rfl) (by rfl) ?_
          refine st_iload_n dX10_ear_54 rfl ?_
          refine c_V1p (d' := d - 1) dX10_ear_55 l_X10_199 k_X2_hasStorey i_X2_hasStorey (Or.inl ⟨_, _, _, _, _, (by first | assumption | rfl), by rfl⟩) (by omega) (Nat.le_of_ble_eq_true rfl) (C_hasStorey hH (by omega) hs) ?_
          refine b_eq (tgt := 68) dX10_ear_58 rfl (fun h12' => ?_) (fun h12' => ?_)
          · skip
            exact no (fun z => h12' z.2.2.1)
          · refine st_iload_n dX10_ear_61 rfl ?_
            refine c_S1p (d' := d - 1) dX10_ear_62 l_X10_216 k_X10_isVoice s_X10_isVoice (by omega) (Nat.le_of_ble_eq_true rfl) (C_isVoice hv) ?_
            refine b_ne (tgt := 71) dX10_ear_65 rfl (fun h14 => ?_) (fun h14 => ?_)
            · refine st_aload_n dX10_ear_71 rfl ?_
              refine st_getfr dX10_ear_72 f_X10_19 (by first | assumption | rfl) (by rfl) ?_
              refine st_getfi dX10_ear_75 f_X10_278 (by first | assumption | rfl) (by rfl) ?_
              refine st_iconst dX10_ear_78 ?_
              refine st_imul dX10_ear_79 ?_
              refine st_istore (L' := [_, _, _, _, _, _]) dX10_ear_80 (by decide) rfl rfl ?_
              refine st_aload_n dX10_ear_82 rfl ?_
              refine st_getfr dX10_ear_83 f_X10_19 (by first | assumption | rfl) (by rfl) ?_
              refine st_getfr dX10_ear_86 f_X10_281 (by first | assumption | rfl) (by rfl) ?_
              refine st_iload dX10_ear_89 rfl ?_
              refine st_iload_n dX10_ear_91 rfl ?_
              refine c_S3v (d' := d - 1) dX10_ear_92 l_X10_219 k_X10_put s_X10_put (by omega) (Nat.le_of_ble_eq_true rfl) (C_putI sh_9 (by decide) (by omega)) (fun M1 N1 hx => ?_)
              obtain ⟨hM1, rfl⟩ := hx
              have q1 : M1 3 = M 3 := by rw [hM1]; exact q_up_ne (by decide)
              refine st_aload_n dX10_ear_95 rfl ?_
              refine st_getfr dX10_ear_96 f_X10_19 (by first | assumption | rfl) (by rfl) ?_
              refine st_getfr dX10_ear_99 f_X10_281 (by first | assumption | rfl) (by rfl) ?_
              refine st_iload dX10_ear_102 rfl ?_
              refine st_iconst dX10_ear_104 ?_
              refine st_iadd dX10_ear_105 ?_
              refine st_iload_n dX10_ear_106 rfl ?_
              refine c_S3v (d' := d - 1) dX10_ear_107 l_X10_219 k_X10_put s_X10_put (by omega) (Nat.le_of_ble_eq_true rfl) (C_putI sh_9 (by decide) (by omega)) (fun M2 N2 hx => ?_)
              obtain ⟨hM2, rfl⟩ := hx
              have q2 : M2 3 = M 3 := by rw [hM2, ← q1]; exact q_up_ne (by decide)
              refine st_aload_n dX10_ear_110 rfl ?_
              refine st_getfr dX10_ear_111 f_X10_19 (by first | assumption | rfl) (by rfl) ?_
              refine st_getfr dX10_ear_114 f_X10_281 (by first | assumption | rfl) (by rfl) ?_
              refine st_iload dX10_ear_117 rfl ?_
              refine st_iconst dX10_ear_119 ?_
              refine st_iadd dX10_ear_120 ?_
              refine st_iload_n dX10_ear_121 rfl ?_
              refine c_S3v (d' := d - 1) dX10_ear_122 l_X10_219 k_X10_put s_X10_put (by omega) (Nat.le_of_ble_eq_true rfl) (C_putI sh_9 (by decide) (by omega)) (fun M3 N3 hx => ?_)
              obtain ⟨hM3, rfl⟩ := hx
              have q3 : M3 3 = M 3 := by rw [hM3, ← q2]; exact q_up_ne (by decide)
              refine st_aload_n dX10_ear_125 rfl ?_
              refine st_getfr dX10_ear_126 f_X10_19 (by first | assumption | rfl) (by rfl) ?_
              refine st_dup dX10_ear_129 rfl ?_
              refine st_getfi dX10_ear_130 f_X10_278 (by first | assumption | rfl) (by rfl) ?_
              refine st_iconst dX10_ear_133 ?_
              refine st_iadd dX10_ear_134 ?_
              refine st_putfi dX10_ear_135 w_X10_278 (by first | assumption | rfl) (by rfl) rfl rfl ?_
              refine st_aload_n dX10_ear_138 rfl ?_
              refine st_getfr dX10_ear_139 f_X10_19 (by first | assumption | rfl) (by rfl) ?_
              refine st_getfi dX10_ear_142 f_X10_278 (by first | assumption | rfl) (by rfl) ?_
              rw [q3, show q_up M3 3 17 (M 3 17 + 1) 3 17 = M 3 17 + 1 by simp [q_up]]
              exact r_i dX10_ear_145 rfl ⟨rfl, Or.inr (Or.inr ⟨h7, ⟨by omega, h10, h12', h14⟩, rfl, by rw [hM3, hM2, hM1]; rfl⟩)⟩
            · skip
              exact no (fun z => h14 z.2.2.2)
    · refine st_iconst dX10_ear_27 ?_
      refine st_goto (tgt := 32) dX10_ear_28 rfl ?_
      refine st_istore (L' := [_, _, _, _, _, _]) dX10_ear_32 (by decide) rfl rfl ?_
      refine st_iload dX10_ear_34 rfl ?_
      refine st_if_ne (tgt := 68) dX10_ear_36 (by omega) rfl (fun h9 => ?_) (fun h9 => ?_)
      · skip
        exact no (fun z => h8 z.1)
      · skip
        omega
  · refine st_aload_n dX10_ear_5 rfl ?_
    refine st_getfr dX10_ear_6 f_X10_19 (by first | assumption | rfl) (by rfl) ?_
    refine st_iconst dX10_ear_9 ?_
    refine st_putfi dX10_ear_10 w_X10_278 (by first | assumption | rfl) (by rfl) rfl rfl ?_
    refine st_iconst dX10_ear_13 ?_
    exact r_i dX10_ear_14 rfl ⟨rfl, Or.inl ⟨by omega, rfl, rfl⟩⟩


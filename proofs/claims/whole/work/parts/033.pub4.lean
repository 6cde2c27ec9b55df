/-! the system's questions: people, things, who is where; ears -/
def atF (M : q_Mem) (r s : Int) : Nat → Int
  | 0 => 0
  | n + 1 => if g4 (M 3 13) n = r ∧ g8 (M 3 12) n = s then orb (atF M r s n) n else atF M r s n
theorem atF_rng (M : q_Mem) (r s : Int) : ∀ n, n ≤ 7 → 0 ≤ atF M r s n ∧ atF M r s n < 128
  | 0, _ => by simp [atF]
  | n + 1, h => by
    have := atF_rng M r s n (by omega)
    unfold atF
    split
    · exact orb_rng this (by omega)
    · exact this
def A_at (M : q_Mem) (r s : Int) : Int := if (0 ≤ r ∧ r < M 3 1) ∧ 0 ≤ s ∧ s < M 3 3 then atF M r s (M 3 4).toNat else -1
theorem C_at {G : q_G} {d : Nat} {M : q_Mem} {N : q_MemL} {r s : Int} (hd : 3 ≤ d) (hM : NowOk M) (hr0 : i32 r) (hs : i32 s) : AC0 G d m_X10_at [.ref 0, I r, I s] M N (CV (PU (I (A_at M r s)) M N)) := by
  have hr := Hok.rg hM
  obtain ⟨h0, h1, h2, h3, h4, h5, h6, h11, h12, h13, -⟩ := id hM
  refine AC.of (L0 := [_, _, _, none, none]) pn_X10 (Nat.le_of_ble_eq_true rfl) rfl ?_
  refine st_aload_n dX10_at_0 rfl ?_
  refine st_getfr dX10_at_1 f_X10_19 (by first | assumption | rfl) (by rfl) ?_
  refine st_iload_n dX10_at_4 rfl ?_
  refine c_V1p (d' := d - 1) dX10_at_5 l_X10_196 k_X2_hasRoom i_X2_hasRoom (Or.inl ⟨_, _, _, _, _, (by first | assumption | rfl), by rfl⟩) (by omega) (Nat.le_of_ble_eq_true rfl) (C_hasRoom (Or.inl rfl) (by omega) hr0) ?_
  refine b_eq (tgt := 22) dX10_at_8 rfl (fun h7 => ?_) (fun h7 => ?_)
  · refine st_iconst dX10_at_22 ?_
    exact r_i dX10_at_23 rfl ⟨by rw [A_at, if_neg (fun z => h7 z.1)], rfl, rfl⟩
  · refine st_aload_n dX10_at_11 rfl ?_
    refine st_getfr dX10_at_12 f_X10_19 (by first | assumption | rfl) (by rfl) ?_
    refine st_iload_n dX10_at_15 rfl ?_
    refine c_V1p (d' := d - 1) dX10_at_16 l_X10_199 k_X2_hasStorey i_X2_hasStorey (Or.inl ⟨_, _, _, _, _, (by first | assumption | rfl), by rfl⟩) (by omega) (Nat.le_of_ble_eq_true rfl) (C_hasStorey (Or.inl rfl) (by omega) hs) ?_
    refine b_ne (tgt := 24) dX10_at_19 rfl (fun h8 => ?_) (fun h8 => ?_)
    · refine st_iconst dX10_at_24 ?_
      refine st_istore_n (L' := [_, _, _, _, _]) dX10_at_25 (by decide) rfl rfl ?_
      refine st_iconst dX10_at_26 ?_
      refine st_istore (L' := [_, _, _, _, _]) dX10_at_27 (by decide) rfl rfl ?_
      have loop : ∀ (q k : Nat), k + q = (M 3 4).toNat → AW0 G d m_X10_at 29 [some (.ref 0), some (I r), some (I s), some (I (atF M r s k)), some (I k)] [] M N (CV (PU (I (A_at M r s)) M N)) := by
        intro q
        induction q with
        | zero =>
          intro k hk
          refine st_iload dX10_at_29 rfl ?_
          refine st_aload_n dX10_at_31 rfl ?_
          refine st_getfr dX10_at_32 f_X10_19 (by first | assumption | rfl) (by rfl) ?_
          refine st_getfi dX10_at_35 f_X10_114 (by first | assumption | rfl) (by rfl) ?_
          refine st_icmp_ge (tgt := 68) dX10_at_38 (by omega) (by omega) rfl (fun h => ?_) (fun h => ?_)
          · refine st_iload_n dX10_at_68 rfl ?_
            exact r_i dX10_at_69 rfl ⟨by rw [A_at, if_pos ⟨h7, h8⟩, show k = (M 3 4).toNat by omega], rfl, rfl⟩
          · skip
            omega
        | succ q ih =>
          intro k hk
          have hl := atF_rng M r s k (by omega)
          refine st_iload dX10_at_29 rfl ?_
          refine st_aload_n dX10_at_31 rfl ?_
          refine st_getfr dX10_at_32 f_X10_19 (by first | assumption | rfl) (by rfl) ?_
          refine st_getfi dX10_at_35 f_X10_114 (by first | assumption | rfl) (by rfl) ?_
          refine st_icmp_ge (tgt := 68) dX10_at_38 (by omega) (by omega) rfl (fun h => ?_) (fun h => ?_)
          · skip
            omega
          · refine st_aload_n dX10_at_41 rfl ?_
            refine st_getfr dX10_at_42 f_X10_19 (by first | assumption | rfl) (by rfl) ?_
            refine st_iload dX10_at_45 rfl ?_
            refine st_iload_n dX10_at_47 rfl ?_
            refine st_iload_n dX10_at_48 rfl ?_
            refine c_V3p (d' := d - 1) dX10_at_49 l_X10_202 k_X2_isAt i_X2_isAt (Or.inl ⟨_, _, _, _, _, (by first | assumption | rfl), by rfl⟩) (by omega) (Nat.le_of_ble_eq_true rfl) (C_isAt (Or.inl rfl) (by omega) ⟨hr, h12⟩ (by omega) hr0 hs) ?_
            refine b_eq (tgt := 62) dX10_at_52 rfl (fun h9 => ?_) (fun h9 => ?_)
            · refine st_iinc (L' := [_, _, _, _, _]) dX10_at_62 rfl (by decide) rfl rfl ?_
              refine st_goto (tgt := 29) dX10_at_65 rfl ?_
              exact AW.to (ih (k + 1) (by omega)) (h2 := by rw [show atF M r s (k + 1) = atF M r s k from if_neg h9]; simp)
            · refine st_iload_n dX10_at_55 rfl ?_
              refine st_iconst dX10_at_56 ?_
              refine st_iload dX10_at_57 rfl ?_
              refine st_ishl dX10_at_59 ?_
              refine st_ior dX10_at_60 ?_
              refine AW.topv (show _ = I (orb (atF M r s k) k) from congrArg Value.int (z_set hl.1 (by omega))) ?_
              refine st_istore_n (L' := [_, _, _, _, _]) dX10_at_61 (by decide) rfl rfl ?_
              refine st_iinc (L' := [_, _, _, _, _]) dX10_at_62 rfl (by decide) rfl rfl ?_
              refine st_goto (tgt := 29) dX10_at_65 rfl ?_
              exact AW.to (ih (k + 1) (by omega)) (h2 := by rw [show atF M r s (k + 1) = orb (atF M r s k) k from if_pos h9]; simp)
      exact loop (M 3 4).toNat 0 (by omega)
    · refine st_iconst dX10_at_22 ?_
      exact r_i dX10_at_23 rfl ⟨by rw [A_at, if_neg (fun z => h8 z.2)], rfl, rfl⟩
def A_person (M : q_Mem) (p what : Int) : Int := if 0 ≤ p ∧ p < M 3 4 then (if what = 0 then g4 (M 3 13) p.toNat else if what = 1 then g8 (M 3 12) p.toNat else if what = 2 then M 7 (p * 6 + hourOf (M 3 2) (M 3 11)).toNat else if what = 3 then hearP (M 3 4).toNat (M 3 6) (g8 (M 3 12)) (g4 (M 3 13)) (nowV M 0) p.toNat else if what = 4 then (if (M 3 6).toNat.testBit p.toNat = true then 1 else 0) else if what = 5 then M 5 p.toNat else if 100 ≤ what ∧ what - 100 < M 3 2 then M 7 (p * 6 + (what - 100)).toNat else -1) else -1
theorem C_person {G : q_G} {d : Nat} {M : q_Mem} {N : q_MemL} {p what : Int} (hd : 3 ≤ d) (hM : NowOk M) (hp : i32 p) (hw : i32 what) : AC0 G d m_X10_person [.ref 0, I p, I what] M N (CV (fun v M' N' => v = I (A_person M p what) ∧ N' = N ∧ Exc [111] M M')) := by
  have hr := Hok.rg hM
  have hH : isHome 3 := Or.inl rfl
  obtain ⟨h0, h1, h2, h3, h4, h5, h6, h11, h12, h13, -⟩ := id hM
  have hpp := hp
  unfold i32 at hpp hw
  refine AC.of (L0 := [_, _, _, none]) pn_X10 (Nat.le_of_ble_eq_true rfl) rfl ?_
  refine st_aload_n dX10_person_0 rfl ?_
  refine st_getfr dX10_person_1 f_X10_19 (by first | assumption | rfl) (by rfl) ?_
  refine st_iload_n dX10_person_4 rfl ?_
  refine c_V1p (d' := d - 1) dX10_person_5 l_X10_127 k_X2_hasPerson i_X2_hasPerson (Or.inl ⟨_, _, _, _, _, (by first | assumption | rfl), by rfl⟩) (by omega) (Nat.le_of_ble_eq_true rfl) (C_hasPerson hH (by omega) hp) ?_
  refine b_ne (tgt := 13) dX10_person_8 rfl (fun h7 => ?_) (fun h7 => ?_)
  · skip
    have e : A_person M p what = (if what = 0 then g4 (M 3 13) p.toNat else if what = 1 then g8 (M 3 12) p.toNat else if what = 2 then M 7 (p * 6 + hourOf (M 3 2) (M 3 11)).toNat else if what = 3 then hearP (M 3 4).toNat (M 3 6) (g8 (M 3 12)) (g4 (M 3 13)) (nowV M 0) p.toNat else if what = 4 then (if (M 3 6).toNat.testBit p.toNat = true then 1 else 0) else if what = 5 then M 5 p.toNat else if 100 ≤ what ∧ what - 100 < M 3 2 then M 7 (p * 6 + (what - 100)).toNat else -1) := if_pos h7
    have hpe : p = ((p.toNat : Nat) : Int) := by omega
    have hho := hourOf_rng (h := M 3 2) (b := M 3 11) (by omega)
    refine st_iload_n dX10_person_13 rfl ?_
    by_cases hc : 0 ≤ what ∧ what ≤ 5
    · have hc2 : what = 0 ∨ what = 1 ∨ what = 2 ∨ what = 3 ∨ what = 4 ∨ what = 5 := by omega
      rcases hc2 with rfl | rfl | rfl | rfl | rfl | rfl
      · refine st_tsIn (off := 38) (tgt := 52) dX10_person_14 (by decide) (by decide) (by decide) rfl rfl ?_
        refine st_aload_n dX10_person_52 rfl ?_
        refine st_getfr dX10_person_53 f_X10_19 (by first | assumption | rfl) (by rfl) ?_
        refine st_getfi dX10_person_56 f_X10_131 (by first | assumption | rfl) (by rfl) ?_
        refine st_iload_n dX10_person_59 rfl ?_
        rw [hpe]
        refine c_S2p (d' := d - 1) dX10_person_60 l_X10_134 k_X10_roomIn s_X10_roomIn (by omega) (Nat.le_of_ble_eq_true rfl) (C_roomIn (by omega) (by omega)) ?_
        exact r_i dX10_person_63 rfl ⟨by rw [← hpe, e]; rfl, rfl, Exc.rf⟩
      · refine st_tsIn (off := 50) (tgt := 64) dX10_person_14 (by decide) (by decide) (by decide) rfl rfl ?_
        refine st_aload_n dX10_person_64 rfl ?_
        refine st_getfr dX10_person_65 f_X10_19 (by first | assumption | rfl) (by rfl) ?_
        refine st_getfi dX10_person_68 f_X10_138 (by first | assumption | rfl) (by rfl) ?_
        refine st_iload_n dX10_person_71 rfl ?_
        rw [hpe]
        refine c_S2p (d' := d - 1) dX10_person_72 l_X10_141 k_X10_storeyIn s_X10_storeyIn (by omega) (Nat.le_of_ble_eq_true rfl) (C_storeyIn (by omega) (by omega)) ?_
        exact r_i dX10_person_75 rfl ⟨by rw [← hpe, e]; rfl, rfl, Exc.rf⟩
      · refine st_tsIn (off := 62) (tgt := 76) dX10_person_14 (by decide) (by decide) (by decide) rfl rfl ?_
        refine st_aload_n dX10_person_76 rfl ?_
        refine st_getfr dX10_person_77 f_X10_19 (by first | assumption | rfl) (by rfl) ?_
        refine st_iload_n dX10_person_80 rfl ?_
        refine st_aload_n dX10_person_81 rfl ?_
        refine st_getfr dX10_person_82 f_X10_19 (by first | assumption | rfl) (by rfl) ?_
        refine st_aload_n dX10_person_85 rfl ?_
        refine st_getfr dX10_person_86 f_X10_19 (by first | assumption | rfl) (by rfl) ?_
        refine st_getfi dX10_person_89 f_X10_144 (by first | assumption | rfl) (by rfl) ?_
        refine c_V1p (d' := d - 1) dX10_person_92 l_X10_147 k_X2_hourAt i_X2_hourAt (Or.inl ⟨_, _, _, _, _, (by first | assumption | rfl), by rfl⟩) (by omega) (Nat.le_of_ble_eq_true rfl) (C_hourAt hH h2 (by omega)) ?_
        refine c_V2p (d' := d - 1) dX10_person_95 l_X10_151 k_X2_voice i_X2_voice (Or.inl ⟨_, _, _, _, _, (by first | assumption | rfl), by rfl⟩) (by omega) (Nat.le_of_ble_eq_true rfl) (C_voice hH (by omega) (by omega) (by omega)) ?_
        exact r_i dX10_person_98 rfl ⟨by rw [e]; rfl, rfl, Exc.rf⟩
      · refine st_tsIn (off := 85) (tgt := 99) dX10_person_14 (by decide) (by decide) (by decide) rfl rfl ?_
        refine st_aload_n dX10_person_99 rfl ?_
        refine st_getfr dX10_person_100 f_X10_19 (by first | assumption | rfl) (by rfl) ?_
        refine st_aload_n dX10_person_103 rfl ?_
        refine st_getfr dX10_person_104 f_X10_19 (by first | assumption | rfl) (by rfl) ?_
        refine st_getfi dX10_person_107 f_X10_144 (by first | assumption | rfl) (by rfl) ?_
        refine st_iconst dX10_person_110 ?_
        refine st_aload_n dX10_person_111 rfl ?_
        refine st_getfr dX10_person_112 f_X10_92 (by first | assumption | rfl) (by rfl) ?_
        refine c_V3v (d' := d - 1) dX10_person_115 l_X10_154 k_X2_tell i_X2_tell (Or.inl ⟨_, _, _, _, _, (by first | assumption | rfl), by rfl⟩) (by omega) (Nat.le_of_ble_eq_true rfl) (C_tellV hH (by omega) hr sh_111 (by decide) (by decide) (by omega) (by omega)) (fun M1 N1 hx => ?_)
        obtain ⟨rfl, hE, hv, -⟩ := hx
        have e3 := hE 3 (by decide)
        refine st_aload_n dX10_person_118 rfl ?_
        refine st_getfr dX10_person_119 f_X10_19 (by first | assumption | rfl) (by rfl) ?_
        refine st_iload_n dX10_person_122 rfl ?_
        refine st_aload_n dX10_person_123 rfl ?_
        refine st_getfr dX10_person_124 f_X10_19 (by first | assumption | rfl) (by rfl) ?_
        refine st_getfi dX10_person_127 f_X10_138 (by first | assumption | rfl) (by rfl) ?_
        refine st_aload_n dX10_person_130 rfl ?_
        refine st_getfr dX10_person_131 f_X10_19 (by first | assumption | rfl) (by rfl) ?_
        refine st_getfi dX10_person_134 f_X10_131 (by first | assumption | rfl) (by rfl) ?_
        refine st_aload_n dX10_person_137 rfl ?_
        refine st_getfr dX10_person_138 f_X10_92 (by first | assumption | rfl) (by rfl) ?_
        rw [hpe]
        refine c_V4p (d' := d - 1) dX10_person_141 l_X10_158 k_X2_heardBy i_X2_heardBy (Or.inl ⟨_, _, _, _, _, (by first | assumption | rfl), by rfl⟩) (by omega) (Nat.le_of_ble_eq_true rfl) (C_heardBy hH (by omega) (hr.exc hE (by decide) (by decide) (by decide) (by decide)) sh_111 (by decide) (by rw [e3]; omega) (by rw [e3]; omega) (by rw [e3]; omega) (toldS hr e3 hv)) ?_
        rw [e3, hearP_congr (v' := nowV M 0) (by omega) (fun _ _ => rfl) (fun _ _ => rfl) hv]
        exact r_i dX10_person_144 rfl ⟨by rw [← hpe, e]; rfl, rfl, hE⟩
      · refine st_tsIn (off := 131) (tgt := 145) dX10_person_14 (by decide) (by decide) (by decide) rfl rfl ?_
        refine st_aload_n dX10_person_145 rfl ?_
        refine st_getfr dX10_person_146 f_X10_19 (by first | assumption | rfl) (by rfl) ?_
        refine st_getfi dX10_person_149 f_X10_162 (by first | assumption | rfl) (by rfl) ?_
        refine st_iload_n dX10_person_152 rfl ?_
        rw [hpe]
        refine c_S2p (d' := d - 1) dX10_person_153 l_X10_165 k_X10_has s_X10_has (by omega) (Nat.le_of_ble_eq_true rfl) (C_has (by omega) (by omega)) ?_
        refine b_eq (tgt := 163) dX10_person_156 rfl (fun h8 => ?_) (fun h8 => ?_)
        · refine st_iconst dX10_person_163 ?_
          exact r_i dX10_person_164 rfl ⟨by rw [← hpe, e]; simp [h8], rfl, Exc.rf⟩
        · refine st_iconst dX10_person_159 ?_
          refine st_goto (tgt := 164) dX10_person_160 rfl ?_
          exact r_i dX10_person_164 rfl ⟨by rw [← hpe, e]; simp [h8], rfl, Exc.rf⟩
      · refine st_tsIn (off := 151) (tgt := 165) dX10_person_14 (by decide) (by decide) (by decide) rfl rfl ?_
        refine st_aload_n dX10_person_165 rfl ?_
        refine st_getfr dX10_person_166 f_X10_19 (by first | assumption | rfl) (by rfl) ?_
        refine st_getfr dX10_person_169 f_X10_169 (by first | assumption | rfl) (by rfl) ?_
        refine st_iload_n dX10_person_172 rfl ?_
        refine c_S2p (d' := d - 1) dX10_person_173 l_X10_172 k_X10_cell s_X10_cell (by omega) (Nat.le_of_ble_eq_true rfl) (C_cellI sh_5 (by decide) (by omega)) ?_
        exact r_i dX10_person_176 rfl ⟨by rw [e]; rfl, rfl, Exc.rf⟩
    · rw [if_neg (by omega), if_neg (by omega), if_neg (by omega), if_neg (by omega), if_neg (by omega), if_neg (by omega)] at e
      refine st_tsOut (tgt := 177) dX10_person_14 (by omega) (by omega) rfl ?_
      refine st_iload_n dX10_person_177 rfl ?_
      refine st_if_ge (tgt := 185) dX10_person_178 (by omega) rfl (fun h8 => ?_) (fun h8 => ?_)
      · refine st_iload_n dX10_person_185 rfl ?_
        refine st_bipush dX10_person_186 (by decide) ?_
        refine st_isub dX10_person_188 ?_
        refine st_istore_n (L' := [_, _, _, _]) dX10_person_189 (by decide) rfl rfl ?_
        refine st_aload_n dX10_person_190 rfl ?_
        refine st_getfr dX10_person_191 f_X10_19 (by first | assumption | rfl) (by rfl) ?_
        refine st_iload_n dX10_person_194 rfl ?_
        refine c_V1p (d' := d - 1) dX10_person_195 l_X10_176 k_X2_hasHour i_X2_hasHour (Or.inl ⟨_, _, _, _, _, (by first | assumption | rfl), by rfl⟩) (by omega) (Nat.le_of_ble_eq_true rfl) (C_hasHour hH (by omega) (by omega)) ?_
        refine b_eq (tgt := 213) dX10_person_198 rfl (fun h9 => ?_) (fun h9 => ?_)
        · refine st_iconst dX10_person_213 ?_
          exact r_i dX10_person_214 rfl ⟨by rw [e, if_neg (by omega)], rfl, Exc.rf⟩
        · refine st_aload_n dX10_person_201 rfl ?_
          refine st_getfr dX10_person_202 f_X10_19 (by first | assumption | rfl) (by rfl) ?_
          refine st_iload_n dX10_person_205 rfl ?_
          refine st_iload_n dX10_person_206 rfl ?_
          refine c_V2p (d' := d - 1) dX10_person_207 l_X10_151 k_X2_voice i_X2_voice (Or.inl ⟨_, _, _, _, _, (by first | assumption | rfl), by rfl⟩) (by omega) (Nat.le_of_ble_eq_true rfl) (C_voice hH (by omega) (by omega) (by omega)) ?_
          refine st_goto (tgt := 214) dX10_person_210 rfl ?_
          exact r_i dX10_person_214 rfl ⟨by rw [e, if_pos (by omega)], rfl, Exc.rf⟩
      · refine st_iconst dX10_person_181 ?_
        refine st_goto (tgt := 189) dX10_person_182 rfl ?_
        refine st_istore_n (L' := [_, _, _, _]) dX10_person_189 (by decide) rfl rfl ?_
        refine st_aload_n dX10_person_190 rfl ?_
        refine st_getfr dX10_person_191 f_X10_19 (by first | assumption | rfl) (by rfl) ?_
        refine st_iload_n dX10_person_194 rfl ?_
        refine c_V1p (d' := d - 1) dX10_person_195 l_X10_176 k_X2_hasHour i_X2_hasHour (Or.inl ⟨_, _, _, _, _, (by first | assumption | rfl), by rfl⟩) (by omega) (Nat.le_of_ble_eq_true rfl) (C_hasHour hH (by omega) (by omega)) ?_
        refine b_eq (tgt := 213) dX10_person_198 rfl (fun h9 => ?_) (fun h9 => ?_)
        · refine st_iconst dX10_person_213 ?_
          exact r_i dX10_person_214 rfl ⟨by rw [e, if_neg (by omega)], rfl, Exc.rf⟩
        · skip
          omega
  · refine st_iconst dX10_person_11 ?_
    exact r_i dX10_person_12 rfl ⟨by rw [A_person, if_neg h7], rfl, Exc.rf⟩


/-! the system's beats by a rule: the words, clauses -/
/-- the words of a rule, of a person -/
def wdI (B : q_Mem) (v : Nat → Int) (p : Nat) : Nat → Int := fun j => if j = 0 then p else if j = 1 then g4 (B 3 13) p else if j = 2 then g8 (B 3 12) p else if j = 3 then v p else if j = 4 then hearP (B 3 4).toNat (B 3 6) (g8 (B 3 12)) (g4 (B 3 13)) v p else if j = 5 then hourOf (B 3 2) (B 3 11) else if j = 6 then B 3 11 else if j = 7 then cnt (fun k => g4 (B 3 13) k = g4 (B 3 13) p ∧ g8 (B 3 12) k = g8 (B 3 12) p) (B 3 4).toNat - 1 else if j = 8 then cnt (fun k => g4 (B 3 13) k = g4 (B 3 13) p - 1 ∧ g8 (B 3 12) k = g8 (B 3 12) p) (B 3 4).toNat + cnt (fun k => g4 (B 3 13) k = g4 (B 3 13) p + 1 ∧ g8 (B 3 12) k = g8 (B 3 12) p) (B 3 4).toNat else if j = 9 then cnt (fun t => g4 (B 3 13) (7 + t) = g4 (B 3 13) p ∧ g8 (B 3 12) (7 + t) = g8 (B 3 12) p) (B 3 5).toNat else B 3 3 - 1
def wdL (B : q_Mem) (v : Nat → Int) (p : Nat) : Nat → Int64 := fun j => Int64.ofInt (wdI B v p j)
theorem C_setWord {G : q_G} {d : Nat} {M : q_Mem} {N : q_MemL} {j : Nat} {z : Int} (hj : j < 11) (hz : -2147483648 ≤ z ∧ z < 2147483648) : AC0 G d m_X6_setWord [.ref 86, I j, I z] M N (CN (fun M' N' => M' = M ∧ N' = q_upL N 89 j (Int64.ofInt z))) := by
  refine AC.of (L0 := [_, _, _]) pn_X6 (Nat.le_of_ble_eq_true rfl) rfl ?_
  refine st_iload_n dX6_setWord_0 rfl ?_
  refine st_if_lt (tgt := 21) dX6_setWord_1 (by omega) rfl (fun h => ?_) (fun h => ?_)
  · skip
    omega
  · refine st_iload_n dX6_setWord_4 rfl ?_
    refine st_aload_n dX6_setWord_5 rfl ?_
    refine st_getfr dX6_setWord_6 f_X6_20 (by first | with_reducible assumption | rfl) (by rfl) ?_
    refine st_alen dX6_setWord_9 sh_89 (by decide) ?_
    refine st_icmp_ge (tgt := 21) dX6_setWord_10 (by omega) (by omega) rfl (fun h2 => ?_) (fun h2 => ?_)
    · skip
      omega
    · refine st_aload_n dX6_setWord_13 rfl ?_
      refine st_getfr dX6_setWord_14 f_X6_20 (by first | with_reducible assumption | rfl) (by rfl) ?_
      refine st_iload_n dX6_setWord_17 rfl ?_
      refine st_iload_n dX6_setWord_18 rfl ?_
      refine st_i2lK dX6_setWord_19 (by omega) ?_
      refine st_lastK (k' := j) dX6_setWord_20 sh_89 rfl (by omega) (hn := by decide) ?_
      refine r_v dX6_setWord_21 rfl ⟨rfl, rfl⟩
theorem C_thingsWith {G : q_G} {d : Nat} {M : q_Mem} {N : q_MemL} {p : Nat} (hd : 2 ≤ d) (hM : NowOk M) (hp : p < 7) : AC0 G d m_X6_thingsWith [.ref 86, I p] M N (CV (PU (I (cnt (fun t => g4 (M 3 13) (7 + t) = g4 (M 3 13) p ∧ g8 (M 3 12) (7 + t) = g8 (M 3 12) p) (M 3 5).toNat)) M N)) := by
  have hH : isHome 3 := Or.inl rfl
  obtain ⟨h0, h1, h2, h3, h4, h5, h6, h11, h12, h13, -⟩ := id hM
  refine AC.of (L0 := [_, _, none, none]) pn_X6 (Nat.le_of_ble_eq_true rfl) rfl ?_
  refine st_iconst dX6_thingsWith_0 ?_
  refine st_istore_n (L' := [_, _, _, _]) dX6_thingsWith_1 (by decide) rfl rfl ?_
  refine st_iconst dX6_thingsWith_2 ?_
  refine st_istore_n (L' := [_, _, _, _]) dX6_thingsWith_3 (by decide) rfl rfl ?_
  have loop : ∀ (m t : Nat), t + m = (M 3 5).toNat → AW0 G d m_X6_thingsWith 4 [some (.ref 86), some (I p), some (I (cnt (fun t => g4 (M 3 13) (7 + t) = g4 (M 3 13) p ∧ g8 (M 3 12) (7 + t) = g8 (M 3 12) p) t)), some (I t)] [] M N (CV (PU (I (cnt (fun t => g4 (M 3 13) (7 + t) = g4 (M 3 13) p ∧ g8 (M 3 12) (7 + t) = g8 (M 3 12) p) (M 3 5).toNat)) M N)) := by
    intro m
    induction m with
    | zero =>
      intro t ht
      refine st_iload_n dX6_thingsWith_4 rfl ?_
      refine st_aload_n dX6_thingsWith_5 rfl ?_
      refine st_getfr dX6_thingsWith_6 f_X6_29 (by first | with_reducible assumption | rfl) (by rfl) ?_
      refine st_getfi dX6_thingsWith_9 f_X6_129 (by first | with_reducible assumption | rfl) (by rfl) ?_
      refine st_icmp_ge (tgt := 43) dX6_thingsWith_12 (by omega) (by omega) rfl (fun c => ?_) (fun c => ?_)
      · refine st_iload_n dX6_thingsWith_43 rfl ?_
        refine r_i dX6_thingsWith_44 rfl ⟨by rw [show t = (M 3 5).toNat by omega], rfl, rfl⟩
      · skip
        omega
    | succ m ih =>
      intro t ht
      have hs := cnt_succ (fun t => g4 (M 3 13) (7 + t) = g4 (M 3 13) p ∧ g8 (M 3 12) (7 + t) = g8 (M 3 12) p) t
      refine st_iload_n dX6_thingsWith_4 rfl ?_
      refine st_aload_n dX6_thingsWith_5 rfl ?_
      refine st_getfr dX6_thingsWith_6 f_X6_29 (by first | with_reducible assumption | rfl) (by rfl) ?_
      refine st_getfi dX6_thingsWith_9 f_X6_129 (by first | with_reducible assumption | rfl) (by rfl) ?_
      refine st_icmp_ge (tgt := 43) dX6_thingsWith_12 (by omega) (by omega) rfl (fun c => ?_) (fun c => ?_)
      · skip
        omega
      · refine st_aload_n dX6_thingsWith_15 rfl ?_
        refine st_getfr dX6_thingsWith_16 f_X6_29 (by first | with_reducible assumption | rfl) (by rfl) ?_
        refine st_iload_n dX6_thingsWith_19 rfl ?_
        refine st_iload_n dX6_thingsWith_20 rfl ?_
        refine st_aload_n dX6_thingsWith_21 rfl ?_
        refine st_getfr dX6_thingsWith_22 f_X6_29 (by first | with_reducible assumption | rfl) (by rfl) ?_
        refine st_getfi dX6_thingsWith_25 f_X6_102 (by first | with_reducible assumption | rfl) (by rfl) ?_
        refine c_V3p (d' := d - 1) dX6_thingsWith_28 l_X6_132 k_X2_isWith i_X2_isWith (Or.inl ⟨_, _, _, _, _, (by first | with_reducible assumption | rfl), by rfl⟩) (by omega) (Nat.le_of_ble_eq_true rfl) (C_isWith hH (by omega) h13 (by omega) hp (by omega)) ?_
        refine b_eq (tgt := 37) dX6_thingsWith_31 rfl (fun c2 => ?_) (fun c2 => ?_)
        · refine st_iinc (L' := [_, _, _, _]) dX6_thingsWith_37 rfl (by decide) rfl rfl ?_
          refine st_goto (tgt := 4) dX6_thingsWith_40 rfl ?_
          refine AW.to (ih (t + 1) (by omega)) (h2 := ?_)
          rw [hs, if_neg c2]
          simp
        · refine st_iinc (L' := [_, _, _, _]) dX6_thingsWith_34 rfl (by decide) rfl rfl ?_
          refine st_iinc (L' := [_, _, _, _]) dX6_thingsWith_37 rfl (by decide) rfl rfl ?_
          refine st_goto (tgt := 4) dX6_thingsWith_40 rfl ?_
          refine AW.to (ih (t + 1) (by omega)) (h2 := ?_)
          rw [hs, if_pos c2]
          simp
  refine AW.to (loop (M 3 5).toNat 0 (by omega)) (h2 := rfl)
theorem C_look {G : q_G} {d : Nat} {M : q_Mem} {N : q_MemL} {p : Nat} (hd : 3 ≤ d) (hM : NowOk M) (hp : p < (M 3 4).toNat) (hv : ∀ q, q < (M 3 4).toNat → 0 ≤ M 87 q ∧ M 87 q ≤ 30) : AC0 G d m_X6_look [.ref 86, I p] M N (CN (fun M' N' => M' = M ∧ (∀ a, ¬ a = 89 → N' a = N a) ∧ ∀ j, j < 11 → N' 89 j = wdL M (M 87) p j)) := by
  have hH : isHome 3 := Or.inl rfl
  have hr := Hok.rg hM
  obtain ⟨h0, h1, h2, h3, h4, h5, h6, h11, h12, h13, -⟩ := id hM
  have g4p := g4_lt (M 3 13) p
  have g8p := g8_lt (M 3 12) p
  have c1 := cnt_rng (fun k => g4 (M 3 13) k = g4 (M 3 13) p - 1 ∧ g8 (M 3 12) k = g8 (M 3 12) p) (M 3 4).toNat
  have c2 := cnt_rng (fun k => g4 (M 3 13) k = g4 (M 3 13) p + 1 ∧ g8 (M 3 12) k = g8 (M 3 12) p) (M 3 4).toNat
  have c0 := cnt_rng (fun k => g4 (M 3 13) k = g4 (M 3 13) p ∧ g8 (M 3 12) k = g8 (M 3 12) p) (M 3 4).toNat
  have ct := cnt_rng (fun t => g4 (M 3 13) (7 + t) = g4 (M 3 13) p ∧ g8 (M 3 12) (7 + t) = g8 (M 3 12) p) (M 3 5).toNat
  have hh := hearP_rng (n := (M 3 4).toNat) (df := M 3 6) (st := g8 (M 3 12)) (rm := g4 (M 3 13)) (v := M 87) hp (by omega) hv
  have ho := hourOf_rng (h := M 3 2) (b := M 3 11) h11.1
  have ho2 : hourOf (M 3 2) (M 3 11) < 10 := by
    by_cases c : 0 < M 3 2
    · have := ho.2.1 c; omega
    · rw [ho.2.2 c]; omega
  have hvp := hv p hp
  refine AC.of (L0 := [_, _, none, none, none]) pn_X6 (Nat.le_of_ble_eq_true rfl) rfl ?_
  refine st_aload_n dX6_look_0 rfl ?_
  refine st_getfr dX6_look_1 f_X6_29 (by first | with_reducible assumption | rfl) (by rfl) ?_
  refine st_getfi dX6_look_4 f_X6_87 (by first | with_reducible assumption | rfl) (by rfl) ?_
  refine st_iload_n dX6_look_7 rfl ?_
  refine c_S2p (d' := d - 1) dX6_look_8 l_X6_90 k_X10_roomIn s_X10_roomIn (by omega) (Nat.le_of_ble_eq_true rfl) (C_roomIn (by omega) (by omega)) ?_
  refine st_istore_n (L' := [_, _, _, _, _]) dX6_look_11 (by decide) rfl rfl ?_
  refine st_aload_n dX6_look_12 rfl ?_
  refine st_getfr dX6_look_13 f_X6_29 (by first | with_reducible assumption | rfl) (by rfl) ?_
  refine st_getfi dX6_look_16 f_X6_102 (by first | with_reducible assumption | rfl) (by rfl) ?_
  refine st_iload_n dX6_look_19 rfl ?_
  refine c_S2p (d' := d - 1) dX6_look_20 l_X6_105 k_X10_storeyIn s_X10_storeyIn (by omega) (Nat.le_of_ble_eq_true rfl) (C_storeyIn (by omega) (by omega)) ?_
  refine st_istore_n (L' := [_, _, _, _, _]) dX6_look_23 (by decide) rfl rfl ?_
  refine st_aload_n dX6_look_24 rfl ?_
  refine st_getfr dX6_look_25 f_X6_29 (by first | with_reducible assumption | rfl) (by rfl) ?_
  refine st_iload_n dX6_look_28 rfl ?_
  refine st_iconst dX6_look_29 ?_
  refine st_isub dX6_look_30 ?_
  refine st_iload_n dX6_look_31 rfl ?_
  refine c_V2p (d' := d - 1) dX6_look_32 l_X6_108 k_X2_crowdAt i_X2_crowdAt (Or.inl ⟨_, _, _, _, _, (by first | with_reducible assumption | rfl), by rfl⟩) (by omega) (Nat.le_of_ble_eq_true rfl) (C_crowdAt hH (by omega) ⟨hr, h12⟩ (by omega) (by omega)) ?_
  refine st_aload_n dX6_look_35 rfl ?_
  refine st_getfr dX6_look_36 f_X6_29 (by first | with_reducible assumption | rfl) (by rfl) ?_
  refine st_iload_n dX6_look_39 rfl ?_
  refine st_iconst dX6_look_40 ?_
  refine st_iadd dX6_look_41 ?_
  refine st_iload_n dX6_look_42 rfl ?_
  refine c_V2p (d' := d - 1) dX6_look_43 l_X6_108 k_X2_crowdAt i_X2_crowdAt (Or.inl ⟨_, _, _, _, _, (by first | with_reducible assumption | rfl), by rfl⟩) (by omega) (Nat.le_of_ble_eq_true rfl) (C_crowdAt hH (by omega) ⟨hr, h12⟩ (by omega) (by omega)) ?_
  refine st_iadd dX6_look_46 ?_
  refine st_istore (L' := [_, _, _, _, _]) dX6_look_47 (by decide) rfl rfl ?_
  refine st_aload_n dX6_look_49 rfl ?_
  refine st_iconst dX6_look_50 ?_
  refine st_iload_n dX6_look_51 rfl ?_
  refine c_V2v (d' := d - 1) dX6_look_52 l_X6_111 k_X6_setWord i_X6_setWord (Or.inl ⟨_, _, _, _, _, (by first | with_reducible assumption | rfl), by rfl⟩) (by omega) (Nat.le_of_ble_eq_true rfl) (C_setWord (j := 0) (by decide) (by omega)) (fun M1 N1 hx => ?_)
  obtain ⟨rfl, rfl⟩ := hx
  refine st_aload_n dX6_look_55 rfl ?_
  refine st_iconst dX6_look_56 ?_
  refine st_iload_n dX6_look_57 rfl ?_
  refine c_V2v (d' := d - 1) dX6_look_58 l_X6_111 k_X6_setWord i_X6_setWord (Or.inl ⟨_, _, _, _, _, (by first | with_reducible assumption | rfl), by rfl⟩) (by omega) (Nat.le_of_ble_eq_true rfl) (C_setWord (j := 1) (by decide) (by omega)) (fun M1 N1 hx => ?_)
  obtain ⟨rfl, rfl⟩ := hx
  refine st_aload_n dX6_look_61 rfl ?_
  refine st_iconst dX6_look_62 ?_
  refine st_iload_n dX6_look_63 rfl ?_
  refine c_V2v (d' := d - 1) dX6_look_64 l_X6_111 k_X6_setWord i_X6_setWord (Or.inl ⟨_, _, _, _, _, (by first | with_reducible assumption | rfl), by rfl⟩) (by omega) (Nat.le_of_ble_eq_true rfl) (C_setWord (j := 2) (by decide) (by omega)) (fun M1 N1 hx => ?_)
  obtain ⟨rfl, rfl⟩ := hx
  refine st_aload_n dX6_look_67 rfl ?_
  refine st_iconst dX6_look_68 ?_
  refine st_aload_n dX6_look_69 rfl ?_
  refine st_getfr dX6_look_70 f_X6_9 (by first | with_reducible assumption | rfl) (by rfl) ?_
  refine st_iload_n dX6_look_73 rfl ?_
  refine c_S2p (d' := d - 1) dX6_look_74 l_X6_58 k_X10_cell s_X10_cell (by omega) (Nat.le_of_ble_eq_true rfl) (C_cellI sh_87 (by decide) (by omega)) ?_
  rw [Int.toNat_natCast]
  refine c_V2v (d' := d - 1) dX6_look_77 l_X6_111 k_X6_setWord i_X6_setWord (Or.inl ⟨_, _, _, _, _, (by first | with_reducible assumption | rfl), by rfl⟩) (by omega) (Nat.le_of_ble_eq_true rfl) (C_setWord (j := 3) (by decide) (by omega)) (fun M1 N1 hx => ?_)
  obtain ⟨rfl, rfl⟩ := hx
  refine st_aload_n dX6_look_80 rfl ?_
  refine st_iconst dX6_look_81 ?_
  refine st_aload_n dX6_look_82 rfl ?_
  refine st_getfr dX6_look_83 f_X6_29 (by first | with_reducible assumption | rfl) (by rfl) ?_
  refine st_iload_n dX6_look_86 rfl ?_
  refine st_aload_n dX6_look_87 rfl ?_
  refine st_getfr dX6_look_88 f_X6_29 (by first | with_reducible assumption | rfl) (by rfl) ?_
  refine st_getfi dX6_look_91 f_X6_102 (by first | with_reducible assumption | rfl) (by rfl) ?_
  refine st_aload_n dX6_look_94 rfl ?_
  refine st_getfr dX6_look_95 f_X6_29 (by first | with_reducible assumption | rfl) (by rfl) ?_
  refine st_getfi dX6_look_98 f_X6_87 (by first | with_reducible assumption | rfl) (by rfl) ?_
  refine st_aload_n dX6_look_101 rfl ?_
  refine st_getfr dX6_look_102 f_X6_9 (by first | with_reducible assumption | rfl) (by rfl) ?_
  refine c_V4p (d' := d - 1) dX6_look_105 l_X6_115 k_X2_heardBy i_X2_heardBy (Or.inl ⟨_, _, _, _, _, (by first | with_reducible assumption | rfl), by rfl⟩) (by omega) (Nat.le_of_ble_eq_true rfl) (C_heardBy hH (by omega) hr sh_87 (by decide) hp (by omega) (by omega) hv) ?_
  refine c_V2v (d' := d - 1) dX6_look_108 l_X6_111 k_X6_setWord i_X6_setWord (Or.inl ⟨_, _, _, _, _, (by first | with_reducible assumption | rfl), by rfl⟩) (by omega) (Nat.le_of_ble_eq_true rfl) (C_setWord (j := 4) (by decide) (by omega)) (fun M1 N1 hx => ?_)
  obtain ⟨rfl, rfl⟩ := hx
  refine st_aload_n dX6_look_111 rfl ?_
  refine st_iconst dX6_look_112 ?_
  refine st_aload_n dX6_look_113 rfl ?_
  refine st_getfr dX6_look_114 f_X6_29 (by first | with_reducible assumption | rfl) (by rfl) ?_
  refine st_aload_n dX6_look_117 rfl ?_
  refine st_getfr dX6_look_118 f_X6_29 (by first | with_reducible assumption | rfl) (by rfl) ?_
  refine st_getfi dX6_look_121 f_X6_33 (by first | with_reducible assumption | rfl) (by rfl) ?_
  refine c_V1p (d' := d - 1) dX6_look_124 l_X6_119 k_X2_hourAt i_X2_hourAt (Or.inl ⟨_, _, _, _, _, (by first | with_reducible assumption | rfl), by rfl⟩) (by omega) (Nat.le_of_ble_eq_true rfl) (C_hourAt hH (by omega) (by omega)) ?_
  refine c_V2v (d' := d - 1) dX6_look_127 l_X6_111 k_X6_setWord i_X6_setWord (Or.inl ⟨_, _, _, _, _, (by first | with_reducible assumption | rfl), by rfl⟩) (by omega) (Nat.le_of_ble_eq_true rfl) (C_setWord (j := 5) (by decide) (by omega)) (fun M1 N1 hx => ?_)
  obtain ⟨rfl, rfl⟩ := hx
  refine st_aload_n dX6_look_130 rfl ?_
  refine st_bipush dX6_look_131 (by decide) ?_
  refine st_aload_n dX6_look_133 rfl ?_
  refine st_getfr dX6_look_134 f_X6_29 (by first | with_reducible assumption | rfl) (by rfl) ?_
  refine st_getfi dX6_look_137 f_X6_33 (by first | with_reducible assumption | rfl) (by rfl) ?_
  refine c_V2v (d' := d - 1) dX6_look_140 l_X6_111 k_X6_setWord i_X6_setWord (Or.inl ⟨_, _, _, _, _, (by first | with_reducible assumption | rfl), by rfl⟩) (by omega) (Nat.le_of_ble_eq_true rfl) (C_setWord (j := 6) (by decide) (by omega)) (fun M1 N1 hx => ?_)
  obtain ⟨rfl, rfl⟩ := hx
  refine st_aload_n dX6_look_143 rfl ?_
  refine st_bipush dX6_look_144 (by decide) ?_
  refine st_aload_n dX6_look_146 rfl ?_
  refine st_getfr dX6_look_147 f_X6_29 (by first | with_reducible assumption | rfl) (by rfl) ?_
  refine st_iload_n dX6_look_150 rfl ?_
  refine st_iload_n dX6_look_151 rfl ?_
  refine c_V2p (d' := d - 1) dX6_look_152 l_X6_108 k_X2_crowdAt i_X2_crowdAt (Or.inl ⟨_, _, _, _, _, (by first | with_reducible assumption | rfl), by rfl⟩) (by omega) (Nat.le_of_ble_eq_true rfl) (C_crowdAt hH (by omega) ⟨hr, h12⟩ (by omega) (by omega)) ?_
  refine st_iconst dX6_look_155 ?_
  refine st_isub dX6_look_156 ?_
  refine c_V2v (d' := d - 1) dX6_look_157 l_X6_111 k_X6_setWord i_X6_setWord (Or.inl ⟨_, _, _, _, _, (by first | with_reducible assumption | rfl), by rfl⟩) (by omega) (Nat.le_of_ble_eq_true rfl) (C_setWord (j := 7) (by decide) (by omega)) (fun M1 N1 hx => ?_)
  obtain ⟨rfl, rfl⟩ := hx
  refine st_aload_n dX6_look_160 rfl ?_
  refine st_bipush dX6_look_161 (by decide) ?_
  refine st_iload dX6_look_163 rfl ?_
  refine c_V2v (d' := d - 1) dX6_look_165 l_X6_111 k_X6_setWord i_X6_setWord (Or.inl ⟨_, _, _, _, _, (by first | with_reducible assumption | rfl), by rfl⟩) (by omega) (Nat.le_of_ble_eq_true rfl) (C_setWord (j := 8) (by decide) (by omega)) (fun M1 N1 hx => ?_)
  obtain ⟨rfl, rfl⟩ := hx
  refine st_aload_n dX6_look_168 rfl ?_
  refine st_bipush dX6_look_169 (by decide) ?_
  refine st_aload_n dX6_look_171 rfl ?_
  refine st_iload_n dX6_look_172 rfl ?_
  refine c_V1p (d' := d - 1) dX6_look_173 l_X6_123 k_X6_thingsWith i_X6_thingsWith (Or.inl ⟨_, _, _, _, _, (by first | with_reducible assumption | rfl), by rfl⟩) (by omega) (Nat.le_of_ble_eq_true rfl) (C_thingsWith (by omega) hM (by omega)) ?_
  refine c_V2v (d' := d - 1) dX6_look_176 l_X6_111 k_X6_setWord i_X6_setWord (Or.inl ⟨_, _, _, _, _, (by first | with_reducible assumption | rfl), by rfl⟩) (by omega) (Nat.le_of_ble_eq_true rfl) (C_setWord (j := 9) (by decide) (by omega)) (fun M1 N1 hx => ?_)
  obtain ⟨rfl, rfl⟩ := hx
  refine st_aload_n dX6_look_179 rfl ?_
  refine st_bipush dX6_look_180 (by decide) ?_
  refine st_aload_n dX6_look_182 rfl ?_
  refine st_getfr dX6_look_183 f_X6_29 (by first | with_reducible assumption | rfl) (by rfl) ?_
  refine st_getfi dX6_look_186 f_X6_126 (by first | with_reducible assumption | rfl) (by rfl) ?_
  refine st_iconst dX6_look_189 ?_
  refine st_isub dX6_look_190 ?_
  refine c_V2v (d' := d - 1) dX6_look_191 l_X6_111 k_X6_setWord i_X6_setWord (Or.inl ⟨_, _, _, _, _, (by first | with_reducible assumption | rfl), by rfl⟩) (by omega) (Nat.le_of_ble_eq_true rfl) (C_setWord (j := 10) (by decide) (by omega)) (fun M1 N1 hx => ?_)
  obtain ⟨rfl, rfl⟩ := hx
  refine r_v dX6_look_194 rfl ⟨rfl, fun a ha => ?_, fun j hj => ?_⟩
  · rw [q_upL_ne ha, q_upL_ne ha, q_upL_ne ha, q_upL_ne ha, q_upL_ne ha, q_upL_ne ha, q_upL_ne ha, q_upL_ne ha, q_upL_ne ha, q_upL_ne ha, q_upL_ne ha]
  · have hc : j = 0 ∨ j = 1 ∨ j = 2 ∨ j = 3 ∨ j = 4 ∨ j = 5 ∨ j = 6 ∨ j = 7 ∨ j = 8 ∨ j = 9 ∨ j = 10 := by omega
    rcases hc with rfl | rfl | rfl | rfl | rfl | rfl | rfl | rfl | rfl | rfl | rfl <;> simp [q_upL, wdL, wdI]


/-! the system's questions: short ones -/
def i32 (x : Int) : Prop := -2147483648 ≤ x ∧ x < 2147483648
/-- what holds of the system between calls, of the house that is lived in -/
def NowOk (M : q_Mem) : Prop := Hok M 3
def A_storey (M : q_Mem) (x : Int) : Int := if M 3 0 = 1 ∧ 0 ≤ x ∧ x ≤ 9999 then stof (M 4) x ((M 3 3).toNat - 1) 0 else -1
theorem C_storey {G : q_G} {d : Nat} {M : q_Mem} {N : q_MemL} {x : Int} (hd : 2 ≤ d) (hM : NowOk M) (hx : i32 x) : AC0 G d m_X10_storey [.ref 0, I x] M N (CV (PU (I (A_storey M x)) M N)) := by
  have hr := Hok.rg hM
  obtain ⟨h0, -⟩ := id hM
  unfold i32 at hx
  refine AC.of (L0 := [_, _]) pn_X10 (Nat.le_of_ble_eq_true rfl) rfl ?_
  refine st_aload_n dX10_storey_0 rfl ?_
  refine st_getfr dX10_storey_1 f_X10_19 (by first | assumption | rfl) (by rfl) ?_
  refine st_getfi dX10_storey_4 f_X10_189 (by first | assumption | rfl) (by rfl) ?_
  refine st_if_eq (tgt := 21) dX10_storey_7 (by omega) rfl (fun h => ?_) (fun h => ?_)
  · refine st_iconst dX10_storey_21 ?_
    exact r_i dX10_storey_22 rfl ⟨by rw [A_storey, if_neg (by omega)], rfl, rfl⟩
  · refine st_iload_n dX10_storey_10 rfl ?_
    refine st_if_lt (tgt := 21) dX10_storey_11 (by omega) rfl (fun h2 => ?_) (fun h2 => ?_)
    · refine st_iconst dX10_storey_21 ?_
      exact r_i dX10_storey_22 rfl ⟨by rw [A_storey, if_neg (by omega)], rfl, rfl⟩
    · refine st_iload_n dX10_storey_14 rfl ?_
      refine st_sipush dX10_storey_15 (by decide) ?_
      refine st_icmp_le (tgt := 23) dX10_storey_18 (by omega) (by omega) rfl (fun h3 => ?_) (fun h3 => ?_)
      · refine st_aload_n dX10_storey_23 rfl ?_
        refine st_getfr dX10_storey_24 f_X10_19 (by first | assumption | rfl) (by rfl) ?_
        refine st_iload_n dX10_storey_27 rfl ?_
        refine c_V1p (d' := d - 1) dX10_storey_28 l_X10_193 k_X2_storeyOf i_X2_storeyOf (Or.inl ⟨_, _, _, _, _, (by first | assumption | rfl), by rfl⟩) (by omega) (Nat.le_of_ble_eq_true rfl) (C_stof (Or.inl rfl) (by omega) hr.2.1 hr.2.2.2.2.2.2.1 hx) ?_
        exact r_i dX10_storey_31 rfl ⟨by rw [A_storey, if_pos (by omega)], rfl, rfl⟩
      · refine st_iconst dX10_storey_21 ?_
        exact r_i dX10_storey_22 rfl ⟨by rw [A_storey, if_neg (by omega)], rfl, rfl⟩
def A_seed (M : q_Mem) (x : Int) : Int := if x < 0 then -1 else M 3 18
theorem C_seed {G : q_G} {d : Nat} {M : q_Mem} {N : q_MemL} {x : Int} (hx : i32 x) : AC0 G d m_X10_seed [.ref 0, I x] M N (CV (fun v M' N' => v = I (A_seed M x) ∧ N' = N ∧ M' = if x < 0 then M else q_up M 3 18 x)) := by
  unfold i32 at hx
  refine AC.of (L0 := [_, _, none]) pn_X10 (Nat.le_of_ble_eq_true rfl) rfl ?_
  refine st_iload_n dX10_seed_0 rfl ?_
  refine st_if_ge (tgt := 6) dX10_seed_1 (by omega) rfl (fun h => ?_) (fun h => ?_)
  · refine st_aload_n dX10_seed_6 rfl ?_
    refine st_getfr dX10_seed_7 f_X10_19 (by first | assumption | rfl) (by rfl) ?_
    refine st_getfi dX10_seed_10 f_X10_108 (by first | assumption | rfl) (by rfl) ?_
    refine st_istore_n (L' := [_, _, _]) dX10_seed_13 (by decide) rfl rfl ?_
    refine st_aload_n dX10_seed_14 rfl ?_
    refine st_getfr dX10_seed_15 f_X10_19 (by first | assumption | rfl) (by rfl) ?_
    refine st_iload_n dX10_seed_18 rfl ?_
    refine st_putfi dX10_seed_19 w_X10_108 (by first | assumption | rfl) (by rfl) rfl rfl ?_
    refine st_iload_n dX10_seed_22 rfl ?_
    rw [A_seed, if_neg (by omega)]
    exact r_i dX10_seed_23 rfl ⟨rfl, rfl, by rw [if_neg (by omega)]⟩
  · refine st_iconst dX10_seed_4 ?_
    exact r_i dX10_seed_5 rfl ⟨by rw [A_seed, if_pos (by omega)], rfl, by rw [if_pos (by omega)]⟩
def A_count (M : q_Mem) (x : Int) : Int := if x = 0 then M 3 1 else if x = 1 then M 3 2 else if x = 2 then (if M 3 0 = 1 then M 3 3 else -1) else if x = 3 then M 3 4 else if x = 4 then M 3 5 else if x = 5 then M 0 6 else if x = 6 then M 3 11 else if x = 7 then M 3 17 else if x = 8 then M 3 15 else if x = 9 then M 3 18 else if x = 10 then M 1 1 else -1
theorem C_count {G : q_G} {d : Nat} {M : q_Mem} {N : q_MemL} {x : Int} (hM : NowOk M) (hx : i32 x) : AC0 G d m_X10_count [.ref 0, I x] M N (CV (PU (I (A_count M x)) M N)) := by
  obtain ⟨h0, -⟩ := id hM
  unfold i32 at hx
  refine AC.of (L0 := [_, _]) pn_X10 (Nat.le_of_ble_eq_true rfl) rfl ?_
  refine st_iload_n dX10_count_0 rfl ?_
  by_cases h : 0 ≤ x ∧ x ≤ 10
  · have hc : x = 0 ∨ x = 1 ∨ x = 2 ∨ x = 3 ∨ x = 4 ∨ x = 5 ∨ x = 6 ∨ x = 7 ∨ x = 8 ∨ x = 9 ∨ x = 10 := by omega
    rcases hc with rfl | rfl | rfl | rfl | rfl | rfl | rfl | rfl | rfl | rfl | rfl
    · refine st_tsIn (off := 59) (tgt := 60) dX10_count_1 (by decide) (by decide) (by decide) rfl rfl ?_
      refine st_aload_n dX10_count_60 rfl ?_
      refine st_getfr dX10_count_61 f_X10_19 (by first | assumption | rfl) (by rfl) ?_
      refine st_getfi dX10_count_64 f_X10_302 (by first | assumption | rfl) (by rfl) ?_
      exact r_i dX10_count_67 rfl ⟨rfl, rfl, rfl⟩
    · refine st_tsIn (off := 67) (tgt := 68) dX10_count_1 (by decide) (by decide) (by decide) rfl rfl ?_
      refine st_aload_n dX10_count_68 rfl ?_
      refine st_getfr dX10_count_69 f_X10_19 (by first | assumption | rfl) (by rfl) ?_
      refine st_getfi dX10_count_72 f_X10_305 (by first | assumption | rfl) (by rfl) ?_
      exact r_i dX10_count_75 rfl ⟨rfl, rfl, rfl⟩
    · refine st_tsIn (off := 75) (tgt := 76) dX10_count_1 (by decide) (by decide) (by decide) rfl rfl ?_
      refine st_aload_n dX10_count_76 rfl ?_
      refine st_getfr dX10_count_77 f_X10_19 (by first | assumption | rfl) (by rfl) ?_
      refine st_getfi dX10_count_80 f_X10_189 (by first | assumption | rfl) (by rfl) ?_
      refine st_if_eq (tgt := 96) dX10_count_83 (by omega) rfl (fun h7 => ?_) (fun h7 => ?_)
      · refine st_iconst dX10_count_96 ?_
        exact r_i dX10_count_97 rfl ⟨by rw [show A_count M 2 = (if M 3 0 = 1 then M 3 3 else -1) from rfl, if_neg (by omega)], rfl, rfl⟩
      · refine st_aload_n dX10_count_86 rfl ?_
        refine st_getfr dX10_count_87 f_X10_19 (by first | assumption | rfl) (by rfl) ?_
        refine st_getfi dX10_count_90 f_X10_308 (by first | assumption | rfl) (by rfl) ?_
        refine st_goto (tgt := 97) dX10_count_93 rfl ?_
        exact r_i dX10_count_97 rfl ⟨by rw [show A_count M 2 = (if M 3 0 = 1 then M 3 3 else -1) from rfl, if_pos (by omega)], rfl, rfl⟩
    · refine st_tsIn (off := 97) (tgt := 98) dX10_count_1 (by decide) (by decide) (by decide) rfl rfl ?_
      refine st_aload_n dX10_count_98 rfl ?_
      refine st_getfr dX10_count_99 f_X10_19 (by first | assumption | rfl) (by rfl) ?_
      refine st_getfi dX10_count_102 f_X10_114 (by first | assumption | rfl) (by rfl) ?_
      exact r_i dX10_count_105 rfl ⟨rfl, rfl, rfl⟩
    · refine st_tsIn (off := 105) (tgt := 106) dX10_count_1 (by decide) (by decide) (by decide) rfl rfl ?_
      refine st_aload_n dX10_count_106 rfl ?_
      refine st_getfr dX10_count_107 f_X10_19 (by first | assumption | rfl) (by rfl) ?_
      refine st_getfi dX10_count_110 f_X10_296 (by first | assumption | rfl) (by rfl) ?_
      exact r_i dX10_count_113 rfl ⟨rfl, rfl, rfl⟩
    · refine st_tsIn (off := 113) (tgt := 114) dX10_count_1 (by decide) (by decide) (by decide) rfl rfl ?_
      refine st_aload_n dX10_count_114 rfl ?_
      refine st_getfi dX10_count_115 f_X10_117 (by first | assumption | rfl) (by rfl) ?_
      exact r_i dX10_count_118 rfl ⟨rfl, rfl, rfl⟩
    · refine st_tsIn (off := 118) (tgt := 119) dX10_count_1 (by decide) (by decide) (by decide) rfl rfl ?_
      refine st_aload_n dX10_count_119 rfl ?_
      refine st_getfr dX10_count_120 f_X10_19 (by first | assumption | rfl) (by rfl) ?_
      refine st_getfi dX10_count_123 f_X10_144 (by first | assumption | rfl) (by rfl) ?_
      exact r_i dX10_count_126 rfl ⟨rfl, rfl, rfl⟩
    · refine st_tsIn (off := 126) (tgt := 127) dX10_count_1 (by decide) (by decide) (by decide) rfl rfl ?_
      refine st_aload_n dX10_count_127 rfl ?_
      refine st_getfr dX10_count_128 f_X10_19 (by first | assumption | rfl) (by rfl) ?_
      refine st_getfi dX10_count_131 f_X10_278 (by first | assumption | rfl) (by rfl) ?_
      exact r_i dX10_count_134 rfl ⟨rfl, rfl, rfl⟩
    · refine st_tsIn (off := 134) (tgt := 135) dX10_count_1 (by decide) (by decide) (by decide) rfl rfl ?_
      refine st_aload_n dX10_count_135 rfl ?_
      refine st_getfr dX10_count_136 f_X10_19 (by first | assumption | rfl) (by rfl) ?_
      refine st_getfi dX10_count_139 f_X10_236 (by first | assumption | rfl) (by rfl) ?_
      exact r_i dX10_count_142 rfl ⟨rfl, rfl, rfl⟩
    · refine st_tsIn (off := 142) (tgt := 143) dX10_count_1 (by decide) (by decide) (by decide) rfl rfl ?_
      refine st_aload_n dX10_count_143 rfl ?_
      refine st_getfr dX10_count_144 f_X10_19 (by first | assumption | rfl) (by rfl) ?_
      refine st_getfi dX10_count_147 f_X10_108 (by first | assumption | rfl) (by rfl) ?_
      exact r_i dX10_count_150 rfl ⟨rfl, rfl, rfl⟩
    · refine st_tsIn (off := 150) (tgt := 151) dX10_count_1 (by decide) (by decide) (by decide) rfl rfl ?_
      refine st_aload_n dX10_count_151 rfl ?_
      refine st_getfr dX10_count_152 f_X10_10 (by first | assumption | rfl) (by rfl) ?_
      refine st_getfi dX10_count_155 f_X10_96 (by first | assumption | rfl) (by rfl) ?_
      exact r_i dX10_count_158 rfl ⟨rfl, rfl, rfl⟩
  · refine st_tsOut (tgt := 159) dX10_count_1 (by omega) (by omega) rfl ?_
    refine st_iconst dX10_count_159 ?_
    exact r_i dX10_count_160 rfl ⟨by unfold A_count; repeat rw [if_neg (by omega)], rfl, rfl⟩
def A_ahead (M : q_Mem) (p n : Int) : Int := if (0 ≤ p ∧ p < M 3 4) ∧ 0 ≤ n ∧ n ≤ 200 then g8 (fut M 3 n.toNat) p.toNat else -1
theorem C_ahead {G : q_G} {d : Nat} {M : q_Mem} {N : q_MemL} {p n : Int} (hd : 6 ≤ d) (hM : NowOk M) (hp : i32 p) (hn : i32 n) : AC0 G d m_X10_ahead [.ref 0, I p, I n] M N (CV (fun v M' N' => v = I (A_ahead M p n) ∧ N' = N ∧ Exc [92] M M')) := by
  have hr := Hok.rg hM
  obtain ⟨h0, h1, h2, h3, h4, h5, h6, h11, h12, h13, -⟩ := id hM
  unfold i32 at hp hn
  refine AC.of (L0 := [_, _, _]) pn_X10 (Nat.le_of_ble_eq_true rfl) rfl ?_
  refine st_aload_n dX10_ahead_0 rfl ?_
  refine st_getfr dX10_ahead_1 f_X10_19 (by first | assumption | rfl) (by rfl) ?_
  refine st_iload_n dX10_ahead_4 rfl ?_
  refine c_V1p (d' := d - 1) dX10_ahead_5 l_X10_127 k_X2_hasPerson i_X2_hasPerson (Or.inl ⟨_, _, _, _, _, (by first | assumption | rfl), by rfl⟩) (by omega) (Nat.le_of_ble_eq_true rfl) (C_hasPerson (Or.inl rfl) (by omega) hp) ?_
  refine b_eq (tgt := 22) dX10_ahead_8 rfl (fun h => ?_) (fun h => ?_)
  · refine st_iconst dX10_ahead_22 ?_
    exact r_i dX10_ahead_23 rfl ⟨by rw [A_ahead, if_neg (by omega)], rfl, Exc.rf⟩
  · refine st_iload_n dX10_ahead_11 rfl ?_
    refine st_if_lt (tgt := 22) dX10_ahead_12 (by omega) rfl (fun h7 => ?_) (fun h7 => ?_)
    · refine st_iconst dX10_ahead_22 ?_
      exact r_i dX10_ahead_23 rfl ⟨by rw [A_ahead, if_neg (by omega)], rfl, Exc.rf⟩
    · refine st_iload_n dX10_ahead_15 rfl ?_
      refine st_sipush dX10_ahead_16 (by decide) ?_
      refine st_icmp_le (tgt := 24) dX10_ahead_19 (by omega) (by omega) rfl (fun h8 => ?_) (fun h8 => ?_)
      · refine st_aload_n dX10_ahead_24 rfl ?_
        refine st_getfr dX10_ahead_25 f_X10_67 (by first | assumption | rfl) (by rfl) ?_
        refine st_iload_n dX10_ahead_28 rfl ?_
        rw [show n = ((n.toNat : Nat) : Int) by omega]
        refine c_V1i (d' := d - 1) dX10_ahead_29 l_X10_246 k_X1_situationIn i_X1_situationIn (Or.inl ⟨_, _, _, _, _, (by first | assumption | rfl), by rfl⟩) (by omega) (Nat.le_of_ble_eq_true rfl) (C_situationIn (by omega) hr (by omega) h12 (by omega)) (fun x M1 N1 hx => ?_)
        obtain ⟨rfl, rfl, hE⟩ := hx
        have hf := fut_rng h3 h12 n.toNat
        refine st_iload_n dX10_ahead_32 rfl ?_
        rw [show p = ((p.toNat : Nat) : Int) by omega]
        refine c_S2p (d' := d - 1) dX10_ahead_33 l_X10_141 k_X10_storeyIn s_X10_storeyIn (by omega) (Nat.le_of_ble_eq_true rfl) (C_storeyIn (by omega) (by omega)) ?_
        exact r_i dX10_ahead_36 rfl ⟨by rw [A_ahead, if_pos (by omega), Int.toNat_natCast, Int.toNat_natCast], rfl, hE⟩
      · refine st_iconst dX10_ahead_22 ?_
        exact r_i dX10_ahead_23 rfl ⟨by rw [A_ahead, if_neg (by omega)], rfl, Exc.rf⟩
def A_loopOk (M : q_Mem) (what : Int) : Prop := M 3 0 = 1 ∧ 0 ≤ what ∧ what ≤ 2
theorem C_loop {G : q_G} {d : Nat} {M : q_Mem} {N : q_MemL} {what : Int} (hd : 6 ≤ d) (hM : NowOk M) (hw : i32 what) : AC0 G d m_X10_loop [.ref 0, I what] M N (CV (fun v M' N' => N' = N ∧ Exc [92, 93] M M' ∧ ∃ r, v = I r ∧ ((¬ A_loopOk M what ∧ r = -1) ∨ (A_loopOk M what ∧ LoopR (fut M 3) (max 1 (M 3 2)) (M 3 4).toNat what r)))) := by
  have hr := Hok.rg hM
  obtain ⟨h0, h1, h2, h3, h4, h5, h6, h11, h12, h13, -⟩ := id hM
  unfold i32 at hw
  unfold A_loopOk
  refine AC.of (L0 := [_, _]) pn_X10 (Nat.le_of_ble_eq_true rfl) rfl ?_
  refine st_aload_n dX10_loop_0 rfl ?_
  refine st_getfr dX10_loop_1 f_X10_19 (by first | assumption | rfl) (by rfl) ?_
  refine st_getfi dX10_loop_4 f_X10_189 (by first | assumption | rfl) (by rfl) ?_
  refine st_if_eq (tgt := 19) dX10_loop_7 (by omega) rfl (fun h => ?_) (fun h => ?_)
  · refine st_iconst dX10_loop_19 ?_
    exact r_i dX10_loop_20 rfl ⟨rfl, Exc.rf, -1, rfl, Or.inl ⟨by omega, rfl⟩⟩
  · refine st_iload_n dX10_loop_10 rfl ?_
    refine st_if_lt (tgt := 19) dX10_loop_11 (by omega) rfl (fun h7 => ?_) (fun h7 => ?_)
    · refine st_iconst dX10_loop_19 ?_
      exact r_i dX10_loop_20 rfl ⟨rfl, Exc.rf, -1, rfl, Or.inl ⟨by omega, rfl⟩⟩
    · refine st_iload_n dX10_loop_14 rfl ?_
      refine st_iconst dX10_loop_15 ?_
      refine st_icmp_le (tgt := 21) dX10_loop_16 (by omega) (by omega) rfl (fun h8 => ?_) (fun h8 => ?_)
      · refine st_aload_n dX10_loop_21 rfl ?_
        refine st_getfr dX10_loop_22 f_X10_67 (by first | assumption | rfl) (by rfl) ?_
        refine st_iload_n dX10_loop_25 rfl ?_
        refine c_V1i (d' := d - 1) dX10_loop_26 l_X10_249 k_X1_round i_X1_round (Or.inl ⟨_, _, _, _, _, (by first | assumption | rfl), by rfl⟩) (by omega) (Nat.le_of_ble_eq_true rfl) (C_round (by omega) hr (by omega) h12 (by omega)) (fun x M1 N1 hx => ?_)
        obtain ⟨hN, hE, r, rfl, hR⟩ := hx
        exact r_i dX10_loop_29 rfl ⟨hN, hE, r, rfl, Or.inr ⟨by omega, hR⟩⟩
      · refine st_iconst dX10_loop_19 ?_
        exact r_i dX10_loop_20 rfl ⟨rfl, Exc.rf, -1, rfl, Or.inl ⟨by omega, rfl⟩⟩
def hiF (s : Int) : Nat → Int × Int
  | 0 => (-2, -1)
  | n + 1 => if (hiF s n).2 < g8 s n then ((n : Int), g8 s n) else hiF s n
theorem hiF_rng (s : Int) : ∀ n, -1 ≤ (hiF s n).2 ∧ (hiF s n).2 ≤ 7
  | 0 => by simp [hiF]
  | n + 1 => by
    have := hiF_rng s n
    have := g8_lt s n
    unfold hiF
    split
    · show -1 ≤ g8 s n ∧ g8 s n ≤ 7
      omega
    · omega
def A_highest (M : q_Mem) : Int := if M 3 0 = 1 then (hiF (M 3 12) (M 3 4).toNat).1 else -1
theorem C_highest {G : q_G} {d : Nat} {M : q_Mem} {N : q_MemL} (hd : 1 ≤ d) (hM : NowOk M) : AC0 G d m_X10_highest [.ref 0] M N (CV (PU (I (A_highest M)) M N)) := by
  obtain ⟨h0, h1, h2, h3, h4, h5, h6, h11, h12, h13, -⟩ := id hM
  refine AC.of (L0 := [_, none, none, none, none]) pn_X10 (Nat.le_of_ble_eq_true rfl) rfl ?_
  refine st_aload_n dX10_highest_0 rfl ?_
  refine st_getfr dX10_highest_1 f_X10_19 (by first | assumption | rfl) (by rfl) ?_
  refine st_getfi dX10_highest_4 f_X10_189 (by first | assumption | rfl) (by rfl) ?_
  refine st_if_ne (tgt := 12) dX10_highest_7 (by omega) rfl (fun h => ?_) (fun h => ?_)
  · refine st_bipush dX10_highest_12 (by decide) ?_
    refine st_istore_n (L' := [_, _, _, _, _]) dX10_highest_14 (by decide) rfl rfl ?_
    refine st_iconst dX10_highest_15 ?_
    refine st_istore_n (L' := [_, _, _, _, _]) dX10_highest_16 (by decide) rfl rfl ?_
    refine st_iconst dX10_highest_17 ?_
    refine st_istore_n (L' := [_, _, _, _, _]) dX10_highest_18 (by decide) rfl rfl ?_
    have loop : ∀ (q k : Nat), k + q = (M 3 4).toNat → {l4 : Option Value} → AW0 G d m_X10_highest 19 [some (.ref 0), some (I (hiF (M 3 12) k).1), some (I (hiF (M 3 12) k).2), some (I k), l4] [] M N (CV (PU (I (A_highest M)) M N)) := by
      intro q
      induction q with
      | zero =>
        intro k hk l4
        refine st_iload_n dX10_highest_19 rfl ?_
        refine st_aload_n dX10_highest_20 rfl ?_
        refine st_getfr dX10_highest_21 f_X10_19 (by first | assumption | rfl) (by rfl) ?_
        refine st_getfi dX10_highest_24 f_X10_114 (by first | assumption | rfl) (by rfl) ?_
        refine st_icmp_ge (tgt := 60) dX10_highest_27 (by omega) (by omega) rfl (fun h7 => ?_) (fun h7 => ?_)
        · refine st_iload_n dX10_highest_60 rfl ?_
          exact r_i dX10_highest_61 rfl ⟨by rw [A_highest, if_pos (by omega), show k = (M 3 4).toNat by omega], rfl, rfl⟩
        · skip
          omega
      | succ q ih =>
        intro k hk l4
        have h8 := hiF_rng (M 3 12) k
        have h9 := g8_lt (M 3 12) k
        have e : hiF (M 3 12) (k + 1) = if (hiF (M 3 12) k).2 < g8 (M 3 12) k then ((k : Int), g8 (M 3 12) k) else hiF (M 3 12) k := rfl
        refine st_iload_n dX10_highest_19 rfl ?_
        refine st_aload_n dX10_highest_20 rfl ?_
        refine st_getfr dX10_highest_21 f_X10_19 (by first | assumption | rfl) (by rfl) ?_
        refine st_getfi dX10_highest_24 f_X10_114 (by first | assumption | rfl) (by rfl) ?_
        refine st_icmp_ge (tgt := 60) dX10_highest_27 (by omega) (by omega) rfl (fun h7 => ?_) (fun h7 => ?_)
        · skip
          omega
        · refine st_aload_n dX10_highest_30 rfl ?_
          refine st_getfr dX10_highest_31 f_X10_19 (by first | assumption | rfl) (by rfl) ?_
          refine st_getfi dX10_highest_34 f_X10_138 (by first | assumption | rfl) (by rfl) ?_
          refine st_iload_n dX10_highest_37 rfl ?_
          refine c_S2p (d' := d - 1) dX10_highest_38 l_X10_141 k_X10_storeyIn s_X10_storeyIn (by omega) (Nat.le_of_ble_eq_true rfl) (C_storeyIn (by omega) (by omega)) ?_
          refine st_istore (L' := [_, _, _, _, _]) dX10_highest_41 (by decide) rfl rfl ?_
          refine st_iload dX10_highest_43 rfl ?_
          refine st_iload_n dX10_highest_45 rfl ?_
          refine st_icmp_le (tgt := 54) dX10_highest_46 (by omega) (by omega) rfl (fun h10 => ?_) (fun h10 => ?_)
          · refine st_iinc (L' := [_, _, _, _, _]) dX10_highest_54 rfl (by decide) rfl rfl ?_
            refine st_goto (tgt := 19) dX10_highest_57 rfl ?_
            rw [if_neg (by omega)] at e
            refine AW.to (ih (k + 1) (by omega) (l4 := some (I (g8 (M 3 12) k)))) (h2 := by rw [e]; simp)
          · refine st_iload_n dX10_highest_49 rfl ?_
            refine st_istore_n (L' := [_, _, _, _, _]) dX10_highest_50 (by decide) rfl rfl ?_
            refine st_iload dX10_highest_51 rfl ?_
            refine st_istore_n (L' := [_, _, _, _, _]) dX10_highest_53 (by decide) rfl rfl ?_
            refine st_iinc (L' := [_, _, _, _, _]) dX10_highest_54 rfl (by decide) rfl rfl ?_
            refine st_goto (tgt := 19) dX10_highest_57 rfl ?_
            rw [if_pos (by omega)] at e
            refine AW.to (ih (k + 1) (by omega) (l4 := some (I (g8 (M 3 12) k)))) (h2 := by rw [e]; simp)
    exact loop (M 3 4).toNat 0 (by omega) (l4 := none)
  · refine st_iconst dX10_highest_10 ?_
    exact r_i dX10_highest_11 rfl ⟨by rw [A_highest, if_neg (by omega)], rfl, rfl⟩
def A_rent (M : q_Mem) (s : Int) : Int := if 0 ≤ s ∧ s < M 3 3 then hsum (fun q => if g8 (M 3 12) q = s then M 4 s.toNat else 0) (M 3 4).toNat + hsum (fun t => if g8 (M 3 12) (7 + t) = s then 5 else 0) (M 3 5).toNat else -1
theorem C_rent {G : q_G} {d : Nat} {M : q_Mem} {N : q_MemL} {s : Int} (hd : 1 ≤ d) (hM : NowOk M) (hs : i32 s) : AC0 G d m_X10_rent [.ref 0, I s] M N (CV (PU (I (A_rent M s)) M N)) := by
  have hr := Hok.rg hM
  obtain ⟨h0, h1, h2, h3, h4, h5, h6, h11, h12, h13, -⟩ := id hM
  unfold i32 at hs
  have hb := hr.2.2.2.2.2.2.1 s.toNat
  refine AC.of (L0 := [_, _, none, none]) pn_X10 (Nat.le_of_ble_eq_true rfl) rfl ?_
  refine st_aload_n dX10_rent_0 rfl ?_
  refine st_getfr dX10_rent_1 f_X10_19 (by first | assumption | rfl) (by rfl) ?_
  refine st_iload_n dX10_rent_4 rfl ?_
  refine c_V1p (d' := d - 1) dX10_rent_5 l_X10_199 k_X2_hasStorey i_X2_hasStorey (Or.inl ⟨_, _, _, _, _, (by first | assumption | rfl), by rfl⟩) (by omega) (Nat.le_of_ble_eq_true rfl) (C_hasStorey (Or.inl rfl) (by omega) hs) ?_
  refine b_ne (tgt := 13) dX10_rent_8 rfl (fun h => ?_) (fun h => ?_)
  · refine st_iconst dX10_rent_13 ?_
    refine st_istore_n (L' := [_, _, _, _]) dX10_rent_14 (by decide) rfl rfl ?_
    refine st_iconst dX10_rent_15 ?_
    refine st_istore_n (L' := [_, _, _, _]) dX10_rent_16 (by decide) rfl rfl ?_
    have loop2 : ∀ (q k : Nat), k + q = (M 3 5).toNat → AW0 G d m_X10_rent 65 [some (.ref 0), some (I s), some (I (hsum (fun q => if g8 (M 3 12) q = s then M 4 s.toNat else 0) (M 3 4).toNat + hsum (fun t => if g8 (M 3 12) (7 + t) = s then 5 else 0) k)), some (I k)] [] M N (CV (PU (I (A_rent M s)) M N)) := by
      intro q
      induction q with
      | zero =>
        intro k hk
        refine st_iload_n dX10_rent_65 rfl ?_
        refine st_aload_n dX10_rent_66 rfl ?_
        refine st_getfr dX10_rent_67 f_X10_19 (by first | assumption | rfl) (by rfl) ?_
        refine st_getfi dX10_rent_70 f_X10_296 (by first | assumption | rfl) (by rfl) ?_
        refine st_icmp_ge (tgt := 103) dX10_rent_73 (by omega) (by omega) rfl (fun h7 => ?_) (fun h7 => ?_)
        · refine st_iload_n dX10_rent_103 rfl ?_
          exact r_i dX10_rent_104 rfl ⟨by rw [A_rent, if_pos h, show k = (M 3 5).toNat by omega], rfl, rfl⟩
        · skip
          omega
      | succ q ih =>
        intro k hk
        have e : hsum (fun t => if g8 (M 3 12) (7 + t) = s then 5 else 0) (k + 1) = hsum (fun t => if g8 (M 3 12) (7 + t) = s then 5 else 0) k + (if g8 (M 3 12) (7 + k) = s then 5 else 0) := rfl
        have h9 := g8_lt (M 3 12) (7 + k)
        refine st_iload_n dX10_rent_65 rfl ?_
        refine st_aload_n dX10_rent_66 rfl ?_
        refine st_getfr dX10_rent_67 f_X10_19 (by first | assumption | rfl) (by rfl) ?_
        refine st_getfi dX10_rent_70 f_X10_296 (by first | assumption | rfl) (by rfl) ?_
        refine st_icmp_ge (tgt := 103) dX10_rent_73 (by omega) (by omega) rfl (fun h7 => ?_) (fun h7 => ?_)
        · skip
          omega
        · refine st_aload_n dX10_rent_76 rfl ?_
          refine st_getfr dX10_rent_77 f_X10_19 (by first | assumption | rfl) (by rfl) ?_
          refine st_getfi dX10_rent_80 f_X10_138 (by first | assumption | rfl) (by rfl) ?_
          refine st_bipush dX10_rent_83 (by decide) ?_
          refine st_iload_n dX10_rent_85 rfl ?_
          refine st_iadd dX10_rent_86 ?_
          rw [show (7 : Int) + (k : Int) = ((7 + k : Nat) : Int) by omega]
          refine c_S2p (d' := d - 1) dX10_rent_87 l_X10_141 k_X10_storeyIn s_X10_storeyIn (by omega) (Nat.le_of_ble_eq_true rfl) (C_storeyIn (by omega) (by omega)) ?_
          refine st_iload_n dX10_rent_90 rfl ?_
          refine st_icmp_ne (tgt := 97) dX10_rent_91 (by omega) (by omega) rfl (fun h10 => ?_) (fun h10 => ?_)
          · refine st_iinc (L' := [_, _, _, _]) dX10_rent_97 rfl (by decide) rfl rfl ?_
            refine st_goto (tgt := 65) dX10_rent_100 rfl ?_
            rw [if_neg h10] at e
            refine AW.to (ih (k + 1) (by omega)) (h2 := by rw [e]; simp)
          · refine st_iinc (L' := [_, _, _, _]) dX10_rent_94 rfl (by decide) rfl rfl ?_
            refine st_iinc (L' := [_, _, _, _]) dX10_rent_97 rfl (by decide) rfl rfl ?_
            refine st_goto (tgt := 65) dX10_rent_100 rfl ?_
            rw [if_pos h10] at e
            refine AW.to (ih (k + 1) (by omega)) (h2 := by rw [e, ← Int.add_assoc]; simp)
    have loop1 : ∀ (q k : Nat), k + q = (M 3 4).toNat → AW0 G d m_X10_rent 17 [some (.ref 0), some (I s), some (I (hsum (fun q => if g8 (M 3 12) q = s then M 4 s.toNat else 0) k)), some (I k)] [] M N (CV (PU (I (A_rent M s)) M N)) := by
      intro q
      induction q with
      | zero =>
        intro k hk
        refine st_iload_n dX10_rent_17 rfl ?_
        refine st_aload_n dX10_rent_18 rfl ?_
        refine st_getfr dX10_rent_19 f_X10_19 (by first | assumption | rfl) (by rfl) ?_
        refine st_getfi dX10_rent_22 f_X10_114 (by first | assumption | rfl) (by rfl) ?_
        refine st_icmp_ge (tgt := 63) dX10_rent_25 (by omega) (by omega) rfl (fun h7 => ?_) (fun h7 => ?_)
        · refine st_iconst dX10_rent_63 ?_
          refine st_istore_n (L' := [_, _, _, _]) dX10_rent_64 (by decide) rfl rfl ?_
          refine AW.to (loop2 (M 3 5).toNat 0 (by omega)) (h2 := by rw [show k = (M 3 4).toNat by omega]; simp [hsum])
        · skip
          omega
      | succ q ih =>
        intro k hk
        have e : hsum (fun q => if g8 (M 3 12) q = s then M 4 s.toNat else 0) (k + 1) = hsum (fun q => if g8 (M 3 12) q = s then M 4 s.toNat else 0) k + (if g8 (M 3 12) k = s then M 4 s.toNat else 0) := rfl
        have h9 := g8_lt (M 3 12) k
        refine st_iload_n dX10_rent_17 rfl ?_
        refine st_aload_n dX10_rent_18 rfl ?_
        refine st_getfr dX10_rent_19 f_X10_19 (by first | assumption | rfl) (by rfl) ?_
        refine st_getfi dX10_rent_22 f_X10_114 (by first | assumption | rfl) (by rfl) ?_
        refine st_icmp_ge (tgt := 63) dX10_rent_25 (by omega) (by omega) rfl (fun h7 => ?_) (fun h7 => ?_)
        · skip
          omega
        · refine st_aload_n dX10_rent_28 rfl ?_
          refine st_getfr dX10_rent_29 f_X10_19 (by first | assumption | rfl) (by rfl) ?_
          refine st_getfi dX10_rent_32 f_X10_138 (by first | assumption | rfl) (by rfl) ?_
          refine st_iload_n dX10_rent_35 rfl ?_
          refine c_S2p (d' := d - 1) dX10_rent_36 l_X10_141 k_X10_storeyIn s_X10_storeyIn (by omega) (Nat.le_of_ble_eq_true rfl) (C_storeyIn (by omega) (by omega)) ?_
          refine st_iload_n dX10_rent_39 rfl ?_
          refine st_icmp_ne (tgt := 57) dX10_rent_40 (by omega) (by omega) rfl (fun h10 => ?_) (fun h10 => ?_)
          · refine st_iinc (L' := [_, _, _, _]) dX10_rent_57 rfl (by decide) rfl rfl ?_
            refine st_goto (tgt := 17) dX10_rent_60 rfl ?_
            rw [if_neg h10] at e
            refine AW.to (ih (k + 1) (by omega)) (h2 := by rw [e]; simp)
          · refine st_iload_n dX10_rent_43 rfl ?_
            refine st_aload_n dX10_rent_44 rfl ?_
            refine st_getfr dX10_rent_45 f_X10_19 (by first | assumption | rfl) (by rfl) ?_
            refine st_getfr dX10_rent_48 f_X10_293 (by first | assumption | rfl) (by rfl) ?_
            refine st_iload_n dX10_rent_51 rfl ?_
            refine c_S2p (d' := d - 1) dX10_rent_52 l_X10_172 k_X10_cell s_X10_cell (by omega) (Nat.le_of_ble_eq_true rfl) (C_cellI sh_4 (by decide) (by omega)) ?_
            refine st_iadd dX10_rent_55 ?_
            refine st_istore_n (L' := [_, _, _, _]) dX10_rent_56 (by decide) rfl rfl ?_
            refine st_iinc (L' := [_, _, _, _]) dX10_rent_57 rfl (by decide) rfl rfl ?_
            refine st_goto (tgt := 17) dX10_rent_60 rfl ?_
            rw [if_pos h10] at e
            refine AW.to (ih (k + 1) (by omega)) (h2 := by rw [e]; simp)
    exact loop1 (M 3 4).toNat 0 (by omega)
  · refine st_iconst dX10_rent_11 ?_
    exact r_i dX10_rent_12 rfl ⟨by rw [A_rent, if_neg h], rfl, rfl⟩


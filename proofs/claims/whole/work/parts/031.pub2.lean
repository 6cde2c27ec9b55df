/-! the system's questions: neighbours, sneezes, the fire -/
def A_lifted (M : q_Mem) (p : Int) : Int := if 0 ≤ p ∧ p < M 3 4 then lifM M p.toNat (M 3 4).toNat else -1
theorem C_lifted {G : q_G} {d : Nat} {M : q_Mem} {N : q_MemL} {p : Int} (hd : 5 ≤ d) (hM : NowOk M) (hp : i32 p) : AC0 G d m_X10_lifted [.ref 0, I p] M N (CV (fun v M' N' => v = I (A_lifted M p) ∧ N' = N ∧ Exc [104] M M')) := by
  have hr := Hok.rg hM
  obtain ⟨h0, h1, h2, h3, h4, h5, h6, h11, h12, h13, -⟩ := id hM
  unfold i32 at hp
  refine AC.of (L0 := [_, _]) pn_X10 (Nat.le_of_ble_eq_true rfl) rfl ?_
  refine st_aload_n dX10_lifted_0 rfl ?_
  refine st_getfr dX10_lifted_1 f_X10_19 (by first | assumption | rfl) (by rfl) ?_
  refine st_iload_n dX10_lifted_4 rfl ?_
  refine c_V1p (d' := d - 1) dX10_lifted_5 l_X10_127 k_X2_hasPerson i_X2_hasPerson (Or.inl ⟨_, _, _, _, _, (by first | assumption | rfl), by rfl⟩) (by omega) (Nat.le_of_ble_eq_true rfl) (C_hasPerson (Or.inl rfl) (by omega) hp) ?_
  refine b_eq (tgt := 22) dX10_lifted_8 rfl (fun h => ?_) (fun h => ?_)
  · refine st_iconst dX10_lifted_22 ?_
    exact r_i dX10_lifted_23 rfl ⟨by rw [A_lifted, if_neg (by omega)], rfl, Exc.rf⟩
  · refine st_aload_n dX10_lifted_11 rfl ?_
    refine st_getfr dX10_lifted_12 f_X10_81 (by first | assumption | rfl) (by rfl) ?_
    refine st_iload_n dX10_lifted_15 rfl ?_
    rw [show p = ((p.toNat : Nat) : Int) by omega]
    refine c_V1i (d' := d - 1) dX10_lifted_16 l_X10_266 k_X4_lifters i_X4_lifters (Or.inl ⟨_, _, _, _, _, (by first | assumption | rfl), by rfl⟩) (by omega) (Nat.le_of_ble_eq_true rfl) (C_lifters (by omega) hr (by omega) h12 (by omega)) (fun x M1 N1 hx => ?_)
    obtain ⟨rfl, rfl, hE⟩ := hx
    refine st_goto (tgt := 23) dX10_lifted_19 rfl ?_
    exact r_i dX10_lifted_23 rfl ⟨by rw [A_lifted, if_pos (by omega), Int.toNat_natCast], rfl, hE⟩
def A_each (M : q_Mem) (p s : Int) : Int := if (0 ≤ p ∧ p < M 3 4) ∧ 0 ≤ s ∧ s < M 3 3 then lvF M p.toNat s 31 0 else -1
theorem C_each {G : q_G} {d : Nat} {M : q_Mem} {N : q_MemL} {p s : Int} (hd : 5 ≤ d) (hM : NowOk M) (hp : i32 p) (hs : i32 s) : AC0 G d m_X10_each [.ref 0, I p, I s] M N (CV (fun v M' N' => v = I (A_each M p s) ∧ N' = N ∧ Exc [104] M M')) := by
  have hr := Hok.rg hM
  obtain ⟨h0, h1, h2, h3, h4, h5, h6, h11, h12, h13, -⟩ := id hM
  unfold i32 at hp hs
  refine AC.of (L0 := [_, _, _]) pn_X10 (Nat.le_of_ble_eq_true rfl) rfl ?_
  refine st_aload_n dX10_each_0 rfl ?_
  refine st_getfr dX10_each_1 f_X10_19 (by first | assumption | rfl) (by rfl) ?_
  refine st_iload_n dX10_each_4 rfl ?_
  refine c_V1p (d' := d - 1) dX10_each_5 l_X10_127 k_X2_hasPerson i_X2_hasPerson (Or.inl ⟨_, _, _, _, _, (by first | assumption | rfl), by rfl⟩) (by omega) (Nat.le_of_ble_eq_true rfl) (C_hasPerson (Or.inl rfl) (by omega) hp) ?_
  refine b_eq (tgt := 22) dX10_each_8 rfl (fun h => ?_) (fun h => ?_)
  · refine st_iconst dX10_each_22 ?_
    exact r_i dX10_each_23 rfl ⟨by rw [A_each, if_neg (by omega)], rfl, Exc.rf⟩
  · refine st_aload_n dX10_each_11 rfl ?_
    refine st_getfr dX10_each_12 f_X10_19 (by first | assumption | rfl) (by rfl) ?_
    refine st_iload_n dX10_each_15 rfl ?_
    refine c_V1p (d' := d - 1) dX10_each_16 l_X10_199 k_X2_hasStorey i_X2_hasStorey (Or.inl ⟨_, _, _, _, _, (by first | assumption | rfl), by rfl⟩) (by omega) (Nat.le_of_ble_eq_true rfl) (C_hasStorey (Or.inl rfl) (by omega) hs) ?_
    refine b_ne (tgt := 24) dX10_each_19 rfl (fun h7 => ?_) (fun h7 => ?_)
    · refine st_aload_n dX10_each_24 rfl ?_
      refine st_getfr dX10_each_25 f_X10_81 (by first | assumption | rfl) (by rfl) ?_
      refine st_iload_n dX10_each_28 rfl ?_
      refine st_iload_n dX10_each_29 rfl ?_
      rw [show p = ((p.toNat : Nat) : Int) by omega]
      refine c_V2i (d' := d - 1) dX10_each_30 l_X10_269 k_X4_leastVoice i_X4_leastVoice (Or.inl ⟨_, _, _, _, _, (by first | assumption | rfl), by rfl⟩) (by omega) (Nat.le_of_ble_eq_true rfl) (C_leastVoice (by omega) hr (by omega) h12 (by omega) hs) (fun x M1 N1 hx => ?_)
      obtain ⟨rfl, rfl, hE⟩ := hx
      exact r_i dX10_each_33 rfl ⟨by rw [A_each, if_pos (by omega), Int.toNat_natCast], rfl, hE⟩
    · refine st_iconst dX10_each_22 ?_
      exact r_i dX10_each_23 rfl ⟨by rw [A_each, if_neg (by omega)], rfl, Exc.rf⟩
def A_beds (M : q_Mem) (s h what : Int) : Int := if (0 ≤ s ∧ s < M 3 3) ∧ (0 ≤ h ∧ h < M 3 2) ∧ -1 ≤ what ∧ what < 7 then A_sleep M s h what else -3
theorem C_beds {G : q_G} {d : Nat} {M : q_Mem} {N : q_MemL} {s h what : Int} (hd : 5 ≤ d) (hM : NowOk M) (hs : i32 s) (hh : i32 h) (hw : i32 what) : AC0 G d m_X10_beds [.ref 0, I s, I h, I what] M N (CV (fun v M' N' => v = I (A_beds M s h what) ∧ N' = N ∧ Exc [104] M M')) := by
  have hr := Hok.rg hM
  obtain ⟨h0, h1, h2, h3, h4, h5, h6, h11, h12, h13, -⟩ := id hM
  unfold i32 at hs hh hw
  refine AC.of (L0 := [_, _, _, _]) pn_X10 (Nat.le_of_ble_eq_true rfl) rfl ?_
  refine st_aload_n dX10_beds_0 rfl ?_
  refine st_getfr dX10_beds_1 f_X10_19 (by first | assumption | rfl) (by rfl) ?_
  refine st_iload_n dX10_beds_4 rfl ?_
  refine c_V1p (d' := d - 1) dX10_beds_5 l_X10_199 k_X2_hasStorey i_X2_hasStorey (Or.inl ⟨_, _, _, _, _, (by first | assumption | rfl), by rfl⟩) (by omega) (Nat.le_of_ble_eq_true rfl) (C_hasStorey (Or.inl rfl) (by omega) hs) ?_
  refine b_eq (tgt := 33) dX10_beds_8 rfl (fun h7 => ?_) (fun h7 => ?_)
  · refine st_bipush dX10_beds_33 (by decide) ?_
    exact r_i dX10_beds_35 rfl ⟨by rw [A_beds, if_neg (by omega)], rfl, Exc.rf⟩
  · refine st_aload_n dX10_beds_11 rfl ?_
    refine st_getfr dX10_beds_12 f_X10_19 (by first | assumption | rfl) (by rfl) ?_
    refine st_iload_n dX10_beds_15 rfl ?_
    refine c_V1p (d' := d - 1) dX10_beds_16 l_X10_176 k_X2_hasHour i_X2_hasHour (Or.inl ⟨_, _, _, _, _, (by first | assumption | rfl), by rfl⟩) (by omega) (Nat.le_of_ble_eq_true rfl) (C_hasHour (Or.inl rfl) (by omega) hh) ?_
    refine b_eq (tgt := 33) dX10_beds_19 rfl (fun h8 => ?_) (fun h8 => ?_)
    · refine st_bipush dX10_beds_33 (by decide) ?_
      exact r_i dX10_beds_35 rfl ⟨by rw [A_beds, if_neg (by omega)], rfl, Exc.rf⟩
    · refine st_iload_n dX10_beds_22 rfl ?_
      refine st_iconst dX10_beds_23 ?_
      refine st_icmp_lt (tgt := 33) dX10_beds_24 (by omega) (by omega) rfl (fun h9 => ?_) (fun h9 => ?_)
      · refine st_bipush dX10_beds_33 (by decide) ?_
        exact r_i dX10_beds_35 rfl ⟨by rw [A_beds, if_neg (by omega)], rfl, Exc.rf⟩
      · refine st_iload_n dX10_beds_27 rfl ?_
        refine st_bipush dX10_beds_28 (by decide) ?_
        refine st_icmp_lt (tgt := 36) dX10_beds_30 (by omega) (by omega) rfl (fun h10 => ?_) (fun h10 => ?_)
        · refine st_aload_n dX10_beds_36 rfl ?_
          refine st_getfr dX10_beds_37 f_X10_81 (by first | assumption | rfl) (by rfl) ?_
          refine st_iload_n dX10_beds_40 rfl ?_
          refine st_iload_n dX10_beds_41 rfl ?_
          refine st_iload_n dX10_beds_42 rfl ?_
          refine c_V3i (d' := d - 1) dX10_beds_43 l_X10_272 k_X4_sleeping i_X4_sleeping (Or.inl ⟨_, _, _, _, _, (by first | assumption | rfl), by rfl⟩) (by omega) (Nat.le_of_ble_eq_true rfl) (C_sleeping (by omega) hr h1 hs (by omega) (by omega)) (fun x M1 N1 hx => ?_)
          obtain ⟨rfl, rfl, hE⟩ := hx
          exact r_i dX10_beds_46 rfl ⟨by rw [A_beds, if_pos (by omega)], rfl, hE⟩
        · refine st_bipush dX10_beds_33 (by decide) ?_
          exact r_i dX10_beds_35 rfl ⟨by rw [A_beds, if_neg (by omega)], rfl, Exc.rf⟩
def A_quiet (M : q_Mem) (p what : Int) : Int := if (0 ≤ p ∧ p < M 3 4) ∧ 0 ≤ what ∧ what ≤ 1 then A_bought M p.toNat what else -1
theorem C_quiet {G : q_G} {d : Nat} {M : q_Mem} {N : q_MemL} {p what : Int} (hd : 5 ≤ d) (hM : NowOk M) (hp : i32 p) (hw : i32 what) : AC0 G d m_X10_quiet [.ref 0, I p, I what] M N (CV (fun v M' N' => v = I (A_quiet M p what) ∧ N' = N ∧ Exc [104] M M')) := by
  have hr := Hok.rg hM
  obtain ⟨h0, h1, h2, h3, h4, h5, h6, h11, h12, h13, -, -, -, hb, hc, -⟩ := id hM
  unfold i32 at hp hw
  refine AC.of (L0 := [_, _, _]) pn_X10 (Nat.le_of_ble_eq_true rfl) rfl ?_
  refine st_aload_n dX10_quiet_0 rfl ?_
  refine st_getfr dX10_quiet_1 f_X10_19 (by first | assumption | rfl) (by rfl) ?_
  refine st_iload_n dX10_quiet_4 rfl ?_
  refine c_V1p (d' := d - 1) dX10_quiet_5 l_X10_127 k_X2_hasPerson i_X2_hasPerson (Or.inl ⟨_, _, _, _, _, (by first | assumption | rfl), by rfl⟩) (by omega) (Nat.le_of_ble_eq_true rfl) (C_hasPerson (Or.inl rfl) (by omega) hp) ?_
  refine b_eq (tgt := 20) dX10_quiet_8 rfl (fun h => ?_) (fun h => ?_)
  · refine st_iconst dX10_quiet_20 ?_
    exact r_i dX10_quiet_21 rfl ⟨by rw [A_quiet, if_neg (by omega)], rfl, Exc.rf⟩
  · refine st_iload_n dX10_quiet_11 rfl ?_
    refine st_if_lt (tgt := 20) dX10_quiet_12 (by omega) rfl (fun h7 => ?_) (fun h7 => ?_)
    · refine st_iconst dX10_quiet_20 ?_
      exact r_i dX10_quiet_21 rfl ⟨by rw [A_quiet, if_neg (by omega)], rfl, Exc.rf⟩
    · refine st_iload_n dX10_quiet_15 rfl ?_
      refine st_iconst dX10_quiet_16 ?_
      refine st_icmp_le (tgt := 22) dX10_quiet_17 (by omega) (by omega) rfl (fun h8 => ?_) (fun h8 => ?_)
      · refine st_aload_n dX10_quiet_22 rfl ?_
        refine st_getfr dX10_quiet_23 f_X10_81 (by first | assumption | rfl) (by rfl) ?_
        refine st_iload_n dX10_quiet_26 rfl ?_
        refine st_iload_n dX10_quiet_27 rfl ?_
        rw [show p = ((p.toNat : Nat) : Int) by omega]
        refine c_V2i (d' := d - 1) dX10_quiet_28 l_X10_275 k_X4_bought i_X4_bought (Or.inl ⟨_, _, _, _, _, (by first | assumption | rfl), by rfl⟩) (by omega) (Nat.le_of_ble_eq_true rfl) (C_bought (by omega) hr (by omega) h12 hc (by omega) hw) (fun x M1 N1 hx => ?_)
        obtain ⟨rfl, rfl, hE⟩ := hx
        exact r_i dX10_quiet_31 rfl ⟨by rw [A_quiet, if_pos (by omega), Int.toNat_natCast], rfl, hE⟩
      · refine st_iconst dX10_quiet_20 ?_
        exact r_i dX10_quiet_21 rfl ⟨by rw [A_quiet, if_neg (by omega)], rfl, Exc.rf⟩
def A_fire (M : q_Mem) (what : Int) : Int := if M 3 0 = 1 ∧ 0 ≤ what ∧ what ≤ 7 then A_hush M what else -1
theorem C_fire {G : q_G} {d : Nat} {M : q_Mem} {N : q_MemL} {what : Int} (hd : 14 ≤ d) (hM : NowOk M) (hi : 2 ≤ M 3 3 → 1 ≤ M 4 1) (hw : i32 what) : AC0 G d m_X10_fire [.ref 0, I what] M N (CV (fun v M' N' => v = I (A_fire M what) ∧ N' = N ∧ Exc [92] M M')) := by
  have hr := Hok.rg hM
  obtain ⟨h0, h1, h2, h3, h4, h5, h6, h11, h12, h13, -⟩ := id hM
  unfold i32 at hw
  refine AC.of (L0 := [_, _]) pn_X10 (Nat.le_of_ble_eq_true rfl) rfl ?_
  refine st_aload_n dX10_fire_0 rfl ?_
  refine st_getfr dX10_fire_1 f_X10_19 (by first | assumption | rfl) (by rfl) ?_
  refine st_getfi dX10_fire_4 f_X10_189 (by first | assumption | rfl) (by rfl) ?_
  refine st_if_eq (tgt := 31) dX10_fire_7 (by omega) rfl (fun h => ?_) (fun h => ?_)
  · refine st_iconst dX10_fire_31 ?_
    exact r_i dX10_fire_32 rfl ⟨by rw [A_fire, if_neg (by omega)], rfl, Exc.rf⟩
  · refine st_iload_n dX10_fire_10 rfl ?_
    refine st_if_lt (tgt := 31) dX10_fire_11 (by omega) rfl (fun h7 => ?_) (fun h7 => ?_)
    · refine st_iconst dX10_fire_31 ?_
      exact r_i dX10_fire_32 rfl ⟨by rw [A_fire, if_neg (by omega)], rfl, Exc.rf⟩
    · refine st_iload_n dX10_fire_14 rfl ?_
      refine st_bipush dX10_fire_15 (by decide) ?_
      refine st_icmp_gt (tgt := 31) dX10_fire_17 (by omega) (by omega) rfl (fun h8 => ?_) (fun h8 => ?_)
      · refine st_iconst dX10_fire_31 ?_
        exact r_i dX10_fire_32 rfl ⟨by rw [A_fire, if_neg (by omega)], rfl, Exc.rf⟩
      · refine st_aload_n dX10_fire_20 rfl ?_
        refine st_getfr dX10_fire_21 f_X10_67 (by first | assumption | rfl) (by rfl) ?_
        refine st_iload_n dX10_fire_24 rfl ?_
        refine c_V1i (d' := d - 1) dX10_fire_25 l_X10_290 k_X1_hush i_X1_hush (Or.inl ⟨_, _, _, _, _, (by first | assumption | rfl), by rfl⟩) (by omega) (Nat.le_of_ble_eq_true rfl) (C_hush (by omega) hr (by omega) h12 hi (by omega)) (fun x M1 N1 hx => ?_)
        obtain ⟨rfl, rfl, hE⟩ := hx
        refine st_goto (tgt := 32) dX10_fire_28 rfl ?_
        exact r_i dX10_fire_32 rfl ⟨by rw [A_fire, if_pos (by omega)], rfl, hE⟩
def A_drawn (M : q_Mem) (m n what : Int) : Int := if M 3 0 = 1 ∧ (1 ≤ m ∧ m ≤ 20) ∧ (1 ≤ n ∧ n ≤ 60) ∧ 0 ≤ what ∧ what ≤ 1 then A_sneezes M m.toNat n.toNat what else -1
theorem C_drawn {G : q_G} {d : Nat} {M : q_Mem} {N : q_MemL} {m n what : Int} (hd : 6 ≤ d) (hM : NowOk M) (hm : i32 m) (hn : i32 n) (hw : i32 what) : AC0 G d m_X10_drawn [.ref 0, I m, I n, I what] M N (CV (fun v M' N' => v = I (A_drawn M m n what) ∧ N' = N ∧ Exc [92] M M')) := by
  have hr := Hok.rg hM
  obtain ⟨h0, h1, h2, h3, h4, h5, h6, h11, h12, h13, -, -, h18, -⟩ := id hM
  unfold i32 at hm hn hw
  refine AC.of (L0 := [_, _, _, _]) pn_X10 (Nat.le_of_ble_eq_true rfl) rfl ?_
  refine st_aload_n dX10_drawn_0 rfl ?_
  refine st_getfr dX10_drawn_1 f_X10_19 (by first | assumption | rfl) (by rfl) ?_
  refine st_getfi dX10_drawn_4 f_X10_189 (by first | assumption | rfl) (by rfl) ?_
  refine st_if_eq (tgt := 41) dX10_drawn_7 (by omega) rfl (fun h => ?_) (fun h => ?_)
  · refine st_iconst dX10_drawn_41 ?_
    exact r_i dX10_drawn_42 rfl ⟨by rw [A_drawn, if_neg (by omega)], rfl, Exc.rf⟩
  · refine st_iload_n dX10_drawn_10 rfl ?_
    refine st_iconst dX10_drawn_11 ?_
    refine st_icmp_lt (tgt := 41) dX10_drawn_12 (by omega) (by omega) rfl (fun h7 => ?_) (fun h7 => ?_)
    · refine st_iconst dX10_drawn_41 ?_
      exact r_i dX10_drawn_42 rfl ⟨by rw [A_drawn, if_neg (by omega)], rfl, Exc.rf⟩
    · refine st_iload_n dX10_drawn_15 rfl ?_
      refine st_bipush dX10_drawn_16 (by decide) ?_
      refine st_icmp_gt (tgt := 41) dX10_drawn_18 (by omega) (by omega) rfl (fun h8 => ?_) (fun h8 => ?_)
      · refine st_iconst dX10_drawn_41 ?_
        exact r_i dX10_drawn_42 rfl ⟨by rw [A_drawn, if_neg (by omega)], rfl, Exc.rf⟩
      · refine st_iload_n dX10_drawn_21 rfl ?_
        refine st_iconst dX10_drawn_22 ?_
        refine st_icmp_lt (tgt := 41) dX10_drawn_23 (by omega) (by omega) rfl (fun h9 => ?_) (fun h9 => ?_)
        · refine st_iconst dX10_drawn_41 ?_
          exact r_i dX10_drawn_42 rfl ⟨by rw [A_drawn, if_neg (by omega)], rfl, Exc.rf⟩
        · refine st_iload_n dX10_drawn_26 rfl ?_
          refine st_bipush dX10_drawn_27 (by decide) ?_
          refine st_icmp_gt (tgt := 41) dX10_drawn_29 (by omega) (by omega) rfl (fun h10 => ?_) (fun h10 => ?_)
          · refine st_iconst dX10_drawn_41 ?_
            exact r_i dX10_drawn_42 rfl ⟨by rw [A_drawn, if_neg (by omega)], rfl, Exc.rf⟩
          · refine st_iload_n dX10_drawn_32 rfl ?_
            refine st_if_lt (tgt := 41) dX10_drawn_33 (by omega) rfl (fun h12' => ?_) (fun h12' => ?_)
            · refine st_iconst dX10_drawn_41 ?_
              exact r_i dX10_drawn_42 rfl ⟨by rw [A_drawn, if_neg (by omega)], rfl, Exc.rf⟩
            · refine st_iload_n dX10_drawn_36 rfl ?_
              refine st_iconst dX10_drawn_37 ?_
              refine st_icmp_le (tgt := 43) dX10_drawn_38 (by omega) (by omega) rfl (fun h14 => ?_) (fun h14 => ?_)
              · refine st_aload_n dX10_drawn_43 rfl ?_
                refine st_getfr dX10_drawn_44 f_X10_67 (by first | assumption | rfl) (by rfl) ?_
                refine st_iload_n dX10_drawn_47 rfl ?_
                refine st_iload_n dX10_drawn_48 rfl ?_
                refine st_iload_n dX10_drawn_49 rfl ?_
                rw [show m = ((m.toNat : Nat) : Int) by omega, show n = ((n.toNat : Nat) : Int) by omega]
                refine c_V3i (d' := d - 1) dX10_drawn_50 l_X10_299 k_X1_sneezes i_X1_sneezes (Or.inl ⟨_, _, _, _, _, (by first | assumption | rfl), by rfl⟩) (by omega) (Nat.le_of_ble_eq_true rfl) (C_sneezes (by omega) hr (by omega) h12 h18 (by omega) (by omega) (by omega)) (fun x M1 N1 hx => ?_)
                obtain ⟨rfl, rfl, hE⟩ := hx
                exact r_i dX10_drawn_53 rfl ⟨by rw [A_drawn, if_pos (by omega), Int.toNat_natCast, Int.toNat_natCast], rfl, hE⟩
              · refine st_iconst dX10_drawn_41 ?_
                exact r_i dX10_drawn_42 rfl ⟨by rw [A_drawn, if_neg (by omega)], rfl, Exc.rf⟩


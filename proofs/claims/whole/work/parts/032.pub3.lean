/-! the system's acts: undo, tune, walk, push -/
def A_undo (M : q_Mem) : Int := if M 3 15 ≤ 0 then -2 else M 3 15 - 1
def U_undo (M : q_Mem) : q_Mem := if M 3 15 ≤ 0 then M else tbM M 3
theorem tbM_15 (M : q_Mem) : tbM M 3 3 15 = M 3 15 - 1 := by
  unfold tbM
  split <;> simp [q_up]
theorem C_undo {G : q_G} {d : Nat} {M : q_Mem} {N : q_MemL} (hd : 2 ≤ d) (hM : NowOk M) : AC0 G d m_X10_undo [.ref 0] M N (CV (PU (I (A_undo M)) (U_undo M) N)) := by
  obtain ⟨h0, h1, h2, h3, h4, h5, h6, h11, h12, h13, h15, h17, h18, hb, hc, hw, hv, hpa, -⟩ := id hM
  refine AC.of (L0 := [_]) pn_X10 (Nat.le_of_ble_eq_true rfl) rfl ?_
  refine st_aload_n dX10_undo_0 rfl ?_
  refine st_getfr dX10_undo_1 f_X10_19 (by first | assumption | rfl) (by rfl) ?_
  refine st_getfi dX10_undo_4 f_X10_236 (by first | assumption | rfl) (by rfl) ?_
  refine st_if_gt (tgt := 13) dX10_undo_7 (by omega) rfl (fun h => ?_) (fun h => ?_)
  · refine st_aload_n dX10_undo_13 rfl ?_
    refine st_getfr dX10_undo_14 f_X10_19 (by first | assumption | rfl) (by rfl) ?_
    refine c_V0v (d' := d - 1) dX10_undo_17 l_X10_239 k_X2_takeBack i_X2_takeBack (Or.inl ⟨_, _, _, _, _, (by first | assumption | rfl), by rfl⟩) (by omega) (Nat.le_of_ble_eq_true rfl) (C_takeBack (Or.inl rfl) (by omega) (by omega) hpa) (fun M1 N1 hx => ?_)
    obtain ⟨rfl, rfl⟩ := hx
    refine st_aload_n dX10_undo_20 rfl ?_
    refine st_getfr dX10_undo_21 f_X10_19 (by first | assumption | rfl) (by rfl) ?_
    refine st_getfi dX10_undo_24 f_X10_236 (by first | assumption | rfl) (by rfl) ?_
    rw [tbM_15]
    exact r_i dX10_undo_27 rfl ⟨by rw [A_undo, if_neg (by omega)], by rw [U_undo, if_neg (by omega)], rfl⟩
  · refine st_bipush dX10_undo_10 (by decide) ?_
    exact r_i dX10_undo_12 rfl ⟨by rw [A_undo, if_pos (by omega)], by rw [U_undo, if_pos (by omega)], rfl⟩
/-- kept for undo -/
def keepM (M : q_Mem) (vp : Int) : q_Mem := remB (remA M 3) 3 vp
theorem remA_row {M : q_Mem} {k : Nat} (h3 : k ≠ 3) (h8 : k ≠ 8) : remA M 3 k = M k := by
  unfold remA
  split
  · rw [q_up_ne h3]
    funext j
    unfold q_cp
    simp [h8]
  · rfl
theorem remA_f {M : q_Mem} {j : Nat} (h : j ≠ 15) : remA M 3 3 j = M 3 j := by
  unfold remA
  split
  · unfold q_up q_cp
    simp [h]
  · rfl
theorem keepM_row {M : q_Mem} {vp : Int} {k : Nat} (h3 : k ≠ 3) (h8 : k ≠ 8) : keepM M vp k = M k := by
  unfold keepM remB
  rw [q_up_ne h3, q_up_ne h8, q_up_ne h8, q_up_ne h8, q_up_ne h8, q_up_ne h8, remA_row h3 h8]
theorem keepM_f {M : q_Mem} {vp : Int} {j : Nat} (h : j ≠ 15) : keepM M vp 3 j = M 3 j := by
  have e := remA_f (M := M) h
  unfold keepM remB
  rw [← e]
  simp [q_up, h]
def tuneOk (M : q_Mem) (p h v : Int) : Prop := (0 ≤ p ∧ p < M 3 4) ∧ (0 ≤ h ∧ h < M 3 2) ∧ 0 ≤ v ∧ v ≤ 30
theorem C_tune {G : q_G} {d : Nat} {M : q_Mem} {N : q_MemL} {p h v : Int} (hd : 2 ≤ d) (hM : NowOk M) (hp : i32 p) (hh : i32 h) (hv : i32 v) : AC0 G d m_X10_tune [.ref 0, I p, I h, I v] M N (CV (fun x M' N' => N' = N ∧ ((¬ tuneOk M p h v ∧ x = I (-1) ∧ M' = M) ∨ (tuneOk M p h v ∧ x = I (M 7 (p * 6 + h).toNat) ∧ M' = q_up (keepM M (p * 6 + h)) 7 (p * 6 + h).toNat v)))) := by
  obtain ⟨h0, h1, h2, h3, h4, h5, h6, h11, h12, h13, h15, h17, h18, -⟩ := id hM
  unfold i32 at hp hh hv
  unfold tuneOk
  refine AC.of (L0 := [_, _, _, _, none, none]) pn_X10 (Nat.le_of_ble_eq_true rfl) rfl ?_
  refine st_aload_n dX10_tune_0 rfl ?_
  refine st_getfr dX10_tune_1 f_X10_19 (by first | assumption | rfl) (by rfl) ?_
  refine st_iload_n dX10_tune_4 rfl ?_
  refine c_V1p (d' := d - 1) dX10_tune_5 l_X10_127 k_X2_hasPerson i_X2_hasPerson (Or.inl ⟨_, _, _, _, _, (by first | assumption | rfl), by rfl⟩) (by omega) (Nat.le_of_ble_eq_true rfl) (C_hasPerson (Or.inl rfl) (by omega) hp) ?_
  refine b_eq (tgt := 29) dX10_tune_8 rfl (fun h7 => ?_) (fun h7 => ?_)
  · refine st_iconst dX10_tune_29 ?_
    exact r_i dX10_tune_30 rfl ⟨rfl, Or.inl ⟨by omega, rfl, rfl⟩⟩
  · refine st_aload_n dX10_tune_11 rfl ?_
    refine st_getfr dX10_tune_12 f_X10_19 (by first | assumption | rfl) (by rfl) ?_
    refine st_iload_n dX10_tune_15 rfl ?_
    refine c_V1p (d' := d - 1) dX10_tune_16 l_X10_176 k_X2_hasHour i_X2_hasHour (Or.inl ⟨_, _, _, _, _, (by first | assumption | rfl), by rfl⟩) (by omega) (Nat.le_of_ble_eq_true rfl) (C_hasHour (Or.inl rfl) (by omega) hh) ?_
    refine b_eq (tgt := 29) dX10_tune_19 rfl (fun h8 => ?_) (fun h8 => ?_)
    · refine st_iconst dX10_tune_29 ?_
      exact r_i dX10_tune_30 rfl ⟨rfl, Or.inl ⟨by omega, rfl, rfl⟩⟩
    · refine st_iload_n dX10_tune_22 rfl ?_
      refine c_S1p (d' := d - 1) dX10_tune_23 l_X10_216 k_X10_isVoice s_X10_isVoice (by omega) (Nat.le_of_ble_eq_true rfl) (C_isVoice hv) ?_
      refine b_ne (tgt := 31) dX10_tune_26 rfl (fun h9 => ?_) (fun h9 => ?_)
      · refine st_aload_n dX10_tune_31 rfl ?_
        refine st_getfr dX10_tune_32 f_X10_19 (by first | assumption | rfl) (by rfl) ?_
        refine st_iload_n dX10_tune_35 rfl ?_
        refine st_iload_n dX10_tune_36 rfl ?_
        refine c_V2p (d' := d - 1) dX10_tune_37 l_X10_151 k_X2_voice i_X2_voice (Or.inl ⟨_, _, _, _, _, (by first | assumption | rfl), by rfl⟩) (by omega) (Nat.le_of_ble_eq_true rfl) (C_voice (Or.inl rfl) (by omega) (by omega) (by omega)) ?_
        refine st_istore (L' := [_, _, _, _, _, _]) dX10_tune_40 (by decide) rfl rfl ?_
        refine st_iload_n dX10_tune_42 rfl ?_
        refine st_bipush dX10_tune_43 (by decide) ?_
        refine st_imul dX10_tune_45 ?_
        refine st_iload_n dX10_tune_46 rfl ?_
        refine st_iadd dX10_tune_47 ?_
        refine st_istore (L' := [_, _, _, _, _, _]) dX10_tune_48 (by decide) rfl rfl ?_
        refine st_aload_n dX10_tune_50 rfl ?_
        refine st_getfr dX10_tune_51 f_X10_19 (by first | assumption | rfl) (by rfl) ?_
        refine st_iload dX10_tune_54 rfl ?_
        refine c_V1v (d' := d - 1) dX10_tune_56 l_X10_209 k_X2_remember i_X2_remember (Or.inl ⟨_, _, _, _, _, (by first | assumption | rfl), by rfl⟩) (by omega) (Nat.le_of_ble_eq_true rfl) (C_remember (Or.inl rfl) (by omega) h15 (by omega)) (fun M1 N1 hx => ?_)
        obtain ⟨hM1, rfl⟩ := hx
        refine st_aload_n dX10_tune_59 rfl ?_
        refine st_getfr dX10_tune_60 f_X10_19 (by first | assumption | rfl) (by rfl) ?_
        refine st_getfr dX10_tune_63 f_X10_223 (by first | assumption | rfl) (by rfl) ?_
        refine st_iload dX10_tune_66 rfl ?_
        refine st_iload_n dX10_tune_68 rfl ?_
        refine c_S3v (d' := d - 1) dX10_tune_69 l_X10_219 k_X10_put s_X10_put (by omega) (Nat.le_of_ble_eq_true rfl) (C_putI sh_7 (by decide) (by omega)) (fun M2 N2 hx => ?_)
        obtain ⟨rfl, rfl⟩ := hx
        refine st_iload dX10_tune_72 rfl ?_
        exact r_i dX10_tune_74 rfl ⟨rfl, Or.inr ⟨by omega, rfl, by rw [hM1]; rfl⟩⟩
      · refine st_iconst dX10_tune_29 ?_
        exact r_i dX10_tune_30 rfl ⟨rfl, Or.inl ⟨by omega, rfl, rfl⟩⟩
/-- goes a room on, if there is one -/
def goOk (M : q_Mem) (k : Nat) (w : Int) : Prop := (w = -1 ∨ w = 1) ∧ 0 ≤ g4 (M 3 13) k + w ∧ g4 (M 3 13) k + w < M 3 1
def GoR (M : q_Mem) (N : q_MemL) (k : Nat) (w : Int) : Value → q_Mem → q_MemL → Prop := fun x M' N' => N' = N ∧ ((¬ goOk M k w ∧ x = I (-1) ∧ M' = M) ∨ (goOk M k w ∧ x = I (g4 (M 3 13) k + w) ∧ M' = q_up (keepM M (-1)) 3 13 (w4 (M 3 13) k (g4 (M 3 13) k + w))))
theorem C_goBeside {G : q_G} {d : Nat} {M : q_Mem} {N : q_MemL} {k : Nat} {w : Int} (hd : 2 ≤ d) (hM : NowOk M) (hk : k < 10) (hw : i32 w) : AC0 G d m_X10_goBeside [.ref 0, I k, I w] M N (CV (GoR M N k w)) := by
  obtain ⟨h0, h1, h2, h3, h4, h5, h6, h11, h12, h13, h15, h17, h18, -⟩ := id hM
  unfold i32 at hw
  have hg := g4_lt (M 3 13) k
  refine AC.of (L0 := [_, _, _, none]) pn_X10 (Nat.le_of_ble_eq_true rfl) rfl ?_
  refine st_iload_n dX10_goBeside_0 rfl ?_
  refine st_iconst dX10_goBeside_1 ?_
  have fin : (w = -1 ∨ w = 1) → AW0 G d m_X10_goBeside 12 [some (.ref 0), some (I k), some (I w), none] [] M N (CV (GoR M N k w)) := by
    intro hww
    refine st_aload_n dX10_goBeside_12 rfl ?_
    refine st_getfr dX10_goBeside_13 f_X10_19 (by first | assumption | rfl) (by rfl) ?_
    refine st_getfi dX10_goBeside_16 f_X10_131 (by first | assumption | rfl) (by rfl) ?_
    refine st_iload_n dX10_goBeside_19 rfl ?_
    refine c_S2p (d' := d - 1) dX10_goBeside_20 l_X10_134 k_X10_roomIn s_X10_roomIn (by omega) (Nat.le_of_ble_eq_true rfl) (C_roomIn (by omega) hk) ?_
    refine st_iload_n dX10_goBeside_23 rfl ?_
    refine st_iadd dX10_goBeside_24 ?_
    refine st_istore_n (L' := [_, _, _, _]) dX10_goBeside_25 (by decide) rfl rfl ?_
    refine st_aload_n dX10_goBeside_26 rfl ?_
    refine st_getfr dX10_goBeside_27 f_X10_19 (by first | assumption | rfl) (by rfl) ?_
    refine st_iload_n dX10_goBeside_30 rfl ?_
    refine c_V1p (d' := d - 1) dX10_goBeside_31 l_X10_196 k_X2_hasRoom i_X2_hasRoom (Or.inl ⟨_, _, _, _, _, (by first | assumption | rfl), by rfl⟩) (by omega) (Nat.le_of_ble_eq_true rfl) (C_hasRoom (Or.inl rfl) (by omega) (by omega)) ?_
    refine b_ne (tgt := 39) dX10_goBeside_34 rfl (fun h7 => ?_) (fun h7 => ?_)
    · refine st_aload_n dX10_goBeside_39 rfl ?_
      refine st_getfr dX10_goBeside_40 f_X10_19 (by first | assumption | rfl) (by rfl) ?_
      refine st_iconst dX10_goBeside_43 ?_
      refine c_V1v (d' := d - 1) dX10_goBeside_44 l_X10_209 k_X2_remember i_X2_remember (Or.inl ⟨_, _, _, _, _, (by first | assumption | rfl), by rfl⟩) (by omega) (Nat.le_of_ble_eq_true rfl) (C_remember (Or.inl rfl) (by omega) h15 (by omega)) (fun M1 N1 hx => ?_)
      obtain ⟨hM1, rfl⟩ := hx
      have e : M1 3 13 = M 3 13 := by rw [hM1]; exact keepM_f (by decide)
      refine st_aload_n dX10_goBeside_47 rfl ?_
      refine st_getfr dX10_goBeside_48 f_X10_19 (by first | assumption | rfl) (by rfl) ?_
      refine st_aload_n dX10_goBeside_51 rfl ?_
      refine st_getfr dX10_goBeside_52 f_X10_19 (by first | assumption | rfl) (by rfl) ?_
      refine st_getfi dX10_goBeside_55 f_X10_131 (by first | assumption | rfl) (by rfl) ?_
      refine st_iload_n dX10_goBeside_58 rfl ?_
      refine st_iload_n dX10_goBeside_59 rfl ?_
      rw [e]
      refine c_S3p (d' := d - 1) dX10_goBeside_60 l_X10_232 k_X10_withRoom s_X10_withRoom (by omega) (Nat.le_of_ble_eq_true rfl) (C_withRoom h13.1 (by omega) hk) ?_
      refine st_putfi dX10_goBeside_63 w_X10_131 (by first | assumption | rfl) (by rfl) rfl rfl ?_
      refine st_iload_n dX10_goBeside_66 rfl ?_
      exact r_i dX10_goBeside_67 rfl ⟨rfl, Or.inr ⟨⟨hww, by omega⟩, rfl, by rw [hM1]; rfl⟩⟩
    · refine st_iconst dX10_goBeside_37 ?_
      exact r_i dX10_goBeside_38 rfl ⟨rfl, Or.inl ⟨fun z => h7 z.2, rfl, rfl⟩⟩
  refine st_icmp_eq (tgt := 12) dX10_goBeside_2 (by omega) (by omega) rfl (fun h8 => ?_) (fun h8 => ?_)
  · skip
    exact fin (Or.inl h8)
  · refine st_iload_n dX10_goBeside_5 rfl ?_
    refine st_iconst dX10_goBeside_6 ?_
    refine st_icmp_eq (tgt := 12) dX10_goBeside_7 (by omega) (by omega) rfl (fun h9 => ?_) (fun h9 => ?_)
    · skip
      exact fin (Or.inr h9)
    · refine st_iconst dX10_goBeside_10 ?_
      exact r_i dX10_goBeside_11 rfl ⟨rfl, Or.inl ⟨fun z => z.1.elim h8 h9, rfl, rfl⟩⟩
def WalkR (M : q_Mem) (N : q_MemL) (p w : Int) : Value → q_Mem → q_MemL → Prop := fun x M' N' => if 0 ≤ p ∧ p < M 3 4 then GoR M N p.toNat w x M' N' else PU (I (-1)) M N x M' N'
theorem C_walk {G : q_G} {d : Nat} {M : q_Mem} {N : q_MemL} {p w : Int} (hd : 3 ≤ d) (hM : NowOk M) (hp : i32 p) (hw : i32 w) : AC0 G d m_X10_walk [.ref 0, I p, I w] M N (CV (WalkR M N p w)) := by
  obtain ⟨h0, h1, h2, h3, h4, -⟩ := id hM
  have hpp := hp
  unfold i32 at hpp
  refine AC.of (L0 := [_, _, _]) pn_X10 (Nat.le_of_ble_eq_true rfl) rfl ?_
  refine st_aload_n dX10_walk_0 rfl ?_
  refine st_getfr dX10_walk_1 f_X10_19 (by first | assumption | rfl) (by rfl) ?_
  refine st_iload_n dX10_walk_4 rfl ?_
  refine c_V1p (d' := d - 1) dX10_walk_5 l_X10_127 k_X2_hasPerson i_X2_hasPerson (Or.inl ⟨_, _, _, _, _, (by first | assumption | rfl), by rfl⟩) (by omega) (Nat.le_of_ble_eq_true rfl) (C_hasPerson (Or.inl rfl) (by omega) hp) ?_
  refine b_eq (tgt := 20) dX10_walk_8 rfl (fun h7 => ?_) (fun h7 => ?_)
  · refine st_iconst dX10_walk_20 ?_
    exact r_i dX10_walk_21 rfl (by rw [WalkR, if_neg h7]; exact ⟨rfl, rfl, rfl⟩)
  · refine st_aload_n dX10_walk_11 rfl ?_
    refine st_iload_n dX10_walk_12 rfl ?_
    refine st_iload_n dX10_walk_13 rfl ?_
    rw [show p = ((p.toNat : Nat) : Int) by omega]
    refine c_V2i (d' := d - 1) dX10_walk_14 l_X10_226 k_X10_goBeside i_X10_goBeside (Or.inl ⟨_, _, _, _, _, (by first | assumption | rfl), by rfl⟩) (by omega) (Nat.le_of_ble_eq_true rfl) (C_goBeside (by omega) hM (by omega) hw) (fun x M1 N1 hx => ?_)
    have hx2 := hx
    unfold GoR at hx2
    obtain ⟨z, rfl⟩ : ∃ z, x = I z := by
      rcases hx2.2 with q | q
      · exact ⟨_, q.2.1⟩
      · exact ⟨_, q.2.1⟩
    refine st_goto (tgt := 21) dX10_walk_17 rfl ?_
    exact r_i dX10_walk_21 rfl (by rw [WalkR, if_pos (by omega), Int.toNat_natCast]; exact hx)
def PushR (M : q_Mem) (N : q_MemL) (t w : Int) : Value → q_Mem → q_MemL → Prop := fun x M' N' => if (0 ≤ t ∧ t < M 3 5) ∧ 0 < cnt (fun k => g4 (M 3 13) k = g4 (M 3 13) (7 + t.toNat) ∧ g8 (M 3 12) k = g8 (M 3 12) (7 + t.toNat)) (M 3 4).toNat then GoR M N (7 + t.toNat) w x M' N' else PU (I (-1)) M N x M' N'
theorem C_push {G : q_G} {d : Nat} {M : q_Mem} {N : q_MemL} {t w : Int} (hd : 3 ≤ d) (hM : NowOk M) (ht : i32 t) (hw : i32 w) : AC0 G d m_X10_push [.ref 0, I t, I w] M N (CV (PushR M N t w)) := by
  have hr := Hok.rg hM
  obtain ⟨h0, h1, h2, h3, h4, h5, h6, h11, h12, h13, -⟩ := id hM
  have htt := ht
  unfold i32 at htt
  have hg := g4_lt (M 3 13) (7 + t.toNat)
  have hg8 := g8_lt (M 3 12) (7 + t.toNat)
  have hc := cnt_rng (fun k => g4 (M 3 13) k = g4 (M 3 13) (7 + t.toNat) ∧ g8 (M 3 12) k = g8 (M 3 12) (7 + t.toNat)) (M 3 4).toNat
  refine AC.of (L0 := [_, _, _, none, none]) pn_X10 (Nat.le_of_ble_eq_true rfl) rfl ?_
  refine st_aload_n dX10_push_0 rfl ?_
  refine st_getfr dX10_push_1 f_X10_19 (by first | assumption | rfl) (by rfl) ?_
  refine st_iload_n dX10_push_4 rfl ?_
  refine c_V1p (d' := d - 1) dX10_push_5 l_X10_179 k_X2_hasThing i_X2_hasThing (Or.inl ⟨_, _, _, _, _, (by first | assumption | rfl), by rfl⟩) (by omega) (Nat.le_of_ble_eq_true rfl) (C_hasThing (Or.inl rfl) (by omega) ht) ?_
  refine b_ne (tgt := 13) dX10_push_8 rfl (fun h7 => ?_) (fun h7 => ?_)
  · refine st_bipush dX10_push_13 (by decide) ?_
    refine st_iload_n dX10_push_15 rfl ?_
    refine st_iadd dX10_push_16 ?_
    refine st_istore_n (L' := [_, _, _, _, _]) dX10_push_17 (by decide) rfl rfl ?_
    refine st_aload_n dX10_push_18 rfl ?_
    refine st_getfr dX10_push_19 f_X10_19 (by first | assumption | rfl) (by rfl) ?_
    refine st_aload_n dX10_push_22 rfl ?_
    refine st_getfr dX10_push_23 f_X10_19 (by first | assumption | rfl) (by rfl) ?_
    refine st_getfi dX10_push_26 f_X10_131 (by first | assumption | rfl) (by rfl) ?_
    refine st_iload_n dX10_push_29 rfl ?_
    rw [show (7 : Int) + t = ((7 + t.toNat : Nat) : Int) by omega]
    refine c_S2p (d' := d - 1) dX10_push_30 l_X10_134 k_X10_roomIn s_X10_roomIn (by omega) (Nat.le_of_ble_eq_true rfl) (C_roomIn (by omega) (by omega)) ?_
    refine st_aload_n dX10_push_33 rfl ?_
    refine st_getfr dX10_push_34 f_X10_19 (by first | assumption | rfl) (by rfl) ?_
    refine st_getfi dX10_push_37 f_X10_138 (by first | assumption | rfl) (by rfl) ?_
    refine st_iload_n dX10_push_40 rfl ?_
    refine c_S2p (d' := d - 1) dX10_push_41 l_X10_141 k_X10_storeyIn s_X10_storeyIn (by omega) (Nat.le_of_ble_eq_true rfl) (C_storeyIn (by omega) (by omega)) ?_
    refine c_V2p (d' := d - 1) dX10_push_44 l_X10_229 k_X2_crowdAt i_X2_crowdAt (Or.inl ⟨_, _, _, _, _, (by first | assumption | rfl), by rfl⟩) (by omega) (Nat.le_of_ble_eq_true rfl) (C_crowdAt (Or.inl rfl) (by omega) ⟨hr, h12⟩ (by omega) (by omega)) ?_
    refine st_istore (L' := [_, _, _, _, _]) dX10_push_47 (by decide) rfl rfl ?_
    refine st_iload dX10_push_49 rfl ?_
    refine st_if_le (tgt := 63) dX10_push_51 (by omega) rfl (fun h8 => ?_) (fun h8 => ?_)
    · refine st_iconst dX10_push_63 ?_
      exact r_i dX10_push_64 rfl (by rw [PushR, if_neg (by omega)]; exact ⟨rfl, rfl, rfl⟩)
    · refine st_aload_n dX10_push_54 rfl ?_
      refine st_iload_n dX10_push_55 rfl ?_
      refine st_iload_n dX10_push_56 rfl ?_
      refine c_V2i (d' := d - 1) dX10_push_57 l_X10_226 k_X10_goBeside i_X10_goBeside (Or.inl ⟨_, _, _, _, _, (by first | assumption | rfl), by rfl⟩) (by omega) (Nat.le_of_ble_eq_true rfl) (C_goBeside (by omega) hM (by omega) hw) (fun x M1 N1 hx => ?_)
      have hx2 := hx
      unfold GoR at hx2
      obtain ⟨z, rfl⟩ : ∃ z, x = I z := by
        rcases hx2.2 with q | q
        · exact ⟨_, q.2.1⟩
        · exact ⟨_, q.2.1⟩
      refine st_goto (tgt := 64) dX10_push_60 rfl ?_
      exact r_i dX10_push_64 rfl (by rw [PushR, if_pos (by omega)]; exact hx)
  · refine st_iconst dX10_push_11 ?_
    exact r_i dX10_push_12 rfl (by rw [PushR, if_neg (fun z => h7 z.1)]; exact ⟨rfl, rfl, rfl⟩)


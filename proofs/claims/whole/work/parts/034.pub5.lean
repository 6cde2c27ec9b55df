/-! the system's acts: beat, sing; things; ears -/
theorem remA_exc {M M1 : q_Mem} (hE : Exc [111] M M1) : Exc [111] (remA M 3) (remA M1 3) := by
  intro a ha
  have e3 := hE 3 (by decide)
  have e8 := hE 8 (by decide)
  have ea := hE a ha
  unfold remA
  rw [e3]
  split
  · funext j
    simp only [q_up, q_cp, ea, e8, Nat.reduceAdd]
  · exact ea
theorem up_exc {L : List Nat} {M M1 : q_Mem} {a i : Nat} {z : Int} (hE : Exc L M M1) : Exc L (q_up M a i z) (q_up M1 a i z) := by
  intro b hb
  funext j
  simp only [q_up, hE b hb]
theorem keepM_exc {M M1 : q_Mem} {vp : Int} (hE : Exc [111] M M1) : Exc [111] (keepM M vp) (keepM M1 vp) := by
  have h := remA_exc hE
  have e3 := h 3 (by decide)
  have e7 := h 7 (by decide)
  unfold keepM remB
  rw [e3, show (3 + 4 : Nat) = 7 from rfl, e7]
  exact up_exc (up_exc (up_exc (up_exc (up_exc (up_exc h)))))
theorem keep_rg {M : q_Mem} {vp : Int} (h : Hrg M 3) : Hrg (keepM M vp) 3 := by
  unfold Hrg at *
  rw [keepM_f (j := 2) (by decide), keepM_f (j := 3) (by decide), keepM_f (j := 4) (by decide), keepM_f (j := 5) (by decide), keepM_f (j := 6) (by decide), keepM_f (j := 13) (by decide), keepM_row (k := 3 + 1) (by decide) (by decide), keepM_row (k := 3 + 3) (by decide) (by decide), keepM_row (k := 3 + 4) (by decide) (by decide)]
  exact h
theorem keep_aft {M : q_Mem} {vp : Int} (w : Int) (v : Nat → Int) : homeAft (keepM M vp) 3 w v = homeAft M 3 w v := by
  unfold homeAft
  rw [keepM_f (j := 3) (by decide), keepM_f (j := 4) (by decide), keepM_f (j := 5) (by decide), keepM_f (j := 6) (by decide), keepM_f (j := 13) (by decide), keepM_row (k := 3 + 1) (by decide) (by decide), keepM_row (k := 3 + 3) (by decide) (by decide)]
/-- behind a beat: kept for undo, moved to z -/
def sangM (M : q_Mem) (z : Int) : q_Mem := q_up (q_up (keepM M (-1)) 3 12 z) 3 11 (M 3 11 + 1)
theorem sang_fin {M M1 : q_Mem} {v : Nat → Int} {z : Int} (hM : Hrg M 3) (hE : Exc [111] M M1) (hv : ∀ q, q < (M 3 4).toNat → M1 111 q = v q) (hz : 0 ≤ z ∧ z < 1073741824) (hg : ∀ k, k < 10 → g8 z k = homeAft (keepM M1 (-1)) 3 (keepM M1 (-1) 3 12) (keepM M1 (-1) 111) k) : z = nxt M 3 (M 3 12) v ∧ Exc [111] (sangM M (nxt M 3 (M 3 12) v)) (q_up (q_up (keepM M1 (-1)) 3 12 z) 3 11 (keepM M1 (-1) 3 11 + 1)) := by
  have e3 := hE 3 (by decide)
  have hz2 : z = nxt M 3 (M 3 12) v := by
    refine nxt_eq hM.2.1 hz (fun k hk => ?_)
    rw [hg k hk, keep_aft, keepM_f (by decide), keepM_row (by decide) (by decide), e3]
    exact (homeAft_congr e3 (hE 4 (by decide)) (hE 6 (by decide)) (fun q hq => (hv q hq).symm) k).symm
  refine ⟨hz2, ?_⟩
  rw [keepM_f (by decide), e3, hz2]
  exact up_exc (up_exc (keepM_exc hE))
def beatOk (M : q_Mem) : Prop := M 3 0 = 1 ∧ M 3 11 + 1 ≤ 9999
theorem C_beat {G : q_G} {d : Nat} {M : q_Mem} {N : q_MemL} (hd : 6 ≤ d) (hM : NowOk M) : AC0 G d m_X10_beat [.ref 0] M N (CV (fun x M' N' => N' = N ∧ ((¬ beatOk M ∧ x = I (-1) ∧ M' = M) ∨ (beatOk M ∧ x = I (M 3 11 + 1) ∧ Exc [111] (sangM M (nxt M 3 (M 3 12) (nowV M 0))) M')))) := by
  have hr := Hok.rg hM
  have hH : isHome 3 := Or.inl rfl
  obtain ⟨h0, h1, h2, h3, h4, h5, h6, h11, h12, h13, h15, -⟩ := id hM
  unfold beatOk
  refine AC.of (L0 := [_]) pn_X10 (Nat.le_of_ble_eq_true rfl) rfl ?_
  refine st_aload_n dX10_beat_0 rfl ?_
  refine st_getfr dX10_beat_1 f_X10_19 (by first | assumption | rfl) (by rfl) ?_
  refine st_iconst dX10_beat_4 ?_
  refine c_V1p (d' := d - 1) dX10_beat_5 l_X10_206 k_X2_canBeat i_X2_canBeat (Or.inl ⟨_, _, _, _, _, (by first | assumption | rfl), by rfl⟩) (by omega) (Nat.le_of_ble_eq_true rfl) (C_canBeat hH h0 (by omega) (by omega)) ?_
  refine b_ne (tgt := 13) dX10_beat_8 rfl (fun h7 => ?_) (fun h7 => ?_)
  · refine st_aload_n dX10_beat_13 rfl ?_
    refine st_getfr dX10_beat_14 f_X10_19 (by first | assumption | rfl) (by rfl) ?_
    refine st_aload_n dX10_beat_17 rfl ?_
    refine st_getfr dX10_beat_18 f_X10_19 (by first | assumption | rfl) (by rfl) ?_
    refine st_getfi dX10_beat_21 f_X10_144 (by first | assumption | rfl) (by rfl) ?_
    refine st_iconst dX10_beat_24 ?_
    refine st_aload_n dX10_beat_25 rfl ?_
    refine st_getfr dX10_beat_26 f_X10_92 (by first | assumption | rfl) (by rfl) ?_
    refine c_V3v (d' := d - 1) dX10_beat_29 l_X10_154 k_X2_tell i_X2_tell (Or.inl ⟨_, _, _, _, _, (by first | assumption | rfl), by rfl⟩) (by omega) (Nat.le_of_ble_eq_true rfl) (C_tellV hH (by omega) hr sh_111 (by decide) (by decide) (by omega) (by omega)) (fun M1 N1 hx => ?_)
    obtain ⟨rfl, hE, hv, -⟩ := hx
    have e3 := hE 3 (by decide)
    refine st_aload_n dX10_beat_32 rfl ?_
    refine st_getfr dX10_beat_33 f_X10_19 (by first | assumption | rfl) (by rfl) ?_
    refine st_iconst dX10_beat_36 ?_
    refine c_V1v (d' := d - 1) dX10_beat_37 l_X10_209 k_X2_remember i_X2_remember (Or.inl ⟨_, _, _, _, _, (by first | assumption | rfl), by rfl⟩) (by omega) (Nat.le_of_ble_eq_true rfl) (C_remember hH (by omega) (by rw [e3]; exact h15) (by omega)) (fun M2 N2 hx => ?_)
    obtain ⟨hM2, rfl⟩ := hx
    rw [show remB (remA M1 3) 3 (-1) = keepM M1 (-1) from rfl] at hM2
    rw [hM2]
    refine st_aload_n dX10_beat_40 rfl ?_
    refine st_getfr dX10_beat_41 f_X10_19 (by first | assumption | rfl) (by rfl) ?_
    refine st_aload_n dX10_beat_44 rfl ?_
    refine st_getfr dX10_beat_45 f_X10_92 (by first | assumption | rfl) (by rfl) ?_
    refine c_V1v (d' := d - 1) dX10_beat_48 l_X10_212 k_X2_move i_X2_move (Or.inl ⟨_, _, _, _, _, (by first | assumption | rfl), by rfl⟩) (by omega) (Nat.le_of_ble_eq_true rfl) (C_move hH (by omega) (keep_rg (hr.exc hE (by decide) (by decide) (by decide) (by decide))) sh_111 (by decide) (by rw [keepM_f (by decide), e3]; omega) (by rw [keepM_f (by decide)]; intro q hq; rw [keepM_row (by decide) (by decide)]; exact toldS hr e3 hv q hq)) (fun M3 N3 hx => ?_)
    obtain ⟨rfl, z, hz, hg, hM3⟩ := hx
    have hs := sang_fin hr hE hv hz hg
    rw [hM3]
    refine st_aload_n dX10_beat_51 rfl ?_
    refine st_getfr dX10_beat_52 f_X10_19 (by first | assumption | rfl) (by rfl) ?_
    refine st_getfi dX10_beat_55 f_X10_144 (by first | assumption | rfl) (by rfl) ?_
    rw [show q_up (q_up (keepM M1 (-1)) 3 12 z) 3 11 (keepM M1 (-1) 3 11 + 1) 3 11 = M 3 11 + 1 by rw [keepM_f (by decide), e3]; simp [q_up]]
    exact r_i dX10_beat_58 rfl ⟨rfl, Or.inr ⟨h7, rfl, hs.2⟩⟩
  · refine st_iconst dX10_beat_11 ?_
    exact r_i dX10_beat_12 rfl ⟨rfl, Or.inl ⟨h7, rfl, rfl⟩⟩
def singOk (M : q_Mem) (p v : Int) : Prop := (0 ≤ p ∧ p < M 3 4) ∧ (0 ≤ v ∧ v ≤ 30) ∧ beatOk M
theorem C_sing {G : q_G} {d : Nat} {M : q_Mem} {N : q_MemL} {p v : Int} (hd : 6 ≤ d) (hM : NowOk M) (hp : i32 p) (hv0 : i32 v) : AC0 G d m_X10_sing [.ref 0, I p, I v] M N (CV (fun x M' N' => N' = N ∧ ((¬ singOk M p v ∧ x = I (-1) ∧ M' = M) ∨ (singOk M p v ∧ x = I (g8 (nxt M 3 (M 3 12) (oneV M p.toNat v)) p.toNat) ∧ Exc [111] (sangM M (nxt M 3 (M 3 12) (oneV M p.toNat v))) M')))) := by
  have hr := Hok.rg hM
  have hH : isHome 3 := Or.inl rfl
  obtain ⟨h0, h1, h2, h3, h4, h5, h6, h11, h12, h13, h15, -⟩ := id hM
  unfold singOk beatOk
  refine AC.of (L0 := [_, _, _]) pn_X10 (Nat.le_of_ble_eq_true rfl) rfl ?_
  refine st_aload_n dX10_sing_0 rfl ?_
  refine st_getfr dX10_sing_1 f_X10_19 (by first | assumption | rfl) (by rfl) ?_
  refine st_iload_n dX10_sing_4 rfl ?_
  refine c_V1p (d' := d - 1) dX10_sing_5 l_X10_127 k_X2_hasPerson i_X2_hasPerson (Or.inl ⟨_, _, _, _, _, (by first | assumption | rfl), by rfl⟩) (by omega) (Nat.le_of_ble_eq_true rfl) (C_hasPerson hH (by omega) hp) ?_
  refine b_eq (tgt := 29) dX10_sing_8 rfl (fun h7 => ?_) (fun h7 => ?_)
  · refine st_iconst dX10_sing_29 ?_
    exact r_i dX10_sing_30 rfl ⟨rfl, Or.inl ⟨fun z => h7 z.1, rfl, rfl⟩⟩
  · refine st_iload_n dX10_sing_11 rfl ?_
    refine c_S1p (d' := d - 1) dX10_sing_12 l_X10_216 k_X10_isVoice s_X10_isVoice (by omega) (Nat.le_of_ble_eq_true rfl) (C_isVoice hv0) ?_
    refine b_eq (tgt := 29) dX10_sing_15 rfl (fun h8 => ?_) (fun h8 => ?_)
    · refine st_iconst dX10_sing_29 ?_
      exact r_i dX10_sing_30 rfl ⟨rfl, Or.inl ⟨fun z => h8 z.2.1, rfl, rfl⟩⟩
    · refine st_aload_n dX10_sing_18 rfl ?_
      refine st_getfr dX10_sing_19 f_X10_19 (by first | assumption | rfl) (by rfl) ?_
      refine st_iconst dX10_sing_22 ?_
      refine c_V1p (d' := d - 1) dX10_sing_23 l_X10_206 k_X2_canBeat i_X2_canBeat (Or.inl ⟨_, _, _, _, _, (by first | assumption | rfl), by rfl⟩) (by omega) (Nat.le_of_ble_eq_true rfl) (C_canBeat hH h0 (by omega) (by omega)) ?_
      refine b_ne (tgt := 31) dX10_sing_26 rfl (fun h9 => ?_) (fun h9 => ?_)
      · refine st_aload_n dX10_sing_31 rfl ?_
        refine st_getfr dX10_sing_32 f_X10_19 (by first | assumption | rfl) (by rfl) ?_
        refine st_aload_n dX10_sing_35 rfl ?_
        refine st_getfr dX10_sing_36 f_X10_19 (by first | assumption | rfl) (by rfl) ?_
        refine st_getfi dX10_sing_39 f_X10_144 (by first | assumption | rfl) (by rfl) ?_
        refine st_iconst dX10_sing_42 ?_
        refine st_aload_n dX10_sing_43 rfl ?_
        refine st_getfr dX10_sing_44 f_X10_92 (by first | assumption | rfl) (by rfl) ?_
        refine c_V3v (d' := d - 1) dX10_sing_47 l_X10_154 k_X2_tell i_X2_tell (Or.inl ⟨_, _, _, _, _, (by first | assumption | rfl), by rfl⟩) (by omega) (Nat.le_of_ble_eq_true rfl) (C_tellV hH (by omega) hr sh_111 (by decide) (by decide) (by omega) (by omega)) (fun M1 N1 hx => ?_)
        obtain ⟨rfl, hE, hv, -⟩ := hx
        refine st_aload_n dX10_sing_50 rfl ?_
        refine st_getfr dX10_sing_51 f_X10_92 (by first | assumption | rfl) (by rfl) ?_
        refine st_iload_n dX10_sing_54 rfl ?_
        refine st_iload_n dX10_sing_55 rfl ?_
        refine c_S3v (d' := d - 1) dX10_sing_56 l_X10_219 k_X10_put s_X10_put (by omega) (Nat.le_of_ble_eq_true rfl) (C_putI sh_111 (by omega) (by omega)) (fun M4 N4 hx => ?_)
        obtain ⟨hM4, rfl⟩ := hx
        have hE4 : Exc [111] M M4 := hM4 ▸ hE.tr (Exc.up (by decide))
        have e3 := hE4 3 (by decide)
        have hv4 : ∀ q, q < (M 3 4).toNat → M4 111 q = oneV M p.toNat v q := by
          intro j hj
          rw [hM4]
          unfold oneV
          by_cases q1 : j = p.toNat
          · rw [if_pos q1]
            simp [q_up, q1]
          · rw [if_neg q1]
            simp only [q_up]
            rw [if_neg (by omega)]
            exact hv j hj
        have hnv : ∀ q, 0 ≤ nowV M 0 q ∧ nowV M 0 q ≤ 30 := fun q => toldV_rng hr.2.2.2.2.2.2.2.2 q
        have hSo : Sok M4 111 (M4 3 4).toNat := by
          intro j hj
          rw [e3] at hj
          rw [hv4 j hj]
          have := hnv j
          unfold oneV
          split <;> omega
        refine st_aload_n dX10_sing_59 rfl ?_
        refine st_getfr dX10_sing_60 f_X10_19 (by first | assumption | rfl) (by rfl) ?_
        refine st_iconst dX10_sing_63 ?_
        refine c_V1v (d' := d - 1) dX10_sing_64 l_X10_209 k_X2_remember i_X2_remember (Or.inl ⟨_, _, _, _, _, (by first | assumption | rfl), by rfl⟩) (by omega) (Nat.le_of_ble_eq_true rfl) (C_remember hH (by omega) (by rw [e3]; exact h15) (by omega)) (fun M2 N2 hx => ?_)
        obtain ⟨hM2, rfl⟩ := hx
        rw [show remB (remA M4 3) 3 (-1) = keepM M4 (-1) from rfl] at hM2
        rw [hM2]
        refine st_aload_n dX10_sing_67 rfl ?_
        refine st_getfr dX10_sing_68 f_X10_19 (by first | assumption | rfl) (by rfl) ?_
        refine st_aload_n dX10_sing_71 rfl ?_
        refine st_getfr dX10_sing_72 f_X10_92 (by first | assumption | rfl) (by rfl) ?_
        refine c_V1v (d' := d - 1) dX10_sing_75 l_X10_212 k_X2_move i_X2_move (Or.inl ⟨_, _, _, _, _, (by first | assumption | rfl), by rfl⟩) (by omega) (Nat.le_of_ble_eq_true rfl) (C_move hH (by omega) (keep_rg (hr.exc hE4 (by decide) (by decide) (by decide) (by decide))) sh_111 (by decide) (by rw [keepM_f (by decide), e3]; omega) (by rw [keepM_f (by decide)]; intro q hq; rw [keepM_row (by decide) (by decide)]; exact hSo q hq)) (fun M3 N3 hx => ?_)
        obtain ⟨rfl, z, hz, hg, hM3⟩ := hx
        have hs := sang_fin hr hE4 hv4 hz hg
        rw [hM3]
        refine st_aload_n dX10_sing_78 rfl ?_
        refine st_getfr dX10_sing_79 f_X10_19 (by first | assumption | rfl) (by rfl) ?_
        refine st_getfi dX10_sing_82 f_X10_138 (by first | assumption | rfl) (by rfl) ?_
        refine st_iload_n dX10_sing_85 rfl ?_
        rw [show q_up (q_up (keepM M4 (-1)) 3 12 z) 3 11 (keepM M4 (-1) 3 11 + 1) 3 12 = z by simp [q_up], show p = ((p.toNat : Nat) : Int) by omega]
        refine c_S2p (d' := d - 1) dX10_sing_86 l_X10_141 k_X10_storeyIn s_X10_storeyIn (by omega) (Nat.le_of_ble_eq_true rfl) (C_storeyIn (by omega) (by omega)) ?_
        rw [Int.toNat_natCast]
        exact r_i dX10_sing_89 rfl ⟨rfl, Or.inr ⟨⟨by omega, h8, h9⟩, by rw [hs.1], hs.2⟩⟩
      · refine st_iconst dX10_sing_29 ?_
        exact r_i dX10_sing_30 rfl ⟨rfl, Or.inl ⟨fun z => h9 z.2.2, rfl, rfl⟩⟩


/-! faults and digits on both sides -/
/-- the first fault counts -/
def flt (f a k : Int) : Int := if f = 0 then 1 + 8 * a + k else f
theorem C_fail {G : q_G} {d : Nat} {M : q_Mem} {N : q_MemL} {a k : Int} (h3 : i32 (M 1 3)) : AC0 G d m_X8_fail [.ref 1, I a, I k] M N (CN (fun M' N' => N' = N ∧ M' = q_up M 1 3 (flt (M 1 3) a k))) := by
  unfold i32 at h3
  refine AC.of (L0 := [_, _, _]) pn_X8 (Nat.le_of_ble_eq_true rfl) rfl ?_
  refine st_aload_n dX8_fail_0 rfl ?_
  refine st_getfi dX8_fail_1 f_X8_22 (by first | with_reducible assumption | rfl) (by rfl) ?_
  refine st_if_ne (tgt := 19) dX8_fail_4 (by omega) rfl (fun h => ?_) (fun h => ?_)
  · skip
    refine r_v dX8_fail_19 rfl ⟨rfl, ?_⟩
    unfold flt
    rw [if_neg h]
    exact (q_up_id rfl).symm
  · refine st_aload_n dX8_fail_7 rfl ?_
    refine st_iconst dX8_fail_8 ?_
    refine st_bipush dX8_fail_9 (by decide) ?_
    refine st_iload_n dX8_fail_11 rfl ?_
    refine st_imul dX8_fail_12 ?_
    refine st_iadd dX8_fail_13 ?_
    refine st_iload_n dX8_fail_14 rfl ?_
    refine st_iadd dX8_fail_15 ?_
    refine st_putfi dX8_fail_16 w_X8_22 (by first | with_reducible assumption | rfl) (by rfl) rfl rfl ?_
    refine r_v dX8_fail_19 rfl ⟨rfl, ?_⟩
    unfold flt
    rw [if_pos (by omega)]
theorem C_failed {G : q_G} {d : Nat} {M : q_Mem} {N : q_MemL} (h3 : i32 (M 1 3)) : AC0 G d m_X8_failed [.ref 1] M N (CV (PU (Bz (¬ M 1 3 = 0)) M N)) := by
  unfold i32 at h3
  refine AC.of (L0 := [_]) pn_X8 (Nat.le_of_ble_eq_true rfl) rfl ?_
  refine st_aload_n dX8_failed_0 rfl ?_
  refine st_getfi dX8_failed_1 f_X8_22 (by first | with_reducible assumption | rfl) (by rfl) ?_
  refine st_if_eq (tgt := 11) dX8_failed_4 (by omega) rfl (fun h => ?_) (fun h => ?_)
  · refine st_iconst dX8_failed_11 ?_
    exact r_z dX8_failed_12 rfl (by first | omega | (split <;> decide)) ⟨bz0 (by omega), rfl, rfl⟩
  · refine st_iconst dX8_failed_7 ?_
    refine st_goto (tgt := 12) dX8_failed_8 rfl ?_
    exact r_z dX8_failed_12 rfl (by first | omega | (split <;> decide)) ⟨bz1 h, rfl, rfl⟩
theorem C_startReading {G : q_G} {d : Nat} {M : q_Mem} {N : q_MemL} : AC0 G d m_X8_startReading [.ref 1] M N (CN (fun M' N' => N' = N ∧ M' = q_up (q_up M 1 2 0) 1 3 0)) := by
  refine AC.of (L0 := [_]) pn_X8 (Nat.le_of_ble_eq_true rfl) rfl ?_
  refine st_aload_n dX8_startReading_0 rfl ?_
  refine st_iconst dX8_startReading_1 ?_
  refine st_putfi dX8_startReading_2 w_X8_19 (by first | with_reducible assumption | rfl) (by rfl) rfl rfl ?_
  refine st_aload_n dX8_startReading_5 rfl ?_
  refine st_iconst dX8_startReading_6 ?_
  refine st_putfi dX8_startReading_7 w_X8_22 (by first | with_reducible assumption | rfl) (by rfl) rfl rfl ?_
  refine r_v dX8_startReading_10 rfl ⟨rfl, rfl⟩
theorem C_digitIsNext {G : q_G} {d : Nat} {M : q_Mem} {N : q_MemL} {n p : Nat} (hd : 2 ≤ d) (hn : M 1 1 = (n : Int)) (hn2 : n ≤ 400) (hp : M 1 2 = (p : Int)) (hp2 : p < 1000) : AC0 G d m_X8_digitIsNext [.ref 1] M N (CV (fun x M' N' => N' = N ∧ x = Bz (48 ≤ bytA (M 2) n (skip (M 2) n p : Nat) ∧ bytA (M 2) n (skip (M 2) n p : Nat) ≤ 57) ∧ M' = q_up M 1 2 ((skip (M 2) n p : Nat) : Int))) := by
  have hb := bytA_rng (M 2) n (skip (M 2) n p : Nat)
  refine AC.of (L0 := [_, none]) pn_X8 (Nat.le_of_ble_eq_true rfl) rfl ?_
  refine st_aload_n dX8_digitIsNext_0 rfl ?_
  refine c_V0i (d' := d - 1) dX8_digitIsNext_1 l_X8_29 k_X8_peek i_X8_peek (Or.inl ⟨_, _, _, _, _, (by first | with_reducible assumption | rfl), by rfl⟩) (by omega) (Nat.le_of_ble_eq_true rfl) (C_peek (by omega) hn hn2 hp hp2) (fun x M1 N1 hx => ?_)
  obtain ⟨rfl, rfl, rfl⟩ := hx
  refine st_istore_n (L' := [_, _]) dX8_digitIsNext_4 (by decide) rfl rfl ?_
  refine st_iload_n dX8_digitIsNext_5 rfl ?_
  refine st_bipush dX8_digitIsNext_6 (by decide) ?_
  refine st_icmp_lt (tgt := 21) dX8_digitIsNext_8 (by omega) (by omega) rfl (fun h => ?_) (fun h => ?_)
  · refine st_iconst dX8_digitIsNext_21 ?_
    exact r_z dX8_digitIsNext_22 rfl (by first | omega | (split <;> decide)) ⟨rfl, bz0 (by omega), rfl⟩
  · refine st_iload_n dX8_digitIsNext_11 rfl ?_
    refine st_bipush dX8_digitIsNext_12 (by decide) ?_
    refine st_icmp_gt (tgt := 21) dX8_digitIsNext_14 (by omega) (by omega) rfl (fun h2 => ?_) (fun h2 => ?_)
    · refine st_iconst dX8_digitIsNext_21 ?_
      exact r_z dX8_digitIsNext_22 rfl (by first | omega | (split <;> decide)) ⟨rfl, bz0 (by omega), rfl⟩
    · refine st_iconst dX8_digitIsNext_17 ?_
      refine st_goto (tgt := 22) dX8_digitIsNext_18 rfl ?_
      exact r_z dX8_digitIsNext_22 rfl (by first | omega | (split <;> decide)) ⟨rfl, bz1 (by omega), rfl⟩
theorem C_rfails {G : q_G} {d : Nat} {M : q_Mem} {N : q_MemL} {a k : Int} (h3 : i32 (M 112 22)) : AC0 G d m_X11_fails [.ref 112, I k, I a] M N (CN (fun M' N' => N' = N ∧ M' = q_up M 112 22 (flt (M 112 22) a k))) := by
  unfold i32 at h3
  refine AC.of (L0 := [_, _, _]) pn_X11 (Nat.le_of_ble_eq_true rfl) rfl ?_
  refine st_aload_n dX11_fails_0 rfl ?_
  refine st_aload_n dX11_fails_1 rfl ?_
  refine st_getfi dX11_fails_2 f_X11_220 (by first | with_reducible assumption | rfl) (by rfl) ?_
  refine st_if_ne (tgt := 19) dX11_fails_5 (by omega) rfl (fun h => ?_) (fun h => ?_)
  · refine st_aload_n dX11_fails_19 rfl ?_
    refine st_getfi dX11_fails_20 f_X11_220 (by first | with_reducible assumption | rfl) (by rfl) ?_
    refine st_putfi dX11_fails_23 w_X11_220 (by first | with_reducible assumption | rfl) (by rfl) rfl rfl ?_
    refine r_v dX11_fails_26 rfl ⟨rfl, ?_⟩
    unfold flt
    rw [if_neg h]
  · refine st_iconst dX11_fails_8 ?_
    refine st_bipush dX11_fails_9 (by decide) ?_
    refine st_iload_n dX11_fails_11 rfl ?_
    refine st_imul dX11_fails_12 ?_
    refine st_iadd dX11_fails_13 ?_
    refine st_iload_n dX11_fails_14 rfl ?_
    refine st_iadd dX11_fails_15 ?_
    refine st_goto (tgt := 23) dX11_fails_16 rfl ?_
    refine st_putfi dX11_fails_23 w_X11_220 (by first | with_reducible assumption | rfl) (by rfl) rfl rfl ?_
    refine r_v dX11_fails_26 rfl ⟨rfl, ?_⟩
    unfold flt
    rw [if_pos (by omega)]
theorem C_sign {G : q_G} {d : Nat} {M : q_Mem} {N : q_MemL} {n p : Nat} (hn : M 112 20 = (n : Int)) (hn2 : n ≤ 400) (hp : M 112 21 = (p : Int)) (hp2 : p < 10000) : AC0 G d m_X11_sign [.ref 112] M N (CV (PU (I (bytA (M 132) n p)) M N)) := by
  refine AC.of (L0 := [_]) pn_X11 (Nat.le_of_ble_eq_true rfl) rfl ?_
  refine st_aload_n dX11_sign_0 rfl ?_
  refine st_getfi dX11_sign_1 f_X11_223 (by first | with_reducible assumption | rfl) (by rfl) ?_
  rw [hp]
  refine st_aload_n dX11_sign_4 rfl ?_
  refine st_getfi dX11_sign_5 f_X11_194 (by first | with_reducible assumption | rfl) (by rfl) ?_
  rw [hn]
  refine st_icmp_ge (tgt := 27) dX11_sign_8 (by omega) (by omega) rfl (fun h => ?_) (fun h => ?_)
  · refine st_iconst dX11_sign_27 ?_
    refine r_i dX11_sign_28 rfl ⟨by rw [bytA, if_neg (by omega)], rfl, rfl⟩
  · refine st_aload_n dX11_sign_11 rfl ?_
    refine st_getfr dX11_sign_12 f_X11_71 (by first | with_reducible assumption | rfl) (by rfl) ?_
    refine st_aload_n dX11_sign_15 rfl ?_
    refine st_getfi dX11_sign_16 f_X11_223 (by first | with_reducible assumption | rfl) (by rfl) ?_
    rw [hp]
    refine st_bald dX11_sign_19 (by first | with_reducible assumption | rfl) (by omega) (by omega) ?_ (by decide)
    refine st_sipush dX11_sign_20 (by decide) ?_
    refine st_iand dX11_sign_23 ?_
    rw [z_255]
    refine st_goto (tgt := 28) dX11_sign_24 rfl ?_
    refine r_i dX11_sign_28 rfl ⟨by rw [bytA, if_pos (by omega)], rfl, rfl⟩
theorem C_isDigit {G : q_G} {d : Nat} {M : q_Mem} {N : q_MemL} {n p : Nat} (hd : 1 ≤ d) (hn : M 112 20 = (n : Int)) (hn2 : n ≤ 400) (hp : M 112 21 = (p : Int)) (hp2 : p < 10000) : AC0 G d m_X11_isDigit [.ref 112] M N (CV (PU (Bz (48 ≤ bytA (M 132) n p ∧ bytA (M 132) n p ≤ 57)) M N)) := by
  have hb := bytA_rng (M 132) n p
  refine AC.of (L0 := [_]) pn_X11 (Nat.le_of_ble_eq_true rfl) rfl ?_
  refine st_aload_n dX11_isDigit_0 rfl ?_
  refine c_V0p (d' := d - 1) dX11_isDigit_1 l_X11_226 k_X11_sign i_X11_sign (Or.inl ⟨_, _, _, _, _, (by first | with_reducible assumption | rfl), by rfl⟩) (by omega) (Nat.le_of_ble_eq_true rfl) (C_sign hn hn2 hp hp2) ?_
  refine st_i2lK dX11_isDigit_4 (by omega) ?_
  refine st_ldc2 dX11_isDigit_5 l_X11_230 ?_
  refine AW.topv (show _ = J 48 from rfl) ?_
  refine st_ldc2 dX11_isDigit_8 l_X11_232 ?_
  refine AW.topv (show _ = J 57 from rfl) ?_
  refine c_S3p (d' := d - 1) dX11_isDigit_11 l_X11_182 k_X11_in s_X11_in (by omega) (Nat.le_of_ble_eq_true rfl) (C_in (by omega) (by decide) (by decide)) ?_
  refine r_z dX11_isDigit_14 rfl (by first | omega | (split <;> decide)) ⟨rfl, rfl, rfl⟩
theorem C_blanks {G : q_G} {d : Nat} {M : q_Mem} {N : q_MemL} {n p : Nat} (hd : 1 ≤ d) (hn : M 112 20 = (n : Int)) (hn2 : n ≤ 400) (hp : M 112 21 = (p : Int)) (hp2 : p < 1000) : AC0 G d m_X11_blanks [.ref 112] M N (CN (fun M' N' => N' = N ∧ M' = q_up M 112 21 ((skip (M 132) n p : Nat) : Int))) := by
  have loop : ∀ (m q : Nat) (M1 : q_Mem), q + m = max n p → p ≤ q → M1 = q_up M 112 21 (q : Int) → skB (M 132) n (n - q) q = skip (M 132) n p → AW0 G d m_X11_blanks 0 [some (.ref 112)] [] M1 N (CN (fun M' N' => N' = N ∧ M' = q_up M 112 21 ((skip (M 132) n p : Nat) : Int))) := by
    intro m
    induction m with
    | zero =>
      intro q M1 hq hpq hM1 hs
      have e0 : n - q = 0 := by omega
      rw [e0] at hs
      have h2 : M1 112 21 = (q : Int) := by rw [hM1]; simp [q_up]
      have h1 : M1 112 20 = (n : Int) := by rw [hM1]; simp [q_up, hn]
      have hb : bytA (M1 132) n q = -1 := by rw [bytA, if_neg (by omega)]
      refine st_aload_n dX11_blanks_0 rfl ?_
      refine c_V0p (d' := d - 1) dX11_blanks_1 l_X11_226 k_X11_sign i_X11_sign (Or.inl ⟨_, _, _, _, _, (by first | with_reducible assumption | rfl), by rfl⟩) (by omega) (Nat.le_of_ble_eq_true rfl) (C_sign h1 hn2 h2 (by omega)) ?_
      rw [hb]
      refine st_bipush dX11_blanks_4 (by decide) ?_
      refine st_icmp_ne (tgt := 22) dX11_blanks_6 (by omega) (by omega) rfl (fun c => ?_) (fun c => ?_)
      · skip
        refine r_v dX11_blanks_22 rfl ⟨rfl, ?_⟩
        rw [hM1, ← hs]
        rfl
      · skip
        omega
    | succ m ih =>
      intro q M1 hq hpq hM1 hs
      have h2 : M1 112 21 = (q : Int) := by rw [hM1]; simp [q_up]
      have h1 : M1 112 20 = (n : Int) := by rw [hM1]; simp [q_up, hn]
      have h3 : M1 132 = M 132 := by rw [hM1]; exact q_up_ne (by decide)
      have hb := bytA_rng (M 132) n q
      refine st_aload_n dX11_blanks_0 rfl ?_
      refine c_V0p (d' := d - 1) dX11_blanks_1 l_X11_226 k_X11_sign i_X11_sign (Or.inl ⟨_, _, _, _, _, (by first | with_reducible assumption | rfl), by rfl⟩) (by omega) (Nat.le_of_ble_eq_true rfl) (C_sign h1 hn2 h2 (by omega)) ?_
      rw [h3]
      refine st_bipush dX11_blanks_4 (by decide) ?_
      by_cases hqn : n ≤ q
      · have e0 : n - q = 0 := by omega
        rw [e0] at hs
        have hb1 : bytA (M 132) n q = -1 := by rw [bytA, if_neg (by omega)]
        refine st_icmp_ne (tgt := 22) dX11_blanks_6 (by omega) (by omega) rfl (fun c => ?_) (fun c => ?_)
        · skip
          refine r_v dX11_blanks_22 rfl ⟨rfl, ?_⟩
          rw [hM1, ← hs]
          rfl
        · skip
          omega
      · rw [show n - q = n - (q + 1) + 1 by omega] at hs
        unfold skB at hs
        refine st_icmp_ne (tgt := 22) dX11_blanks_6 (by omega) (by omega) rfl (fun c => ?_) (fun c => ?_)
        · skip
          rw [if_neg c] at hs
          refine r_v dX11_blanks_22 rfl ⟨rfl, ?_⟩
          rw [hM1, ← hs]
        · refine st_aload_n dX11_blanks_9 rfl ?_
          refine st_dup dX11_blanks_10 rfl ?_
          refine st_getfi dX11_blanks_11 f_X11_223 (by first | with_reducible assumption | rfl) (by rfl) ?_
          rw [if_pos c] at hs
          rw [h2]
          refine st_iconst dX11_blanks_14 ?_
          refine st_iadd dX11_blanks_15 ?_
          refine st_putfi dX11_blanks_16 w_X11_223 (by first | with_reducible assumption | rfl) (by rfl) rfl rfl ?_
          refine st_goto (tgt := 0) dX11_blanks_19 rfl ?_
          refine AW.to (ih (q + 1) (q_up M 112 21 ((q + 1 : Nat) : Int)) (by omega) (by omega) rfl hs) (h2 := rfl) (h4 := ?_)
          rw [hM1]
          funext a j
          simp [q_up]
          split <;> rfl
  refine AC.of (L0 := [_]) pn_X11 (Nat.le_of_ble_eq_true rfl) rfl ?_
  exact loop (max n p - p) p M (by omega) (Nat.le_refl _) (q_up_id hp.symm).symm rfl


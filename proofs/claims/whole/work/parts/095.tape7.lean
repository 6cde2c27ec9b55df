/-! the reference: amounts -/
theorem C_amount {G : q_G} {d : Nat} {M : q_Mem} {N : q_MemL} {n p : Nat} {lo hi : Int} (hd : 3 ≤ d) (hn : M 112 20 = (n : Int)) (hn2 : n ≤ 400) (hp : M 112 21 = (p : Int)) (hp2 : p < 1000) (h3 : M 112 22 = 0) (hlo : i32 lo) (hhi : i32 hi) : AC0 G d m_X11_amount [.ref 112, I lo, I hi] M N (CV (fun x M' N' => N' = N ∧ M' = q_up (q_up M 112 21 ((skip (M 132) n p + numK (M 132) n (skip (M 132) n p) : Nat) : Int)) 112 22 (numF (M 132) n (skip (M 132) n p) lo hi) ∧ x = I (numV (M 132) n (skip (M 132) n p)) ∧ dgOk (numK (M 132) n (skip (M 132) n p)) (numV (M 132) n (skip (M 132) n p)))) := by
  unfold i32 at hlo hhi
  have hsk := skip_le (M 132) n p
  refine AC.of (L0 := [_, _, _, none, none]) pn_X11 (Nat.le_of_ble_eq_true rfl) rfl ?_
  refine st_aload_n dX11_amount_0 rfl ?_
  refine c_V0v (d' := d - 1) dX11_amount_1 l_X11_243 k_X11_blanks i_X11_blanks (Or.inl ⟨_, _, _, _, _, (by first | with_reducible assumption | rfl), by rfl⟩) (by omega) (Nat.le_of_ble_eq_true rfl) (C_blanks (by omega) hn hn2 hp hp2) (fun M1 N1 hx => ?_)
  obtain ⟨rfl, hM1⟩ := hx
  have hq2 : skip (M 132) n p < 1000 := by omega
  generalize skip (M 132) n p = q at *
  have h1 : M1 112 20 = (n : Int) := by rw [hM1]; simp [q_up, hn]
  have h2 : M1 112 21 = (q : Int) := by rw [hM1]; simp [q_up]
  have h22 : M1 112 22 = 0 := by rw [hM1]; simp [q_up, h3]
  have hr : M1 132 = M 132 := by rw [hM1]; exact q_up_ne (by decide)
  refine st_aload_n dX11_amount_4 rfl ?_
  refine st_getfi dX11_amount_5 f_X11_223 (by first | with_reducible assumption | rfl) (by rfl) ?_
  rw [h2]
  refine st_istore_n (L' := [_, _, _, _, _]) dX11_amount_8 (by decide) rfl rfl ?_
  refine st_aload_n dX11_amount_9 rfl ?_
  refine st_getfi dX11_amount_10 f_X11_220 (by first | with_reducible assumption | rfl) (by rfl) ?_
  rw [h22]
  refine st_if_ne (tgt := 26) dX11_amount_13 (by omega) rfl (fun c => ?_) (fun c => ?_)
  · skip
    omega
  · refine st_aload_n dX11_amount_16 rfl ?_
    refine st_ldcw dX11_amount_17 l_X11_266 ?_
    refine AW.topv (show _ = I 99999 from rfl) ?_
    refine c_V1i (d' := d - 1) dX11_amount_20 l_X11_267 k_X11_digits i_X11_digits (Or.inl ⟨_, _, _, _, _, (by first | with_reducible assumption | rfl), by rfl⟩) (by omega) (Nat.le_of_ble_eq_true rfl) (C_digits (by omega) h1 hn2 h2 hq2 h22) (fun x M2 N2 hx => ?_)
    obtain ⟨rfl, hM2, rfl, hok⟩ := hx
    rw [hr] at hM2 hok
    rw [hr]
    have hvr := hok.1
    have hM2' : M2 = q_up (q_up M 112 21 ((q + numK (M 132) n q : Nat) : Int)) 112 22 (numF (M 132) n q 0 99999) := by
      rw [hM2, hM1]
      funext a j
      simp only [q_up]
      split
      · rfl
      · split <;> rfl
    have h222 : M2 112 22 = numF (M 132) n q 0 99999 := by rw [hM2']; simp [q_up]
    have hF0 : i32 (numF (M 132) n q 0 99999) := by
      unfold numF i32
      split
      · omega
      · split <;> omega
    unfold i32 at hF0
    refine st_goto (tgt := 27) dX11_amount_23 rfl ?_
    refine st_istore (L' := [_, _, _, _, _]) dX11_amount_27 (by decide) rfl rfl ?_
    refine st_aload_n dX11_amount_29 rfl ?_
    refine st_getfi dX11_amount_30 f_X11_220 (by first | with_reducible assumption | rfl) (by rfl) ?_
    rw [h222]
    refine st_if_ne (tgt := 55) dX11_amount_33 (by omega) rfl (fun c2 => ?_) (fun c2 => ?_)
    · refine st_iload dX11_amount_55 rfl ?_
      refine r_i dX11_amount_57 rfl ⟨rfl, ?_, rfl, hok⟩
      rw [hM2']
      congr 1
      unfold numF at *
      by_cases k0 : numK (M 132) n q = 0
      · rw [if_pos k0, if_pos k0]
      · rw [if_neg k0] at c2 ⊢
        rw [if_neg k0]
        by_cases k5 : 5 < numK (M 132) n q
        · rw [if_pos (Or.inl k5), if_pos (Or.inl k5)]
        · rw [if_neg (by omega)] at c2
          exact absurd rfl c2
    · refine st_iload dX11_amount_36 rfl ?_
      refine st_i2lK dX11_amount_38 (by omega) ?_
      refine st_iload_n dX11_amount_39 rfl ?_
      refine st_i2lK dX11_amount_40 (by omega) ?_
      refine st_iload_n dX11_amount_41 rfl ?_
      refine st_i2lK dX11_amount_42 (by omega) ?_
      refine c_S3p (d' := d - 1) dX11_amount_43 l_X11_182 k_X11_in s_X11_in (by omega) (Nat.le_of_ble_eq_true rfl) (C_in (by omega) (by omega) (by omega)) ?_
      have hF : numF (M 132) n q lo hi = if lo ≤ numV (M 132) n q ∧ numV (M 132) n q ≤ hi then 0 else 2 + 8 * (q : Int) := by
        have c3 : numF (M 132) n q 0 99999 = 0 := by omega
        unfold numF at *
        by_cases k0 : numK (M 132) n q = 0
        · rw [if_pos k0] at c3
          omega
        · rw [if_neg k0] at c3 ⊢
          by_cases k5 : 5 < numK (M 132) n q
          · rw [if_pos (Or.inl k5)] at c3
            omega
          · by_cases c4 : lo ≤ numV (M 132) n q ∧ numV (M 132) n q ≤ hi
            · rw [if_neg (by omega), if_pos c4]
            · rw [if_pos (by omega), if_neg c4]
      rw [hF]
      refine b_ne (tgt := 55) dX11_amount_46 rfl (fun c4 => ?_) (fun c4 => ?_)
      · refine st_iload dX11_amount_55 rfl ?_
        refine r_i dX11_amount_57 rfl ⟨rfl, ?_, rfl, hok⟩
        rw [if_pos c4, hM2', show numF (M 132) n q 0 99999 = 0 by omega]
      · refine st_aload_n dX11_amount_49 rfl ?_
        refine st_iconst dX11_amount_50 ?_
        refine st_iload_n dX11_amount_51 rfl ?_
        refine c_V2v (d' := d - 1) dX11_amount_52 l_X11_259 k_X11_fails i_X11_fails (Or.inl ⟨_, _, _, _, _, (by first | with_reducible assumption | rfl), by rfl⟩) (by omega) (Nat.le_of_ble_eq_true rfl) (C_rfails (by rw [h222]; unfold i32; omega)) (fun M3 N3 hx => ?_)
        obtain ⟨rfl, rfl⟩ := hx
        refine st_iload dX11_amount_55 rfl ?_
        refine r_i dX11_amount_57 rfl ⟨rfl, ?_, rfl, hok⟩
        rw [if_neg c4, h222, show numF (M 132) n q 0 99999 = 0 by omega, flt, if_pos rfl, hM2']
        funext a j
        simp only [q_up]
        split
        · omega
        · rfl


/-! the reference: numbers -/
theorem C_digits {G : q_G} {d : Nat} {M : q_Mem} {N : q_MemL} {n q : Nat} (hd : 2 ≤ d) (hn : M 112 20 = (n : Int)) (hn2 : n ≤ 400) (hp : M 112 21 = (q : Int)) (hp2 : q < 1000) (h3 : M 112 22 = 0) : AC0 G d m_X11_digits [.ref 112, I 99999] M N (CV (fun x M' N' => N' = N ∧ M' = q_up (q_up M 112 21 ((q + numK (M 132) n q : Nat) : Int)) 112 22 (numF (M 132) n q 0 99999) ∧ x = I (numV (M 132) n q) ∧ dgOk (numK (M 132) n q) (numV (M 132) n q))) := by
  have hb0 := bytA_rng (M 132) n (q : Int)
  -- behind the digits
  have tl : ∀ (k : Nat) (v : Int) (M1 : q_Mem), ¬ k = 0 → dgOk k v → k ≤ 400 → M1 = q_up M 112 21 ((q + k : Nat) : Int) → (k, v) = dg (M 132) n (n - q) q 0 0 → AW0 G d m_X11_digits 72 [some (.ref 112), some (I 99999), some (I q), some (I v)] [] M1 N (CV (fun x M' N' => N' = N ∧ M' = q_up (q_up M 112 21 ((q + numK (M 132) n q : Nat) : Int)) 112 22 (numF (M 132) n q 0 99999) ∧ x = I (numV (M 132) n q) ∧ dgOk (numK (M 132) n q) (numV (M 132) n q))) := by
    intro k v M1 hk0 hok hk4 hM1 hD
    have hk : numK (M 132) n q = k := by unfold numK; rw [← hD]
    have hv : numV (M 132) n q = v := by unfold numV; rw [← hD]
    have h31 : M1 112 22 = 0 := by rw [hM1]; simp [q_up, h3]
    have h2 : M1 112 21 = ((q + k : Nat) : Int) := by rw [hM1]; simp [q_up]
    unfold numF
    rw [hk, hv, if_neg hk0]
    have hvr := hok.1
    refine st_aload_n dX11_digits_72 rfl ?_
    refine st_getfi dX11_digits_73 f_X11_223 (by first | with_reducible assumption | rfl) (by rfl) ?_
    rw [h2]
    refine st_iload_n dX11_digits_76 rfl ?_
    refine st_isub dX11_digits_77 ?_
    refine st_iconst dX11_digits_78 ?_
    refine st_icmp_gt (tgt := 87) dX11_digits_79 (by omega) (by omega) rfl (fun c1 => ?_) (fun c1 => ?_)
    · refine st_aload_n dX11_digits_87 rfl ?_
      refine st_iconst dX11_digits_88 ?_
      refine st_iload_n dX11_digits_89 rfl ?_
      refine c_V2v (d' := d - 1) dX11_digits_90 l_X11_259 k_X11_fails i_X11_fails (Or.inl ⟨_, _, _, _, _, (by first | with_reducible assumption | rfl), by rfl⟩) (by omega) (Nat.le_of_ble_eq_true rfl) (C_rfails (by rw [h31]; unfold i32; omega)) (fun M2 N2 hx => ?_)
      obtain ⟨rfl, rfl⟩ := hx
      refine st_iload_n dX11_digits_93 rfl ?_
      exact r_i dX11_digits_94 rfl ⟨rfl, by rw [if_pos (by omega), hM1, show flt (q_up M 112 21 ((q + k : Nat) : Int) 112 22) (q : Int) 1 = 2 + 8 * (q : Int) by rw [← hM1, h31, flt, if_pos rfl]; omega], rfl, hok⟩
    · refine st_iload_n dX11_digits_82 rfl ?_
      refine st_iload_n dX11_digits_83 rfl ?_
      refine st_icmp_le (tgt := 93) dX11_digits_84 (by omega) (by omega) rfl (fun c2 => ?_) (fun c2 => ?_)
      · refine st_iload_n dX11_digits_93 rfl ?_
        refine r_i dX11_digits_94 rfl ⟨rfl, ?_, rfl, hok⟩
        rw [if_neg (by omega), hM1, q_up_id (M := q_up M 112 21 ((q + k : Nat) : Int)) (a := 112) (i := 22) (by rw [← hM1, h31])]
      · skip
        omega
  have loop : ∀ (m k : Nat) (v : Int) (M1 : q_Mem), q + k + m = max n q → ((48 ≤ bytA (M 132) n ((q + k : Nat) : Int) ∧ bytA (M 132) n ((q + k : Nat) : Int) ≤ 57) ∨ ¬ k = 0) → dgOk k v → M1 = q_up M 112 21 ((q + k : Nat) : Int) → dg (M 132) n (n - (q + k)) (q + k) k v = dg (M 132) n (n - q) q 0 0 → AW0 G d m_X11_digits 25 [some (.ref 112), some (I 99999), some (I q), some (I v)] [] M1 N (CV (fun x M' N' => N' = N ∧ M' = q_up (q_up M 112 21 ((q + numK (M 132) n q : Nat) : Int)) 112 22 (numF (M 132) n q 0 99999) ∧ x = I (numV (M 132) n q) ∧ dgOk (numK (M 132) n q) (numV (M 132) n q))) := by
    intro m
    induction m with
    | zero =>
      intro k v M1 hm hkk hok hM1 hD
      have e0 : n - (q + k) = 0 := by omega
      rw [e0] at hD
      have h2 : M1 112 21 = ((q + k : Nat) : Int) := by rw [hM1]; simp [q_up]
      have h1 : M1 112 20 = (n : Int) := by rw [hM1]; simp [q_up, hn]
      have hb : bytA (M 132) n ((q + k : Nat) : Int) = -1 := by rw [bytA, if_neg (by omega)]
      have hr : M1 132 = M 132 := by rw [hM1]; exact q_up_ne (by decide)
      refine st_aload_n dX11_digits_25 rfl ?_
      refine c_V0p (d' := d - 1) dX11_digits_26 l_X11_263 k_X11_isDigit i_X11_isDigit (Or.inl ⟨_, _, _, _, _, (by first | with_reducible assumption | rfl), by rfl⟩) (by omega) (Nat.le_of_ble_eq_true rfl) (C_isDigit (by omega) h1 hn2 h2 (by omega)) ?_
      rw [hr]
      refine b_eq (tgt := 72) dX11_digits_29 rfl (fun c => ?_) (fun c => ?_)
      · skip
        exact tl k v M1 (by omega) hok (by omega) hM1 hD
      · skip
        omega
    | succ m ih =>
      intro k v M1 hm hkk hok hM1 hD
      have h2 : M1 112 21 = ((q + k : Nat) : Int) := by rw [hM1]; simp [q_up]
      have h1 : M1 112 20 = (n : Int) := by rw [hM1]; simp [q_up, hn]
      have hr : M1 132 = M 132 := by rw [hM1]; exact q_up_ne (by decide)
      have hb := bytA_rng (M 132) n ((q + k : Nat) : Int)
      refine st_aload_n dX11_digits_25 rfl ?_
      refine c_V0p (d' := d - 1) dX11_digits_26 l_X11_263 k_X11_isDigit i_X11_isDigit (Or.inl ⟨_, _, _, _, _, (by first | with_reducible assumption | rfl), by rfl⟩) (by omega) (Nat.le_of_ble_eq_true rfl) (C_isDigit (by omega) h1 hn2 h2 (by omega)) ?_
      rw [hr]
      by_cases hqn : n ≤ q + k
      · omega
      rw [show n - (q + k) = n - (q + (k + 1)) + 1 by omega, dg_s] at hD
      refine b_eq (tgt := 72) dX11_digits_29 rfl (fun c => ?_) (fun c => ?_)
      · skip
        rw [if_neg c] at hD
        exact tl k v M1 (by omega) hok (by omega) hM1 hD
      · skip
        rw [if_pos c] at hD
        have hok2 := hok.step c
        have nx : ∀ (v' : Int), v' = (if k < 5 then v * 10 + bytA (M 132) n ((q + k : Nat) : Int) - 48 else v) → AW0 G d m_X11_digits 58 [some (.ref 112), some (I 99999), some (I q), some (I v)] [I v'] M1 N (CV (fun x M' N' => N' = N ∧ M' = q_up (q_up M 112 21 ((q + numK (M 132) n q : Nat) : Int)) 112 22 (numF (M 132) n q 0 99999) ∧ x = I (numV (M 132) n q) ∧ dgOk (numK (M 132) n q) (numV (M 132) n q))) := by
          intro v' hv'
          rw [← hv'] at hD hok2
          refine st_istore_n (L' := [_, _, _, _]) dX11_digits_58 (by decide) rfl rfl ?_
          refine st_aload_n dX11_digits_59 rfl ?_
          refine st_dup dX11_digits_60 rfl ?_
          refine st_getfi dX11_digits_61 f_X11_223 (by first | with_reducible assumption | rfl) (by rfl) ?_
          rw [h2]
          refine st_iconst dX11_digits_64 ?_
          refine st_iadd dX11_digits_65 ?_
          refine st_putfi dX11_digits_66 w_X11_223 (by first | with_reducible assumption | rfl) (by rfl) rfl rfl ?_
          refine st_goto (tgt := 25) dX11_digits_69 rfl ?_
          refine AW.to (ih (k + 1) v' (q_up M 112 21 ((q + (k + 1) : Nat) : Int)) (by omega) (Or.inr (by omega)) hok2 rfl hD) (h2 := by simp) (h4 := ?_)
          rw [hM1]
          funext a j
          simp only [q_up]
          split
          · omega
          · rfl
        refine st_aload_n dX11_digits_32 rfl ?_
        refine st_getfi dX11_digits_33 f_X11_223 (by first | with_reducible assumption | rfl) (by rfl) ?_
        rw [h2]
        refine st_iload_n dX11_digits_36 rfl ?_
        refine st_isub dX11_digits_37 ?_
        refine st_iconst dX11_digits_38 ?_
        refine st_icmp_ge (tgt := 57) dX11_digits_39 (by omega) (by omega) rfl (fun c4 => ?_) (fun c4 => ?_)
        · refine st_iload_n dX11_digits_57 rfl ?_
          exact nx v (by rw [if_neg (by omega)])
        · refine st_bipush dX11_digits_42 (by decide) ?_
          refine st_iload_n dX11_digits_44 rfl ?_
          refine st_imul dX11_digits_45 ?_
          refine st_aload_n dX11_digits_46 rfl ?_
          refine c_V0p (d' := d - 1) dX11_digits_47 l_X11_226 k_X11_sign i_X11_sign (Or.inl ⟨_, _, _, _, _, (by first | with_reducible assumption | rfl), by rfl⟩) (by omega) (Nat.le_of_ble_eq_true rfl) (C_sign h1 hn2 h2 (by omega)) ?_
          rw [hr]
          refine st_iadd dX11_digits_50 ?_
          refine st_bipush dX11_digits_51 (by decide) ?_
          refine st_isub dX11_digits_53 ?_
          refine st_goto (tgt := 58) dX11_digits_54 rfl ?_
          refine AW.to (nx _ rfl) (h3 := ?_)
          rw [if_pos (by omega), show (10 : Int) * v = v * 10 by omega]
  refine AC.of (L0 := [_, _, none, none]) pn_X11 (Nat.le_of_ble_eq_true rfl) rfl ?_
  refine st_aload_n dX11_digits_0 rfl ?_
  refine c_V0p (d' := d - 1) dX11_digits_1 l_X11_263 k_X11_isDigit i_X11_isDigit (Or.inl ⟨_, _, _, _, _, (by first | with_reducible assumption | rfl), by rfl⟩) (by omega) (Nat.le_of_ble_eq_true rfl) (C_isDigit (by omega) hn hn2 hp (by omega)) ?_
  refine b_ne (tgt := 18) dX11_digits_4 rfl (fun c => ?_) (fun c => ?_)
  · refine st_aload_n dX11_digits_18 rfl ?_
    refine st_getfi dX11_digits_19 f_X11_223 (by first | with_reducible assumption | rfl) (by rfl) ?_
    rw [hp]
    refine st_istore_n (L' := [_, _, _, _]) dX11_digits_22 (by decide) rfl rfl ?_
    refine st_iconst dX11_digits_23 ?_
    refine st_istore_n (L' := [_, _, _, _]) dX11_digits_24 (by decide) rfl rfl ?_
    exact AW.to (loop (max n q - q) 0 0 M (by omega) (Or.inl c) (by unfold dgOk; omega) (q_up_id hp.symm).symm (by simp)) (h2 := by simp)
  · refine st_aload_n dX11_digits_7 rfl ?_
    refine st_iconst dX11_digits_8 ?_
    refine st_aload_n dX11_digits_9 rfl ?_
    refine st_getfi dX11_digits_10 f_X11_223 (by first | with_reducible assumption | rfl) (by rfl) ?_
    rw [hp]
    have hz : dg (M 132) n (n - q) q 0 0 = (0, 0) := by
      by_cases hqn : n ≤ q
      · rw [show n - q = 0 by omega]
        rfl
      · rw [show n - q = n - (q + 1) + 1 by omega, dg_s, if_neg c]
    have hk : numK (M 132) n q = 0 := by unfold numK; rw [hz]
    have hv : numV (M 132) n q = 0 := by unfold numV; rw [hz]
    refine c_V2v (d' := d - 1) dX11_digits_13 l_X11_259 k_X11_fails i_X11_fails (Or.inl ⟨_, _, _, _, _, (by first | with_reducible assumption | rfl), by rfl⟩) (by omega) (Nat.le_of_ble_eq_true rfl) (C_rfails (by rw [h3]; unfold i32; omega)) (fun M2 N2 hx => ?_)
    obtain ⟨rfl, rfl⟩ := hx
    refine st_iconst dX11_digits_16 ?_
    unfold numF
    rw [hk, hv, if_pos rfl]
    exact r_i dX11_digits_17 rfl ⟨rfl, by rw [show q_up M 112 21 ((q + 0 : Nat) : Int) = M from q_up_id hp.symm, h3, flt, if_pos rfl, Int.add_zero], rfl, by unfold dgOk; omega⟩


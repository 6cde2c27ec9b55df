/-! whether another clause comes, on both sides -/
theorem bytA_end {f : Nat → Int} {n p : Nat} : bytA f n (p : Int) = -1 ↔ n ≤ p := by
  unfold bytA
  constructor
  · intro h
    by_cases c : 0 ≤ (p : Int) ∧ (p : Int) < n
    · rw [if_pos c] at h
      omega
    · omega
  · intro h
    rw [if_neg (by omega)]
/-- the fault behind a clause -/
def cfF (f : Nat → Int) (n q : Nat) : Int := if bytA f n (q : Int) = 59 ∨ bytA f n (q : Int) = -1 then 0 else 1 + 8 * q
theorem C_clauseFollows0 {G : q_G} {d : Nat} {M : q_Mem} {N : q_MemL} (h3 : ¬ M 1 3 = 0) (hi3 : i32 (M 1 3)) (hd : 1 ≤ d) : AC0 G d m_X8_clauseFollows [.ref 1] M N (CV (PU (I 0) M N)) := by
  refine AC.of (L0 := [_, none]) pn_X8 (Nat.le_of_ble_eq_true rfl) rfl ?_
  refine st_aload_n dX8_clauseFollows_0 rfl ?_
  refine c_V0p (d' := d - 1) dX8_clauseFollows_1 l_X8_33 k_X8_failed i_X8_failed (Or.inl ⟨_, _, _, _, _, (by first | with_reducible assumption | rfl), by rfl⟩) (by omega) (Nat.le_of_ble_eq_true rfl) (C_failed hi3) ?_
  refine b_eq (tgt := 9) dX8_clauseFollows_4 rfl (fun h => absurd h3 h) (fun h => ?_)
  refine st_iconst dX8_clauseFollows_7 ?_
  exact r_z dX8_clauseFollows_8 rfl (by first | omega | (split <;> decide)) ⟨rfl, rfl, rfl⟩
theorem C_clauseFollows {G : q_G} {d : Nat} {M : q_Mem} {N : q_MemL} {n p : Nat} (hd : 2 ≤ d) (hn : M 1 1 = (n : Int)) (hn2 : n ≤ 400) (hp : M 1 2 = (p : Int)) (hp2 : p < 1000) (h3 : M 1 3 = 0) : AC0 G d m_X8_clauseFollows [.ref 1] M N (CV (fun x M' N' => N' = N ∧ x = Bz (bytA (M 2) n (skip (M 2) n p : Nat) = 59) ∧ M' = q_up (q_up M 1 2 (if bytA (M 2) n (skip (M 2) n p : Nat) = 59 then ((skip (M 2) n p + 1 : Nat) : Int) else ((skip (M 2) n p : Nat) : Int))) 1 3 (cfF (M 2) n (skip (M 2) n p)))) := by
  refine AC.of (L0 := [_, none]) pn_X8 (Nat.le_of_ble_eq_true rfl) rfl ?_
  refine st_aload_n dX8_clauseFollows_0 rfl ?_
  refine c_V0p (d' := d - 1) dX8_clauseFollows_1 l_X8_33 k_X8_failed i_X8_failed (Or.inl ⟨_, _, _, _, _, (by first | with_reducible assumption | rfl), by rfl⟩) (by omega) (Nat.le_of_ble_eq_true rfl) (C_failed (by rw [h3]; unfold i32; omega)) ?_
  refine b_eq (tgt := 9) dX8_clauseFollows_4 rfl (fun h => ?_) (fun h => absurd h3 h)
  refine st_aload_n dX8_clauseFollows_9 rfl ?_
  refine c_V0i (d' := d - 1) dX8_clauseFollows_10 l_X8_29 k_X8_peek i_X8_peek (Or.inl ⟨_, _, _, _, _, (by first | with_reducible assumption | rfl), by rfl⟩) (by omega) (Nat.le_of_ble_eq_true rfl) (C_peek (by omega) hn hn2 hp hp2) (fun x M1 N1 hx => ?_)
  obtain ⟨rfl, rfl, rfl⟩ := hx
  generalize skip (M 2) n p = q at *
  have hb := bytA_rng (M 2) n (q : Int)
  have h31 : q_up M 1 2 (q : Int) 1 3 = 0 := by simp [q_up, h3]
  unfold cfF
  refine st_istore_n (L' := [_, _]) dX8_clauseFollows_13 (by decide) rfl rfl ?_
  refine st_iload_n dX8_clauseFollows_14 rfl ?_
  refine st_bipush dX8_clauseFollows_15 (by decide) ?_
  refine st_icmp_ne (tgt := 32) dX8_clauseFollows_17 (by omega) (by omega) rfl (fun c => ?_) (fun c => ?_)
  · refine st_iload_n dX8_clauseFollows_32 rfl ?_
    refine st_iconst dX8_clauseFollows_33 ?_
    refine st_icmp_eq (tgt := 46) dX8_clauseFollows_34 (by omega) (by omega) rfl (fun c2 => ?_) (fun c2 => ?_)
    · refine st_iconst dX8_clauseFollows_46 ?_
      refine r_z dX8_clauseFollows_47 rfl (by first | omega | (split <;> decide)) ⟨rfl, (bz0 c).symm ▸ rfl, ?_⟩
      rw [if_neg c, if_pos (Or.inr c2), q_up_id (M := q_up M 1 2 (q : Int)) (a := 1) (i := 3) h31.symm]
    · refine st_aload_n dX8_clauseFollows_37 rfl ?_
      refine st_aload_n dX8_clauseFollows_38 rfl ?_
      refine st_getfi dX8_clauseFollows_39 f_X8_19 (by first | with_reducible assumption | rfl) (by rfl) ?_
      rw [show q_up M 1 2 (q : Int) 1 2 = (q : Int) by simp [q_up]]
      refine st_iconst dX8_clauseFollows_42 ?_
      refine c_V2v (d' := d - 1) dX8_clauseFollows_43 l_X8_37 k_X8_fail i_X8_fail (Or.inl ⟨_, _, _, _, _, (by first | with_reducible assumption | rfl), by rfl⟩) (by omega) (Nat.le_of_ble_eq_true rfl) (C_fail (by rw [h31]; unfold i32; omega)) (fun M2 N2 hx => ?_)
      obtain ⟨rfl, rfl⟩ := hx
      refine st_iconst dX8_clauseFollows_46 ?_
      refine r_z dX8_clauseFollows_47 rfl (by first | omega | (split <;> decide)) ⟨rfl, (bz0 c).symm ▸ rfl, ?_⟩
      rw [if_neg c, if_neg (by omega), h31, flt, if_pos rfl, Int.add_zero]
  · refine st_aload_n dX8_clauseFollows_20 rfl ?_
    refine st_dup dX8_clauseFollows_21 rfl ?_
    refine st_getfi dX8_clauseFollows_22 f_X8_19 (by first | with_reducible assumption | rfl) (by rfl) ?_
    rw [show q_up M 1 2 (q : Int) 1 2 = (q : Int) by simp [q_up]]
    refine st_iconst dX8_clauseFollows_25 ?_
    refine st_iadd dX8_clauseFollows_26 ?_
    refine st_putfi dX8_clauseFollows_27 w_X8_19 (by first | with_reducible assumption | rfl) (by rfl) rfl rfl ?_
    refine st_iconst dX8_clauseFollows_30 ?_
    refine r_z dX8_clauseFollows_31 rfl (by first | omega | (split <;> decide)) ⟨rfl, (bz1 c).symm ▸ rfl, ?_⟩
    rw [if_pos c, if_pos (Or.inl c)]
    funext a j
    simp only [q_up]
    by_cases e : a = 1 ∧ j = 2
    · rw [if_pos e, if_neg (by omega), if_pos e]
      omega
    · rw [if_neg e, if_neg e, if_neg e]
      split
      · rename_i e2
        rw [e2.1, e2.2]
        exact h3
      · rfl
theorem C_goesOn0 {G : q_G} {d : Nat} {M : q_Mem} {N : q_MemL} {n p : Nat} (hd : 2 ≤ d) (hn : M 112 20 = (n : Int)) (hn2 : n ≤ 400) (hp : M 112 21 = (p : Int)) (hp2 : p < 1000) (h3 : ¬ M 112 22 = 0) (hi3 : i32 (M 112 22)) : AC0 G d m_X11_goesOn [.ref 112] M N (CV (fun x M' N' => N' = N ∧ x = I 0 ∧ M' = q_up M 112 21 ((skip (M 132) n p + 1 : Nat) : Int))) := by
  unfold i32 at hi3
  refine AC.of (L0 := [_, none]) pn_X11 (Nat.le_of_ble_eq_true rfl) rfl ?_
  refine st_aload_n dX11_goesOn_0 rfl ?_
  refine c_V0v (d' := d - 1) dX11_goesOn_1 l_X11_243 k_X11_blanks i_X11_blanks (Or.inl ⟨_, _, _, _, _, (by first | with_reducible assumption | rfl), by rfl⟩) (by omega) (Nat.le_of_ble_eq_true rfl) (C_blanks (by omega) hn hn2 hp hp2) (fun M1 N1 hx => ?_)
  obtain ⟨rfl, rfl⟩ := hx
  generalize skip (M 132) n p = q at *
  have h22 : q_up M 112 21 (q : Int) 112 22 = M 112 22 := by simp [q_up]
  refine st_aload_n dX11_goesOn_4 rfl ?_
  refine st_getfi dX11_goesOn_5 f_X11_220 (by first | with_reducible assumption | rfl) (by rfl) ?_
  rw [h22]
  refine st_if_ne (tgt := 40) dX11_goesOn_8 (by omega) rfl (fun c => ?_) (fun c => ?_)
  · refine st_aload_n dX11_goesOn_40 rfl ?_
    refine st_getfi dX11_goesOn_41 f_X11_220 (by first | with_reducible assumption | rfl) (by rfl) ?_
    rw [h22]
    refine st_if_ne (tgt := 62) dX11_goesOn_44 (by omega) rfl (fun c2 => ?_) (fun c2 => ?_)
    · refine st_iconst dX11_goesOn_62 ?_
      refine st_istore_n (L' := [_, _]) dX11_goesOn_63 (by decide) rfl rfl ?_
      refine st_aload_n dX11_goesOn_64 rfl ?_
      refine st_dup dX11_goesOn_65 rfl ?_
      refine st_getfi dX11_goesOn_66 f_X11_223 (by first | with_reducible assumption | rfl) (by rfl) ?_
      rw [show q_up M 112 21 (q : Int) 112 21 = (q : Int) by simp [q_up]]
      refine st_iconst dX11_goesOn_69 ?_
      refine st_iadd dX11_goesOn_70 ?_
      refine st_putfi dX11_goesOn_71 w_X11_223 (by first | with_reducible assumption | rfl) (by rfl) rfl rfl ?_
      refine st_iload_n dX11_goesOn_74 rfl ?_
      refine r_z dX11_goesOn_75 rfl (by first | omega | (split <;> decide)) ⟨rfl, rfl, ?_⟩
      funext a j
      simp only [q_up]
      split
      · omega
      · rfl
    · skip
      exact absurd c2 h3
  · skip
    exact absurd c h3
theorem C_goesOn {G : q_G} {d : Nat} {M : q_Mem} {N : q_MemL} {n p : Nat} (hd : 2 ≤ d) (hn : M 112 20 = (n : Int)) (hn2 : n ≤ 400) (hp : M 112 21 = (p : Int)) (hp2 : p < 1000) (h3 : M 112 22 = 0) : AC0 G d m_X11_goesOn [.ref 112] M N (CV (fun x M' N' => N' = N ∧ x = Bz (bytA (M 132) n (skip (M 132) n p : Nat) = 59) ∧ M' = q_up (q_up M 112 21 ((skip (M 132) n p + 1 : Nat) : Int)) 112 22 (cfF (M 132) n (skip (M 132) n p)))) := by
  have hsk := skip_le (M 132) n p
  refine AC.of (L0 := [_, none]) pn_X11 (Nat.le_of_ble_eq_true rfl) rfl ?_
  refine st_aload_n dX11_goesOn_0 rfl ?_
  refine c_V0v (d' := d - 1) dX11_goesOn_1 l_X11_243 k_X11_blanks i_X11_blanks (Or.inl ⟨_, _, _, _, _, (by first | with_reducible assumption | rfl), by rfl⟩) (by omega) (Nat.le_of_ble_eq_true rfl) (C_blanks (by omega) hn hn2 hp hp2) (fun M1 N1 hx => ?_)
  obtain ⟨rfl, hM1⟩ := hx
  have hq2 : skip (M 132) n p < 1000 := by omega
  generalize skip (M 132) n p = q at *
  have h1 : M1 112 20 = (n : Int) := by rw [hM1]; simp [q_up, hn]
  have h2 : M1 112 21 = (q : Int) := by rw [hM1]; simp [q_up]
  have h22 : M1 112 22 = 0 := by rw [hM1]; simp [q_up, h3]
  have hr : M1 132 = M 132 := by rw [hM1]; exact q_up_ne (by decide)
  have hb := bytA_rng (M 132) n (q : Int)
  have he := bytA_end (f := M 132) (n := n) (p := q)
  have fin : ∀ (z : Int) (M2 : q_Mem), (z = 0 ∨ z = 1) → I z = Bz (bytA (M 132) n (q : Int) = 59) → M2 = q_up (q_up M 112 21 (q : Int)) 112 22 (cfF (M 132) n q) → AW0 G d m_X11_goesOn 63 [some (.ref 112), none] [I z] M2 N1 (CV (fun x M' N' => N' = N1 ∧ x = Bz (bytA (M 132) n (q : Int) = 59) ∧ M' = q_up (q_up M 112 21 ((q + 1 : Nat) : Int)) 112 22 (cfF (M 132) n q))) := by
    intro z M2 hz0 hz hM2
    refine st_istore_n (L' := [_, _]) dX11_goesOn_63 (by decide) rfl rfl ?_
    refine st_aload_n dX11_goesOn_64 rfl ?_
    refine st_dup dX11_goesOn_65 rfl ?_
    refine st_getfi dX11_goesOn_66 f_X11_223 (by first | with_reducible assumption | rfl) (by rfl) ?_
    rw [show M2 112 21 = (q : Int) by rw [hM2]; simp [q_up]]
    refine st_iconst dX11_goesOn_69 ?_
    refine st_iadd dX11_goesOn_70 ?_
    refine st_putfi dX11_goesOn_71 w_X11_223 (by first | with_reducible assumption | rfl) (by rfl) rfl rfl ?_
    refine st_iload_n dX11_goesOn_74 rfl ?_
    refine r_z dX11_goesOn_75 rfl (by first | omega | (split <;> decide)) ⟨rfl, hz, ?_⟩
    rw [hM2]
    funext a j
    simp only [q_up]
    split
    · rw [if_neg (by omega)]
      omega
    · rfl
  unfold cfF at *
  refine st_aload_n dX11_goesOn_4 rfl ?_
  refine st_getfi dX11_goesOn_5 f_X11_220 (by first | with_reducible assumption | rfl) (by rfl) ?_
  rw [h22]
  refine st_if_ne (tgt := 40) dX11_goesOn_8 (by omega) rfl (fun c => ?_) (fun c => ?_)
  · skip
    exact absurd rfl c
  · refine st_aload_n dX11_goesOn_11 rfl ?_
    refine st_getfi dX11_goesOn_12 f_X11_223 (by first | with_reducible assumption | rfl) (by rfl) ?_
    rw [h2]
    refine st_aload_n dX11_goesOn_15 rfl ?_
    refine st_getfi dX11_goesOn_16 f_X11_194 (by first | with_reducible assumption | rfl) (by rfl) ?_
    rw [h1]
    refine st_icmp_ge (tgt := 40) dX11_goesOn_19 (by omega) (by omega) rfl (fun c1 => ?_) (fun c1 => ?_)
    · refine st_aload_n dX11_goesOn_40 rfl ?_
      refine st_getfi dX11_goesOn_41 f_X11_220 (by first | with_reducible assumption | rfl) (by rfl) ?_
      rw [h22]
      refine st_if_ne (tgt := 62) dX11_goesOn_44 (by omega) rfl (fun c2 => ?_) (fun c2 => ?_)
      · skip
        exact absurd rfl c2
      · refine st_aload_n dX11_goesOn_47 rfl ?_
        refine st_getfi dX11_goesOn_48 f_X11_223 (by first | with_reducible assumption | rfl) (by rfl) ?_
        rw [h2]
        refine st_aload_n dX11_goesOn_51 rfl ?_
        refine st_getfi dX11_goesOn_52 f_X11_194 (by first | with_reducible assumption | rfl) (by rfl) ?_
        rw [h1]
        refine st_icmp_ge (tgt := 62) dX11_goesOn_55 (by omega) (by omega) rfl (fun c3 => ?_) (fun c3 => ?_)
        · refine st_iconst dX11_goesOn_62 ?_
          have hbe := he.2 (by omega)
          refine fin 0 M1 (Or.inl rfl) (bz0 (by omega)) ?_
          rw [if_pos (Or.inr hbe), hM1]
          exact (q_up_id (by rw [← hM1]; exact h22.symm)).symm
        · skip
          omega
    · refine st_aload_n dX11_goesOn_22 rfl ?_
      have hbn : ¬ bytA (M 132) n (q : Int) = -1 := fun z => by have := he.1 z; omega
      refine c_V0p (d' := d - 1) dX11_goesOn_23 l_X11_226 k_X11_sign i_X11_sign (Or.inl ⟨_, _, _, _, _, (by first | with_reducible assumption | rfl), by rfl⟩) (by omega) (Nat.le_of_ble_eq_true rfl) (C_sign h1 hn2 h2 (by omega)) ?_
      rw [hr]
      refine st_bipush dX11_goesOn_26 (by decide) ?_
      refine st_icmp_eq (tgt := 40) dX11_goesOn_28 (by omega) (by omega) rfl (fun c4 => ?_) (fun c4 => ?_)
      · refine st_aload_n dX11_goesOn_40 rfl ?_
        refine st_getfi dX11_goesOn_41 f_X11_220 (by first | with_reducible assumption | rfl) (by rfl) ?_
        rw [h22]
        refine st_if_ne (tgt := 62) dX11_goesOn_44 (by omega) rfl (fun c2 => ?_) (fun c2 => ?_)
        · skip
          exact absurd rfl c2
        · refine st_aload_n dX11_goesOn_47 rfl ?_
          refine st_getfi dX11_goesOn_48 f_X11_223 (by first | with_reducible assumption | rfl) (by rfl) ?_
          rw [h2]
          refine st_aload_n dX11_goesOn_51 rfl ?_
          refine st_getfi dX11_goesOn_52 f_X11_194 (by first | with_reducible assumption | rfl) (by rfl) ?_
          rw [h1]
          refine st_icmp_ge (tgt := 62) dX11_goesOn_55 (by omega) (by omega) rfl (fun c3 => ?_) (fun c3 => ?_)
          · skip
            omega
          · refine st_iconst dX11_goesOn_58 ?_
            refine st_goto (tgt := 63) dX11_goesOn_59 rfl ?_
            refine fin 1 M1 (Or.inr rfl) (bz1 c4) ?_
            rw [if_pos (Or.inl c4), hM1]
            exact (q_up_id (by rw [← hM1]; exact h22.symm)).symm
      · refine st_aload_n dX11_goesOn_31 rfl ?_
        refine st_iconst dX11_goesOn_32 ?_
        refine st_aload_n dX11_goesOn_33 rfl ?_
        refine st_getfi dX11_goesOn_34 f_X11_223 (by first | with_reducible assumption | rfl) (by rfl) ?_
        rw [h2]
        refine c_V2v (d' := d - 1) dX11_goesOn_37 l_X11_259 k_X11_fails i_X11_fails (Or.inl ⟨_, _, _, _, _, (by first | with_reducible assumption | rfl), by rfl⟩) (by omega) (Nat.le_of_ble_eq_true rfl) (C_rfails (by rw [h22]; unfold i32; omega)) (fun M2 N2 hx => ?_)
        obtain ⟨rfl, hM2⟩ := hx
        have h222 : M2 112 22 = 1 + 8 * (q : Int) := by rw [hM2, h22, flt, if_pos rfl]; simp [q_up]
        refine st_aload_n dX11_goesOn_40 rfl ?_
        refine st_getfi dX11_goesOn_41 f_X11_220 (by first | with_reducible assumption | rfl) (by rfl) ?_
        rw [h222]
        refine st_if_ne (tgt := 62) dX11_goesOn_44 (by omega) rfl (fun c2 => ?_) (fun c2 => ?_)
        · refine st_iconst dX11_goesOn_62 ?_
          refine fin 0 M2 (Or.inl rfl) (bz0 c4) ?_
          rw [if_neg (by omega), hM2, h22, flt, if_pos rfl, Int.add_zero, hM1]
        · skip
          omega


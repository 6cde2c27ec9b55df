/-! the system reads a house: all of it -/
def hLoop (n : Nat) : Nat → Nat → q_Mem → Except Int q_Mem
  | 0, _, _ => .error 1
  | m + 1, c, M => match hCl n c M with
    | .error F => .error F
    | .ok M1 =>
      if bytA (M1 2) n (skip (M1 2) n (M1 1 2).toNat : Nat) = 59 then hLoop n m (c + 1) (q_up M1 1 2 ((skip (M1 2) n (M1 1 2).toNat + 1 : Nat) : Int))
      else if bytA (M1 2) n (skip (M1 2) n (M1 1 2).toNat : Nat) = -1 then .ok (q_up M1 1 2 ((skip (M1 2) n (M1 1 2).toNat : Nat) : Int))
      else .error (1 + 8 * (skip (M1 2) n (M1 1 2).toNat : Nat))
/-- where a reading begins -/
def hSt (M : q_Mem) : q_Mem := emH (q_up (q_up M 1 2 0) 1 3 0) 10
def hRead (n : Nat) (M : q_Mem) : Except Int q_Mem := hLoop n 41 0 (hSt M)
theorem HI.up1 {c : Nat} {M : q_Mem} {i : Nat} {z : Int} (h : HI c M) : HI c (q_up M 1 i z) := by
  unfold HI at *
  rw [q_up_ne (by decide), q_up_ne (by decide), q_up_ne (by decide), q_up_ne (by decide), q_up_ne (by decide)]
  exact h
theorem HI.zt {c : Nat} {M : q_Mem} (h : HI c M) : zT M := by
  obtain ⟨⟨r1, r2, r3, r4, r5, r6⟩, -, -, -, a5, ⟨-, -, a8, -⟩, ⟨-, b2⟩, ⟨-, b4⟩, -, b6⟩ := h
  exact ⟨fun j hj => a5 j (by simp [hFs]; omega), fun j hj => a8 j (by omega), fun j hj => b2 j (by omega), fun j hj => b4 j (by omega), b6⟩
theorem hLoop_ok {n : Nat} : ∀ (m c p : Nat) (M M2 : q_Mem), TP M n p → HI c M → hLoop n m c M = .ok M2 → Exc [1, 10, 11, 12, 13, 14] M M2 ∧ (∃ p, TP M2 n p) ∧ ∃ c2, ¬ c2 = 0 ∧ HI c2 M2
  | 0, c, p, M, M2, _, _, e => by
    unfold hLoop at e
    cases e
  | m + 1, c, p, M, M2, hT, H, e => by
    unfold hLoop at e
    cases hr : hCl n c M with
    | error F => rw [hr] at e; cases e
    | ok M1 =>
      simp only [hr] at e
      obtain ⟨k1, ⟨p2, k2⟩, k3, k4⟩ := hCl_ok hT H hr
      have hp : (M1 1 2).toNat = p2 := by have := k2.2.2.1; omega
      have hs := skip_le (M1 2) n p2
      have hs2 := hs.2.1 k2.2.2.2.1
      rw [hp] at e
      split at e
      · rename_i hb
        have hlt : skip (M1 2) n p2 + 1 ≤ n := by
          apply Decidable.byContradiction
          intro z
          have := bytA_end (f := M1 2) (n := n) (p := skip (M1 2) n p2)
          have := this.2 (by omega)
          omega
        obtain ⟨i1, i2, i3⟩ := hLoop_ok m (c + 1) _ _ M2 (k2.up hlt) k3.up1 e
        exact ⟨k1.tr ((Exc.up (by simp)).tr i1), i2, i3⟩
      · split at e
        · cases e
          exact ⟨k1.tr (Exc.up (by simp)), ⟨_, k2.up hs2⟩, c + 1, by omega, k3.up1⟩
        · cases e
theorem hSt_ok {M : q_Mem} {n : Nat} (hn : M 1 1 = (n : Int)) (hn2 : n ≤ 400) (hz : Hz M 10) : TP (hSt M) n 0 ∧ HI 0 (hSt M) ∧ Exc [1, 10, 11, 12, 13, 14] M (hSt M) := by
  obtain ⟨z0, z1, z2, z3, z4, -⟩ := hz
  have e10 : (hSt M) 10 = fun _ => 0 := by
    funext j
    unfold hSt emH
    by_cases hj : j ∈ [0, 1, 2, 3, 4, 5, 6, 11, 12, 13, 15, 17, 18]
    · rw [if_pos ⟨rfl, hj⟩]
    · rw [if_neg (fun z => hj z.2), if_neg (by omega)]
      simp [q_up]
      exact z0 j hj
  have row : ∀ r n, (r = 11 ∧ n = 8) ∨ (r = 12 ∧ n = 7) ∨ (r = 13 ∧ n = 3) ∨ (r = 14 ∧ n = 42) → (∀ j, n ≤ j → M r j = 0) → (hSt M) r = fun _ => 0 := by
    intro r m hr hz
    funext j
    unfold hSt emH
    rw [if_neg (by omega)]
    split
    · rfl
    · rename_i h
      have := hz j (by omega)
      rw [← this]
      simp only [q_up]
      rw [if_neg (by omega), if_neg (by omega)]
  have e11 := row 11 8 (by omega) z1
  have e12 := row 12 7 (by omega) z2
  have e13 := row 13 3 (by omega) z3
  have e14 := row 14 42 (by omega) z4
  refine ⟨?_, ?_, ?_⟩
  · have h1 : ∀ j, (hSt M) 1 j = q_up (q_up M 1 2 0) 1 3 0 1 j := by
      intro j
      unfold hSt emH
      rw [if_neg (by omega), if_neg (by omega)]
    unfold TP
    rw [h1, h1, h1]
    exact ⟨by simp [q_up, hn], hn2, by simp [q_up], by omega, by simp [q_up]⟩
  · unfold HI
    rw [e10, e11, e12, e13, e14]
    unfold HIr
    simp
  · intro a ha
    simp at ha
    funext j
    unfold hSt emH
    rw [if_neg (by omega), if_neg (by omega)]
    simp only [q_up]
    rw [if_neg (by omega), if_neg (by omega)]
theorem C_cfT {G : q_G} {d : Nat} {M : q_Mem} {N : q_MemL} {n p : Nat} (hd : 2 ≤ d) (h : TP M n p) : AC0 G d m_X8_clauseFollows [.ref 1] M N (CV (fun x M' N' => N' = N ∧ ((bytA (M 2) n (skip (M 2) n p : Nat) = 59 ∧ x = I 1 ∧ M' = q_up M 1 2 ((skip (M 2) n p + 1 : Nat) : Int) ∧ TP M' n (skip (M 2) n p + 1)) ∨ (¬ bytA (M 2) n (skip (M 2) n p : Nat) = 59 ∧ bytA (M 2) n (skip (M 2) n p : Nat) = -1 ∧ x = I 0 ∧ M' = q_up M 1 2 ((skip (M 2) n p : Nat) : Int)) ∨ (¬ bytA (M 2) n (skip (M 2) n p : Nat) = 59 ∧ ¬ bytA (M 2) n (skip (M 2) n p : Nat) = -1 ∧ x = I 0 ∧ Exc [1] M M' ∧ TE M' n (1 + 8 * (skip (M 2) n p : Nat)))))) := by
  have hT := h
  have hs := skip_le (M 2) n p
  obtain ⟨a, b, c, e, f⟩ := h
  have hs2 := hs.2.1 e
  refine AC.mono (fun v S' M' N' hq => ?_) (C_clauseFollows hd a b c (by omega) f)
  obtain ⟨hS, x, hv, hN, hx, hM⟩ := hq
  refine ⟨hS, x, hv, hN, ?_⟩
  have he := bytA_end (f := M 2) (n := n) (p := skip (M 2) n p)
  generalize skip (M 2) n p = q at *
  unfold cfF at hM
  by_cases c1 : bytA (M 2) n (q : Int) = 59
  · left
    rw [if_pos c1, if_pos (Or.inl c1)] at hM
    have hM2 : M' = q_up M 1 2 ((q + 1 : Nat) : Int) := by
      rw [hM]
      exact q_up_id (by simp [q_up, f])
    refine ⟨c1, by rw [hx]; exact (bz1 c1).symm, hM2, ?_⟩
    rw [hM2]
    exact hT.up (by apply Decidable.byContradiction; intro z; have := he.2 (by omega); omega)
  · right
    rw [if_neg c1] at hM
    by_cases c2 : bytA (M 2) n (q : Int) = -1
    · left
      rw [if_pos (Or.inr c2)] at hM
      refine ⟨c1, c2, by rw [hx]; exact (bz0 c1).symm, ?_⟩
      rw [hM]
      exact q_up_id (by simp [q_up, f])
    · right
      rw [if_neg (by omega)] at hM
      refine ⟨c1, c2, by rw [hx]; exact (bz0 c1).symm, by rw [hM]; exact (Exc.up (by simp)).tr (Exc.up (by simp)), ?_⟩
      rw [hM]
      exact ⟨by simp [q_up, a], b, by simp [q_up]; omega, by simp [q_up], by omega, by omega, by omega⟩
theorem C_cfE {G : q_G} {d : Nat} {M : q_Mem} {N : q_MemL} {n : Nat} {F : Int} (hd : 2 ≤ d) (h : TE M n F) : AC0 G d m_X8_clauseFollows [.ref 1] M N (CV (PU (I 0) M N)) := C_clauseFollows0 (by rw [h.2.2.2.1]; exact h.2.2.2.2.1) (by rw [h.2.2.2.1]; have := h.2.2.2.2.2; unfold i32; omega) (by omega)
theorem C_hread {G : q_G} {d : Nat} {M : q_Mem} {N : q_MemL} {n : Nat} (hd : 7 ≤ d) (hn : M 1 1 = (n : Int)) (hn2 : n ≤ 400) (hz : Hz M 10) : AC0 G d m_X3_read [.ref 83] M N (CV (fun x M' N' => N' = N ∧ ((∃ M1, hRead n M = .ok M1 ∧ x = I 0 ∧ M' = q_up M1 10 0 1) ∨ (∃ F, hRead n M = .error F ∧ x = I F ∧ Exh [1, 10, 11, 12, 13, 14] M M' ∧ TE M' n F)))) := by
  obtain ⟨s1, s2, s3⟩ := hSt_ok hn hn2 hz
  have err : ∀ (M1 : q_Mem) (k : Int) (F : Int), TE M1 n F → Exh [1, 10, 11, 12, 13, 14] M M1 → hRead n M = .error F → AW0 G d m_X3_read 46 [some (.ref 83), some (I k)] [] M1 N (CV (fun x M' N' => N' = N ∧ ((∃ M1, hRead n M = .ok M1 ∧ x = I 0 ∧ M' = q_up M1 10 0 1) ∨ (∃ F, hRead n M = .error F ∧ x = I F ∧ Exh [1, 10, 11, 12, 13, 14] M M' ∧ TE M' n F)))) := by
    intro M1 k F hT hE he
    have hT2 : TE (q_up M1 10 0 1) n F := hT.exc (Exc.up (L := [10]) (by simp)) (by simp)
    refine st_aload_n dX3_read_46 rfl ?_
    refine st_getfr dX3_read_47 f_X3_15 (by first | with_reducible assumption | rfl) (by rfl) ?_
    refine st_iconst dX3_read_50 ?_
    refine st_putfi dX3_read_51 w_X3_37 (by first | with_reducible assumption | rfl) (by rfl) (by first | rfl | (split <;> rfl) | assumption) (by first | rfl | assumption) ?_
    refine st_aload_n dX3_read_54 rfl ?_
    refine st_getfr dX3_read_55 f_X3_9 (by first | with_reducible assumption | rfl) (by rfl) ?_
    refine st_getfi dX3_read_58 f_X3_41 (by first | with_reducible assumption | rfl) (by rfl) ?_
    rw [hT2.2.2.2.1]
    refine r_i dX3_read_61 rfl ⟨rfl, Or.inr ⟨F, he, rfl, hE.tr (Exh.up (by simp) (by omega)), hT2⟩⟩
  have loop : ∀ (m c p : Nat) (M1 : q_Mem), c + m = 41 → c ≤ 40 → TP M1 n p → HI c M1 → Exh [1, 10, 11, 12, 13, 14] M M1 → hLoop n m c M1 = hRead n M → AW0 G d m_X3_read 16 [some (.ref 83), some (I c)] [] M1 N (CV (fun x M' N' => N' = N ∧ ((∃ M1, hRead n M = .ok M1 ∧ x = I 0 ∧ M' = q_up M1 10 0 1) ∨ (∃ F, hRead n M = .error F ∧ x = I F ∧ Exh [1, 10, 11, 12, 13, 14] M M' ∧ TE M' n F)))) := by
    intro m
    induction m with
    | zero =>
      intro c p M1 hc hc4 hT H hE e
      exfalso
      omega
    | succ m ih =>
      intro c p M1 hc hc4 hT H hE e
      refine st_iload_n dX3_read_16 rfl ?_
      refine st_bipush dX3_read_17 (by decide) ?_
      refine st_icmp_gt (tgt := 46) dX3_read_19 (by omega) (by omega) rfl (fun c1 => ?_) (fun c1 => ?_)
      · skip
        omega
      · refine st_aload_n dX3_read_22 rfl ?_
        refine st_iload_n dX3_read_23 rfl ?_
        refine c_V1v (d' := d - 1) dX3_read_24 l_X3_29 k_X3_readClause i_X3_readClause (Or.inl ⟨_, _, _, _, _, (by first | with_reducible assumption | rfl), by rfl⟩) (by omega) (Nat.le_of_ble_eq_true rfl) (C_hclause (by omega) hT H.hp (by omega) (fun z => (H.2.2.2.1 z).2.2)) (fun M2 N2 hx => ?_)
        obtain ⟨rfl, hx⟩ := hx
        unfold hLoop at e
        rcases hx with hx | ⟨F, h1, h2, h3⟩
        · rw [hx] at e
          dsimp only at e
          obtain ⟨k1, ⟨p2, k2⟩, k3, k4⟩ := hCl_ok hT H hx
          have hp : (M2 1 2).toNat = p2 := by have := k2.2.2.1; omega
          rw [hp] at e
          refine st_aload_n dX3_read_27 rfl ?_
          refine st_getfr dX3_read_28 f_X3_9 (by first | with_reducible assumption | rfl) (by rfl) ?_
          refine c_V0i (d' := d - 1) dX3_read_31 l_X3_33 k_X8_clauseFollows i_X8_clauseFollows (Or.inl ⟨_, _, _, _, _, (by first | with_reducible assumption | rfl), by rfl⟩) (by omega) (Nat.le_of_ble_eq_true rfl) (C_cfT (by omega) k2) (fun x M3 N3 hx => ?_)
          obtain ⟨rfl, hx⟩ := hx
          rcases hx with ⟨b1, rfl, hM3, hT3⟩ | ⟨b1, b2, rfl, hM3⟩ | ⟨b1, b2, rfl, hE3, hT3⟩
          · rw [if_pos b1, ← hM3] at e
            refine st_if_ne (tgt := 40) dX3_read_34 (by omega) rfl (fun c2 => ?_) (fun c2 => ?_)
            · refine st_iinc (L' := [_, _]) dX3_read_40 rfl (by decide) rfl rfl ?_
              refine st_goto (tgt := 16) dX3_read_43 rfl ?_
              exact AW.to (ih (c + 1) _ M3 (by omega) (by omega) hT3 (by rw [hM3]; exact k3.up1) (hE.tr ⟨k1.tr (by rw [hM3]; exact Exc.up (by simp)), fun _ => by rw [hM3]; exact k3.up1.zt⟩) e) (h2 := by simp)
            · skip
              omega
          · rw [if_neg b1, if_pos b2, ← hM3] at e
            refine st_if_ne (tgt := 40) dX3_read_34 (by omega) rfl (fun c2 => ?_) (fun c2 => ?_)
            · skip
              omega
            · refine st_goto (tgt := 46) dX3_read_37 rfl ?_
              refine st_aload_n dX3_read_46 rfl ?_
              refine st_getfr dX3_read_47 f_X3_15 (by first | with_reducible assumption | rfl) (by rfl) ?_
              refine st_iconst dX3_read_50 ?_
              refine st_putfi dX3_read_51 w_X3_37 (by first | with_reducible assumption | rfl) (by rfl) (by first | rfl | (split <;> rfl) | assumption) (by first | rfl | assumption) ?_
              refine st_aload_n dX3_read_54 rfl ?_
              refine st_getfr dX3_read_55 f_X3_9 (by first | with_reducible assumption | rfl) (by rfl) ?_
              refine st_getfi dX3_read_58 f_X3_41 (by first | with_reducible assumption | rfl) (by rfl) ?_
              rw [show q_up M3 10 0 1 1 3 = 0 by rw [hM3]; simp [q_up, k2.2.2.2.2]]
              refine r_i dX3_read_61 rfl ⟨rfl, Or.inl ⟨M3, e.symm, rfl, rfl⟩⟩
          · rw [if_neg b1, if_neg b2] at e
            refine st_if_ne (tgt := 40) dX3_read_34 (by omega) rfl (fun c2 => ?_) (fun c2 => ?_)
            · skip
              omega
            · refine st_goto (tgt := 46) dX3_read_37 rfl ?_
              exact err M3 c _ hT3 (hE.tr ((show Exh _ _ _ from ⟨k1, fun _ => k3.zt⟩).tr (hE3.hz (by simp)))) e.symm
        · rw [h1] at e
          refine st_aload_n dX3_read_27 rfl ?_
          refine st_getfr dX3_read_28 f_X3_9 (by first | with_reducible assumption | rfl) (by rfl) ?_
          refine c_V0p (d' := d - 1) dX3_read_31 l_X3_33 k_X8_clauseFollows i_X8_clauseFollows (Or.inl ⟨_, _, _, _, _, (by first | with_reducible assumption | rfl), by rfl⟩) (by omega) (Nat.le_of_ble_eq_true rfl) (C_cfE (by omega) h3) ?_
          refine st_if_ne (tgt := 40) dX3_read_34 (by omega) rfl (fun c2 => ?_) (fun c2 => ?_)
          · skip
            omega
          · refine st_goto (tgt := 46) dX3_read_37 rfl ?_
            exact err M2 c F h3 (hE.tr h2) e.symm
  refine AC.of (L0 := [_, none]) pn_X3 (Nat.le_of_ble_eq_true rfl) rfl ?_
  refine st_aload_n dX3_read_0 rfl ?_
  refine st_getfr dX3_read_1 f_X3_9 (by first | with_reducible assumption | rfl) (by rfl) ?_
  refine c_V0v (d' := d - 1) dX3_read_4 l_X3_19 k_X8_startReading i_X8_startReading (Or.inl ⟨_, _, _, _, _, (by first | with_reducible assumption | rfl), by rfl⟩) (by omega) (Nat.le_of_ble_eq_true rfl) (C_startReading) (fun M1 N1 hx => ?_)
  obtain ⟨rfl, rfl⟩ := hx
  refine st_aload_n dX3_read_7 rfl ?_
  refine st_getfr dX3_read_8 f_X3_15 (by first | with_reducible assumption | rfl) (by rfl) ?_
  refine c_V0v (d' := d - 1) dX3_read_11 l_X3_24 k_X2_empty i_X2_empty (Or.inl ⟨_, _, _, _, _, (by first | with_reducible assumption | rfl), by rfl⟩) (by omega) (Nat.le_of_ble_eq_true rfl) (C_empty (a := 10) (by unfold isHome; omega) (by omega)) (fun M2 N2 hx => ?_)
  obtain ⟨rfl, rfl⟩ := hx
  refine st_iconst dX3_read_14 ?_
  refine st_istore_n (L' := [_, _]) dX3_read_15 (by decide) rfl rfl ?_
  exact loop 41 0 0 (hSt M) (by omega) (by omega) s1 s2 ⟨s3, fun _ => s2.zt⟩ rfl


/-! the system reads a rule: small methods, what waits -/
def WR (f : Nat → Int) : List Int → Prop
  | [] => True
  | x :: r => f r.length = x ∧ WR f r
theorem WR.upr {f : Nat → Int} {x : Int} : ∀ {W : List Int} {i : Nat}, W.length ≤ i → WR f W → WR (upR f i x) W
  | [], _, _, _ => trivial
  | y :: r, i, hi, h => by
    simp only [List.length_cons] at hi
    refine ⟨?_, h.2.upr (by omega)⟩
    unfold upR
    rw [if_neg (by omega)]
    exact h.1
theorem WR.push {f : Nat → Int} {x : Int} {W : List Int} (h : WR f W) : WR (upR f W.length x) (x :: W) := ⟨by simp [upR], h.upr (Nat.le_refl _)⟩
def LRo (f : Nat → Int) (E : List Int) : Prop := ∀ i, i < E.length → f i = E.getD i 0
theorem LRo.push {f : Nat → Int} {x : Int} {E : List Int} (h : LRo f E) : LRo (upR f E.length x) (E ++ [x]) := by
  intro i hi
  rw [List.length_append] at hi
  simp only [List.length_cons, List.length_nil] at hi
  unfold upR
  by_cases e : i = E.length
  · rw [if_pos e, e]
    simp [List.getD_eq_getElem?_getD]
  · rw [if_neg e, h i (by omega)]
    rw [List.getD_eq_getElem?_getD, List.getD_eq_getElem?_getD, List.getElem?_append_left (by omega)]
/-- what the reading of a rule keeps: parts, what waits, what was put down -/
def SR (o c : Nat) (W E : List Int) (M : q_Mem) : Prop := (M 84 2 = (W.length : Int) ∧ WR (M 85) W ∧ M 84 3 = (c : Int) ∧ M 84 4 = (dK W : Int) ∧ M 84 5 = (bK W : Int)) ∧ M o 1 = (E.length : Int) ∧ LRo (M (o + 1)) E
def VW (M : q_Mem) : Prop := ∀ j, 0 ≤ M 85 j ∧ M 85 j ≤ 31
def SF (o : Nat) (M M1 : q_Mem) : Prop := Exc [1, 84, 85, o, o + 1] M M1 ∧ ∀ j, ¬ j = 1 → M1 o j = M o j
theorem SF.rf {o : Nat} {M : q_Mem} : SF o M M := ⟨Exc.rf, fun _ _ => rfl⟩
theorem SF.tr {o : Nat} {M M1 M2 : q_Mem} (h : SF o M M1) (h2 : SF o M1 M2) : SF o M M2 := ⟨h.1.tr h2.1, fun j hj => (h2.2 j hj).trans (h.2 j hj)⟩
theorem SF.up {o a i : Nat} {M : q_Mem} {z : Int} (ho : isRu o) (h : a = 1 ∨ a = 84 ∨ a = 85 ∨ (a = o ∧ i = 1) ∨ a = o + 1) : SF o M (q_up M a i z) := by
  unfold isRu at ho
  refine ⟨Exc.up (by simp; omega), fun j hj => ?_⟩
  simp only [q_up]
  rw [if_neg (by omega)]
theorem Exc.sf {o : Nat} {X : List Nat} {M M1 : q_Mem} (ho : isRu o) (h : Exc X M M1) (hX : ∀ a, a ∈ X → a ∈ [1, 84, 85]) : SF o M M1 := by
  unfold isRu at ho
  refine ⟨h.sub (fun a ha => ?_), fun j _ => ?_⟩
  · have := hX a ha
    simp at this ⊢
    omega
  · rw [h o]
    intro z
    have := hX o z
    simp at this
    omega
theorem SR.exc {o c : Nat} {W E : List Int} {X : List Nat} {M M1 : q_Mem} (h : SR o c W E M) (hE : Exc X M M1) (hX : 84 ∉ X ∧ 85 ∉ X ∧ o ∉ X ∧ o + 1 ∉ X) : SR o c W E M1 := by
  unfold SR at *
  rw [hE 84 hX.1, hE 85 hX.2.1, hE o hX.2.2.1, hE (o + 1) hX.2.2.2]
  exact h
theorem SR.exc1 {o c : Nat} {W E : List Int} {M M1 : q_Mem} (ho : isRu o) (h : SR o c W E M) (hE : Exc [1] M M1) : SR o c W E M1 := by
  unfold isRu at ho
  exact h.exc hE (by simp; omega)
theorem VW.exc {X : List Nat} {M M1 : q_Mem} (h : VW M) (hE : Exc X M M1) (hX : 85 ∉ X) : VW M1 := by
  unfold VW at *
  rw [hE 85 hX]
  exact h
/-- the same in a fault: bounds alone -/
def SE (o : Nat) (k : Int) (M : q_Mem) : Prop := (0 ≤ M 84 2 ∧ M 84 2 ≤ k) ∧ (0 ≤ M 84 3 ∧ M 84 3 ≤ k) ∧ (-k ≤ M 84 4 ∧ M 84 4 ≤ k) ∧ (0 ≤ M 84 5 ∧ M 84 5 ≤ k) ∧ (0 ≤ M o 1 ∧ M o 1 ≤ k)
theorem SE.exc1 {o : Nat} {k : Int} {M M1 : q_Mem} (ho : isRu o) (h : SE o k M) (hE : Exc [1] M M1) : SE o k M1 := by
  unfold isRu at ho
  unfold SE at *
  rw [hE 84 (by simp), hE o (by simp; omega)]
  exact h
theorem SE.mono {o : Nat} {k l : Int} {M : q_Mem} (h : SE o k M) (hl : k ≤ l) : SE o l M := by
  obtain ⟨⟨a1, a2⟩, ⟨b1, b2⟩, ⟨c1, c2⟩, ⟨d1, d2⟩, e1, e2⟩ := h
  exact ⟨⟨a1, by omega⟩, ⟨b1, by omega⟩, ⟨by omega, by omega⟩, ⟨d1, by omega⟩, e1, by omega⟩
theorem SR.se {o c : Nat} {W E : List Int} {M : q_Mem} {k : Int} (h : SR o c W E M) (h1 : (W.length : Int) ≤ k) (h2 : (c : Int) ≤ k) (h3 : (E.length : Int) ≤ k) : SE o k M := by
  obtain ⟨⟨a1, a2, a3, a4, a5⟩, a6, a7⟩ := h
  have := bK_le W
  exact ⟨by omega, by omega, by omega, by omega, by omega⟩
theorem C_emit {G : q_G} {d : Nat} {M : q_Mem} {N : q_MemL} {o : Nat} {x : Int} (hd : 1 ≤ d) (ho : isRu o) (h : 0 ≤ M o 1 ∧ M o 1 ≤ 100000) : AC0 G d m_X7_emit [.ref o, I x] M N (CN (fun M1 N1 => N1 = N ∧ M1 = q_up (if M o 1 < 400 then q_up M (o + 1) (M o 1).toNat x else M) o 1 (M o 1 + 1))) := by
  have hS := sh_ru ho
  have hS1 := sh_ru1 ho
  have e : (if 0 ≤ M o 1 ∧ M o 1 < 400 then q_up M (o + 1) (M o 1).toNat x else M) = (if M o 1 < 400 then q_up M (o + 1) (M o 1).toNat x else M) := by
    by_cases c : M o 1 < 400
    · rw [if_pos c, if_pos (by omega)]
    · rw [if_neg c, if_neg (by omega)]
  have e1 : (if M o 1 < 400 then q_up M (o + 1) (M o 1).toNat x else M) o 1 = M o 1 := by
    split
    · simp [q_up]
    · rfl
  refine AC.of (L0 := [_, _]) pn_X7 (Nat.le_of_ble_eq_true rfl) rfl ?_
  refine st_aload_n dX7_emit_0 rfl ?_
  refine st_getfr dX7_emit_1 f_X7_155 (by first | with_reducible assumption | rfl) (by rfl) ?_
  refine st_aload_n dX7_emit_4 rfl ?_
  refine st_getfi dX7_emit_5 f_X7_24 (by first | with_reducible assumption | rfl) (by rfl) ?_
  refine st_iload_n dX7_emit_8 rfl ?_
  refine c_S3v (d' := d - 1) dX7_emit_9 l_X7_76 k_X10_put s_X10_put (by omega) (Nat.le_of_ble_eq_true rfl) (C_put (n := 400) hS1 (by omega) (by omega)) (fun M1 N1 hx => ?_)
  obtain ⟨rfl, hM1⟩ := hx
  have hM2 : M1 = (if M o 1 < 400 then q_up M (o + 1) (M o 1).toNat x else M) := by rw [hM1]; exact e
  refine st_aload_n dX7_emit_12 rfl ?_
  refine st_dup dX7_emit_13 rfl ?_
  refine st_getfi dX7_emit_14 f_X7_24 (by first | with_reducible assumption | rfl) (by rfl) ?_
  rw [show M1 o 1 = M o 1 by rw [hM2, e1]]
  refine st_iconst dX7_emit_17 ?_
  refine st_iadd dX7_emit_18 ?_
  refine st_putfi dX7_emit_19 w_X7_24 (by first | with_reducible assumption | rfl) (by rfl) rfl rfl ?_
  refine r_v dX7_emit_22 rfl ⟨rfl, by rw [hM2]⟩
theorem C_hold {G : q_G} {d : Nat} {M : q_Mem} {N : q_MemL} {x : Int} (hd : 1 ≤ d) (h : 0 ≤ M 84 2 ∧ M 84 2 ≤ 100000) : AC0 G d m_X7_hold [.ref 84, I x] M N (CN (fun M1 N1 => N1 = N ∧ M1 = q_up (if M 84 2 < 64 then q_up M 85 (M 84 2).toNat x else M) 84 2 (M 84 2 + 1))) := by
  have e : (if 0 ≤ M 84 2 ∧ M 84 2 < 64 then q_up M 85 (M 84 2).toNat x else M) = (if M 84 2 < 64 then q_up M 85 (M 84 2).toNat x else M) := by
    by_cases c : M 84 2 < 64
    · rw [if_pos c, if_pos (by omega)]
    · rw [if_neg c, if_neg (by omega)]
  have e1 : (if M 84 2 < 64 then q_up M 85 (M 84 2).toNat x else M) 84 2 = M 84 2 := by
    split
    · simp [q_up]
    · rfl
  refine AC.of (L0 := [_, _]) pn_X7 (Nat.le_of_ble_eq_true rfl) rfl ?_
  refine st_aload_n dX7_hold_0 rfl ?_
  refine st_getfr dX7_hold_1 f_X7_11 (by first | with_reducible assumption | rfl) (by rfl) ?_
  refine st_aload_n dX7_hold_4 rfl ?_
  refine st_getfi dX7_hold_5 f_X7_33 (by first | with_reducible assumption | rfl) (by rfl) ?_
  refine st_iload_n dX7_hold_8 rfl ?_
  refine c_S3v (d' := d - 1) dX7_hold_9 l_X7_76 k_X10_put s_X10_put (by omega) (Nat.le_of_ble_eq_true rfl) (C_put (n := 64) rfl (by omega) (by omega)) (fun M1 N1 hx => ?_)
  obtain ⟨rfl, hM1⟩ := hx
  have hM2 : M1 = (if M 84 2 < 64 then q_up M 85 (M 84 2).toNat x else M) := by rw [hM1]; exact e
  refine st_aload_n dX7_hold_12 rfl ?_
  refine st_dup dX7_hold_13 rfl ?_
  refine st_getfi dX7_hold_14 f_X7_33 (by first | with_reducible assumption | rfl) (by rfl) ?_
  rw [show M1 84 2 = M 84 2 by rw [hM2, e1]]
  refine st_iconst dX7_hold_17 ?_
  refine st_iadd dX7_hold_18 ?_
  refine st_putfi dX7_hold_19 w_X7_33 (by first | with_reducible assumption | rfl) (by rfl) rfl rfl ?_
  refine r_v dX7_hold_22 rfl ⟨rfl, by rw [hM2]⟩
theorem C_level {G : q_G} {d : Nat} {M : q_Mem} {N : q_MemL} {x : Int} (hx : i32 x) : AC0 G d m_X7_level [I x] M N (CV (PU (I (lvl x)) M N)) := by
  unfold i32 at hx
  have hc : x = 11 ∨ x = 12 ∨ x = 13 ∨ x = 14 ∨ x = 15 ∨ x = 21 ∨ x = 22 ∨ x = 23 ∨ x = 24 ∨ (x = 16 ∨ x = 17 ∨ x = 18 ∨ x = 19 ∨ x = 20) ∨ (x < 11 ∨ 24 < x) := by omega
  rcases hc with rfl | rfl | rfl | rfl | rfl | rfl | rfl | rfl | rfl | hc | hc
  · refine AC.of (L0 := [_]) pn_X7 (Nat.le_of_ble_eq_true rfl) rfl ?_
    refine st_iload_n dX7_level_0 rfl ?_
    refine st_tsIn (off := 79) (tgt := 80) dX7_level_1 (by decide) (by decide) (by decide) rfl rfl ?_
    refine st_iconst dX7_level_80 ?_
    exact r_i dX7_level_81 rfl ⟨rfl, rfl, rfl⟩
  · refine AC.of (L0 := [_]) pn_X7 (Nat.le_of_ble_eq_true rfl) rfl ?_
    refine st_iload_n dX7_level_0 rfl ?_
    refine st_tsIn (off := 81) (tgt := 82) dX7_level_1 (by decide) (by decide) (by decide) rfl rfl ?_
    refine st_iconst dX7_level_82 ?_
    exact r_i dX7_level_83 rfl ⟨rfl, rfl, rfl⟩
  · refine AC.of (L0 := [_]) pn_X7 (Nat.le_of_ble_eq_true rfl) rfl ?_
    refine st_iload_n dX7_level_0 rfl ?_
    refine st_tsIn (off := 83) (tgt := 84) dX7_level_1 (by decide) (by decide) (by decide) rfl rfl ?_
    refine st_bipush dX7_level_84 (by decide) ?_
    exact r_i dX7_level_86 rfl ⟨rfl, rfl, rfl⟩
  · refine AC.of (L0 := [_]) pn_X7 (Nat.le_of_ble_eq_true rfl) rfl ?_
    refine st_iload_n dX7_level_0 rfl ?_
    refine st_tsIn (off := 86) (tgt := 87) dX7_level_1 (by decide) (by decide) (by decide) rfl rfl ?_
    refine st_bipush dX7_level_87 (by decide) ?_
    exact r_i dX7_level_89 rfl ⟨rfl, rfl, rfl⟩
  · refine AC.of (L0 := [_]) pn_X7 (Nat.le_of_ble_eq_true rfl) rfl ?_
    refine st_iload_n dX7_level_0 rfl ?_
    refine st_tsIn (off := 89) (tgt := 90) dX7_level_1 (by decide) (by decide) (by decide) rfl rfl ?_
    refine st_bipush dX7_level_90 (by decide) ?_
    exact r_i dX7_level_92 rfl ⟨rfl, rfl, rfl⟩
  · refine AC.of (L0 := [_]) pn_X7 (Nat.le_of_ble_eq_true rfl) rfl ?_
    refine st_iload_n dX7_level_0 rfl ?_
    refine st_tsIn (off := 77) (tgt := 78) dX7_level_1 (by decide) (by decide) (by decide) rfl rfl ?_
    refine st_iconst dX7_level_78 ?_
    exact r_i dX7_level_79 rfl ⟨rfl, rfl, rfl⟩
  · refine AC.of (L0 := [_]) pn_X7 (Nat.le_of_ble_eq_true rfl) rfl ?_
    refine st_iload_n dX7_level_0 rfl ?_
    refine st_tsIn (off := 75) (tgt := 76) dX7_level_1 (by decide) (by decide) (by decide) rfl rfl ?_
    refine st_iconst dX7_level_76 ?_
    exact r_i dX7_level_77 rfl ⟨rfl, rfl, rfl⟩
  · refine AC.of (L0 := [_]) pn_X7 (Nat.le_of_ble_eq_true rfl) rfl ?_
    refine st_iload_n dX7_level_0 rfl ?_
    refine st_tsIn (off := 73) (tgt := 74) dX7_level_1 (by decide) (by decide) (by decide) rfl rfl ?_
    refine st_iconst dX7_level_74 ?_
    exact r_i dX7_level_75 rfl ⟨rfl, rfl, rfl⟩
  · refine AC.of (L0 := [_]) pn_X7 (Nat.le_of_ble_eq_true rfl) rfl ?_
    refine st_iload_n dX7_level_0 rfl ?_
    refine st_tsIn (off := 71) (tgt := 72) dX7_level_1 (by decide) (by decide) (by decide) rfl rfl ?_
    refine st_iconst dX7_level_72 ?_
    exact r_i dX7_level_73 rfl ⟨rfl, rfl, rfl⟩
  · rcases hc with rfl | rfl | rfl | rfl | rfl
    · refine AC.of (L0 := [_]) pn_X7 (Nat.le_of_ble_eq_true rfl) rfl ?_
      refine st_iload_n dX7_level_0 rfl ?_
      refine st_tsIn (off := 92) (tgt := 93) dX7_level_1 (by decide) (by decide) (by decide) rfl rfl ?_
      refine st_iconst dX7_level_93 ?_
      exact r_i dX7_level_94 rfl ⟨rfl, rfl, rfl⟩
    · refine AC.of (L0 := [_]) pn_X7 (Nat.le_of_ble_eq_true rfl) rfl ?_
      refine st_iload_n dX7_level_0 rfl ?_
      refine st_tsIn (off := 92) (tgt := 93) dX7_level_1 (by decide) (by decide) (by decide) rfl rfl ?_
      refine st_iconst dX7_level_93 ?_
      exact r_i dX7_level_94 rfl ⟨rfl, rfl, rfl⟩
    · refine AC.of (L0 := [_]) pn_X7 (Nat.le_of_ble_eq_true rfl) rfl ?_
      refine st_iload_n dX7_level_0 rfl ?_
      refine st_tsIn (off := 92) (tgt := 93) dX7_level_1 (by decide) (by decide) (by decide) rfl rfl ?_
      refine st_iconst dX7_level_93 ?_
      exact r_i dX7_level_94 rfl ⟨rfl, rfl, rfl⟩
    · refine AC.of (L0 := [_]) pn_X7 (Nat.le_of_ble_eq_true rfl) rfl ?_
      refine st_iload_n dX7_level_0 rfl ?_
      refine st_tsIn (off := 92) (tgt := 93) dX7_level_1 (by decide) (by decide) (by decide) rfl rfl ?_
      refine st_iconst dX7_level_93 ?_
      exact r_i dX7_level_94 rfl ⟨rfl, rfl, rfl⟩
    · refine AC.of (L0 := [_]) pn_X7 (Nat.le_of_ble_eq_true rfl) rfl ?_
      refine st_iload_n dX7_level_0 rfl ?_
      refine st_tsIn (off := 92) (tgt := 93) dX7_level_1 (by decide) (by decide) (by decide) rfl rfl ?_
      refine st_iconst dX7_level_93 ?_
      exact r_i dX7_level_94 rfl ⟨rfl, rfl, rfl⟩
  · have hl : lvl x = 4 := by
      unfold lvl
      repeat' split
      all_goals omega
    rw [hl]
    refine AC.of (L0 := [_]) pn_X7 (Nat.le_of_ble_eq_true rfl) rfl ?_
    refine st_iload_n dX7_level_0 rfl ?_
    refine st_tsOut (tgt := 93) dX7_level_1 (by omega) (by omega) rfl ?_
    refine st_iconst dX7_level_93 ?_
    exact r_i dX7_level_94 rfl ⟨rfl, rfl, rfl⟩
theorem C_operatorOf {G : q_G} {d : Nat} {M : q_Mem} {N : q_MemL} {b : Int} (hb : -1 ≤ b ∧ b ≤ 255) : AC0 G d m_X7_operatorOf [I b] M N (CV (PU (I (opc b)) M N)) := by
  have hc : b = 37 ∨ b = 42 ∨ b = 43 ∨ b = 45 ∨ b = 47 ∨ (b = 38 ∨ b = 39 ∨ b = 40 ∨ b = 41 ∨ b = 44 ∨ b = 46) ∨ (b < 37 ∨ 47 < b) := by omega
  rcases hc with rfl | rfl | rfl | rfl | rfl | hc | hc
  · refine AC.of (L0 := [_]) pn_X7 (Nat.le_of_ble_eq_true rfl) rfl ?_
    refine st_iload_n dX7_operatorOf_0 rfl ?_
    refine st_tsIn (off := 71) (tgt := 72) dX7_operatorOf_1 (by decide) (by decide) (by decide) rfl rfl ?_
    refine st_bipush dX7_operatorOf_72 (by decide) ?_
    exact r_i dX7_operatorOf_74 rfl ⟨rfl, rfl, rfl⟩
  · refine AC.of (L0 := [_]) pn_X7 (Nat.le_of_ble_eq_true rfl) rfl ?_
    refine st_iload_n dX7_operatorOf_0 rfl ?_
    refine st_tsIn (off := 65) (tgt := 66) dX7_operatorOf_1 (by decide) (by decide) (by decide) rfl rfl ?_
    refine st_bipush dX7_operatorOf_66 (by decide) ?_
    exact r_i dX7_operatorOf_68 rfl ⟨rfl, rfl, rfl⟩
  · refine AC.of (L0 := [_]) pn_X7 (Nat.le_of_ble_eq_true rfl) rfl ?_
    refine st_iload_n dX7_operatorOf_0 rfl ?_
    refine st_tsIn (off := 59) (tgt := 60) dX7_operatorOf_1 (by decide) (by decide) (by decide) rfl rfl ?_
    refine st_bipush dX7_operatorOf_60 (by decide) ?_
    exact r_i dX7_operatorOf_62 rfl ⟨rfl, rfl, rfl⟩
  · refine AC.of (L0 := [_]) pn_X7 (Nat.le_of_ble_eq_true rfl) rfl ?_
    refine st_iload_n dX7_operatorOf_0 rfl ?_
    refine st_tsIn (off := 62) (tgt := 63) dX7_operatorOf_1 (by decide) (by decide) (by decide) rfl rfl ?_
    refine st_bipush dX7_operatorOf_63 (by decide) ?_
    exact r_i dX7_operatorOf_65 rfl ⟨rfl, rfl, rfl⟩
  · refine AC.of (L0 := [_]) pn_X7 (Nat.le_of_ble_eq_true rfl) rfl ?_
    refine st_iload_n dX7_operatorOf_0 rfl ?_
    refine st_tsIn (off := 68) (tgt := 69) dX7_operatorOf_1 (by decide) (by decide) (by decide) rfl rfl ?_
    refine st_bipush dX7_operatorOf_69 (by decide) ?_
    exact r_i dX7_operatorOf_71 rfl ⟨rfl, rfl, rfl⟩
  · rcases hc with rfl | rfl | rfl | rfl | rfl | rfl
    · refine AC.of (L0 := [_]) pn_X7 (Nat.le_of_ble_eq_true rfl) rfl ?_
      refine st_iload_n dX7_operatorOf_0 rfl ?_
      refine st_tsIn (off := 74) (tgt := 75) dX7_operatorOf_1 (by decide) (by decide) (by decide) rfl rfl ?_
      refine st_iconst dX7_operatorOf_75 ?_
      exact r_i dX7_operatorOf_76 rfl ⟨rfl, rfl, rfl⟩
    · refine AC.of (L0 := [_]) pn_X7 (Nat.le_of_ble_eq_true rfl) rfl ?_
      refine st_iload_n dX7_operatorOf_0 rfl ?_
      refine st_tsIn (off := 74) (tgt := 75) dX7_operatorOf_1 (by decide) (by decide) (by decide) rfl rfl ?_
      refine st_iconst dX7_operatorOf_75 ?_
      exact r_i dX7_operatorOf_76 rfl ⟨rfl, rfl, rfl⟩
    · refine AC.of (L0 := [_]) pn_X7 (Nat.le_of_ble_eq_true rfl) rfl ?_
      refine st_iload_n dX7_operatorOf_0 rfl ?_
      refine st_tsIn (off := 74) (tgt := 75) dX7_operatorOf_1 (by decide) (by decide) (by decide) rfl rfl ?_
      refine st_iconst dX7_operatorOf_75 ?_
      exact r_i dX7_operatorOf_76 rfl ⟨rfl, rfl, rfl⟩
    · refine AC.of (L0 := [_]) pn_X7 (Nat.le_of_ble_eq_true rfl) rfl ?_
      refine st_iload_n dX7_operatorOf_0 rfl ?_
      refine st_tsIn (off := 74) (tgt := 75) dX7_operatorOf_1 (by decide) (by decide) (by decide) rfl rfl ?_
      refine st_iconst dX7_operatorOf_75 ?_
      exact r_i dX7_operatorOf_76 rfl ⟨rfl, rfl, rfl⟩
    · refine AC.of (L0 := [_]) pn_X7 (Nat.le_of_ble_eq_true rfl) rfl ?_
      refine st_iload_n dX7_operatorOf_0 rfl ?_
      refine st_tsIn (off := 74) (tgt := 75) dX7_operatorOf_1 (by decide) (by decide) (by decide) rfl rfl ?_
      refine st_iconst dX7_operatorOf_75 ?_
      exact r_i dX7_operatorOf_76 rfl ⟨rfl, rfl, rfl⟩
    · refine AC.of (L0 := [_]) pn_X7 (Nat.le_of_ble_eq_true rfl) rfl ?_
      refine st_iload_n dX7_operatorOf_0 rfl ?_
      refine st_tsIn (off := 74) (tgt := 75) dX7_operatorOf_1 (by decide) (by decide) (by decide) rfl rfl ?_
      refine st_iconst dX7_operatorOf_75 ?_
      exact r_i dX7_operatorOf_76 rfl ⟨rfl, rfl, rfl⟩
  · have hl : opc b = -1 := by
      unfold opc
      repeat' split
      all_goals omega
    rw [hl]
    refine AC.of (L0 := [_]) pn_X7 (Nat.le_of_ble_eq_true rfl) rfl ?_
    refine st_iload_n dX7_operatorOf_0 rfl ?_
    refine st_tsOut (tgt := 75) dX7_operatorOf_1 (by omega) (by omega) rfl ?_
    refine st_iconst dX7_operatorOf_75 ?_
    exact r_i dX7_operatorOf_76 rfl ⟨rfl, rfl, rfl⟩
/-- one code put down -/
theorem SR.emit {o c : Nat} {W E : List Int} {M : q_Mem} {x : Int} (ho : isRu o) (h : SR o c W E M) (hE : E.length < 400) : SR o c W (E ++ [x]) (q_up (if M o 1 < 400 then q_up M (o + 1) (M o 1).toNat x else M) o 1 (M o 1 + 1)) := by
  unfold isRu at ho
  obtain ⟨a1, a6, a7⟩ := h
  rw [a6, if_pos (by omega), Int.toNat_natCast]
  refine ⟨?_, ?_, ?_⟩
  · rw [q_up_ne (by omega), q_up_ne (by omega), q_up_ne (by omega), q_up_ne (by omega)]
    exact a1
  · simp [q_up]
  · rw [q_up_ne (by omega), q_upR]
    exact a7.push
theorem SF.emit {o : Nat} {M : q_Mem} {x : Int} (ho : isRu o) : SF o M (q_up (if M o 1 < 400 then q_up M (o + 1) (M o 1).toNat x else M) o 1 (M o 1 + 1)) := by
  split
  · exact (SF.up ho (by omega)).tr (SF.up ho (by omega))
  · exact SF.up ho (by omega)
theorem SE.emit {o : Nat} {k : Int} {M : q_Mem} {x : Int} (ho : isRu o) (h : SE o k M) : SE o (k + 1) (q_up (if M o 1 < 400 then q_up M (o + 1) (M o 1).toNat x else M) o 1 (M o 1 + 1)) := by
  unfold isRu at ho
  obtain ⟨⟨a1, a2⟩, ⟨b1, b2⟩, ⟨c1, c2⟩, ⟨d1, d2⟩, e1, e2⟩ := h
  have e84 : ∀ j, q_up (if M o 1 < 400 then q_up M (o + 1) (M o 1).toNat x else M) o 1 (M o 1 + 1) 84 j = M 84 j := by
    intro j
    rw [q_up_ne (by omega)]
    split
    · rw [q_up_ne (by omega)]
    · rfl
  unfold SE
  rw [e84, e84, e84, e84]
  have eo : q_up (if M o 1 < 400 then q_up M (o + 1) (M o 1).toNat x else M) o 1 (M o 1 + 1) o 1 = M o 1 + 1 := by simp [q_up]
  rw [eo]
  exact ⟨⟨a1, by omega⟩, ⟨b1, by omega⟩, ⟨by omega, by omega⟩, ⟨d1, by omega⟩, by omega, by omega⟩
theorem VW.emit {o : Nat} {M : q_Mem} {x : Int} (ho : isRu o) (h : VW M) : VW (q_up (if M o 1 < 400 then q_up M (o + 1) (M o 1).toNat x else M) o 1 (M o 1 + 1)) := by
  unfold isRu at ho
  unfold VW
  rw [q_up_ne (by omega)]
  split
  · rw [q_up_ne (by omega)]
    exact h
  · exact h
/-- one operator held -/
theorem SF.hold {o : Nat} {M : q_Mem} {x : Int} (ho : isRu o) : SF o M (q_up (if M 84 2 < 64 then q_up M 85 (M 84 2).toNat x else M) 84 2 (M 84 2 + 1)) := by
  split
  · exact (SF.up ho (by omega)).tr (SF.up ho (by omega))
  · exact SF.up ho (by omega)
theorem SE.hold {o : Nat} {k : Int} {M : q_Mem} {x : Int} (ho : isRu o) (h : SE o k M) : SE o (k + 1) (q_up (if M 84 2 < 64 then q_up M 85 (M 84 2).toNat x else M) 84 2 (M 84 2 + 1)) := by
  unfold isRu at ho
  obtain ⟨⟨a1, a2⟩, ⟨b1, b2⟩, ⟨c1, c2⟩, ⟨d1, d2⟩, e1, e2⟩ := h
  have e84 : ∀ j, ¬ j = 2 → q_up (if M 84 2 < 64 then q_up M 85 (M 84 2).toNat x else M) 84 2 (M 84 2 + 1) 84 j = M 84 j := by
    intro j hj
    simp only [q_up]
    rw [if_neg (by omega)]
    split
    · rfl
    · rfl
  have e2' : q_up (if M 84 2 < 64 then q_up M 85 (M 84 2).toNat x else M) 84 2 (M 84 2 + 1) 84 2 = M 84 2 + 1 := by simp [q_up]
  have eo : q_up (if M 84 2 < 64 then q_up M 85 (M 84 2).toNat x else M) 84 2 (M 84 2 + 1) o 1 = M o 1 := by
    rw [q_up_ne (by omega)]
    split
    · rw [q_up_ne (by omega)]
    · rfl
  unfold SE
  rw [e84 3 (by omega), e84 4 (by omega), e84 5 (by omega), e2', eo]
  exact ⟨⟨by omega, by omega⟩, ⟨b1, by omega⟩, ⟨by omega, by omega⟩, ⟨d1, by omega⟩, by omega, by omega⟩
theorem VW.hold {M : q_Mem} {x : Int} (h : VW M) (hx : 0 ≤ x ∧ x ≤ 31) : VW (q_up (if M 84 2 < 64 then q_up M 85 (M 84 2).toNat x else M) 84 2 (M 84 2 + 1)) := by
  unfold VW
  rw [q_up_ne (by omega)]
  split
  · rw [q_upR]
    intro j
    have := h j
    unfold upR
    split <;> omega
  · exact h
/-- what waits put down -/
theorem C_settle {G : q_G} {d : Nat} {M : q_Mem} {N : q_MemL} {o c : Nat} {W E : List Int} {lv : Int} (hd : 2 ≤ d) (ho : isRu o) (h : SR o c W E M) (hV : VW M) (hl : 1 ≤ lv ∧ lv ≤ 6) (hW : W.length ≤ 60) (hE : W.length + E.length ≤ 399) (hc : ∀ x, x ∈ W → 11 ≤ x ∧ x ≤ 24) : AC0 G d m_X7_settle [.ref 84, .ref o, I lv] M N (CN (fun M1 N1 => N1 = N ∧ SF o M M1 ∧ VW M1 ∧ Exc [84, o, o + 1] M M1 ∧ SR o c (stl lv W E).1 (stl lv W E).2 M1)) := by
  have lp : ∀ (W E : List Int) (i : Nat) (M1 : q_Mem), i + W.length ≤ 60 → W.length + E.length ≤ 399 → (∀ x, x ∈ W → 11 ≤ x ∧ x ≤ 24) → SR o c W E M1 → VW M1 → SF o M M1 → Exc [84, o, o + 1] M M1 → AW0 G d m_X7_settle 2 [some (.ref 84), some (.ref o), some (I lv), some (I i), none] [] M1 N (CN (fun M2 N1 => N1 = N ∧ SF o M M2 ∧ VW M2 ∧ Exc [84, o, o + 1] M M2 ∧ SR o c (stl lv W E).1 (stl lv W E).2 M2)) := by
    intro W
    induction W with
    | nil =>
      intro E i M1 hi hE hc h hV hf hX
      refine st_iload_n dX7_settle_2 rfl ?_
      refine st_bipush dX7_settle_3 (by decide) ?_
      refine st_icmp_ge (tgt := 85) dX7_settle_5 (by omega) (by omega) rfl (fun c1 => ?_) (fun c1 => ?_)
      · skip
        omega
      · refine st_aload_n dX7_settle_8 rfl ?_
        refine st_getfi dX7_settle_9 f_X7_33 (by first | with_reducible assumption | rfl) (by rfl) ?_
        rw [h.1.1]
        refine st_if_le (tgt := 85) dX7_settle_12 (by omega) rfl (fun c2 => ?_) (fun c2 => ?_)
        · skip
          refine r_v dX7_settle_85 rfl ⟨rfl, hf, hV, hX, h⟩
        · skip
          simp at c2
    | cons x W ih =>
      intro E i M1 hi hE hc h hV hf hX
      have hx := hc x (by simp)
      simp only [List.length_cons] at hi hE
      have h0 := h
      obtain ⟨⟨a1, a2, a3, a4, a5⟩, a6, a7⟩ := h
      rw [stl_c]
      have hlr := lvl_rng x
      refine st_iload_n dX7_settle_2 rfl ?_
      refine st_bipush dX7_settle_3 (by decide) ?_
      refine st_icmp_ge (tgt := 85) dX7_settle_5 (by omega) (by omega) rfl (fun c1 => ?_) (fun c1 => ?_)
      · skip
        omega
      · refine st_aload_n dX7_settle_8 rfl ?_
        refine st_getfi dX7_settle_9 f_X7_33 (by first | with_reducible assumption | rfl) (by rfl) ?_
        rw [a1]
        simp only [List.length_cons]
        refine st_if_le (tgt := 85) dX7_settle_12 (by omega) rfl (fun c2 => ?_) (fun c2 => ?_)
        · skip
          omega
        · refine st_aload_n dX7_settle_15 rfl ?_
          refine st_getfr dX7_settle_16 f_X7_11 (by first | with_reducible assumption | rfl) (by rfl) ?_
          refine st_aload_n dX7_settle_19 rfl ?_
          refine st_getfi dX7_settle_20 f_X7_33 (by first | with_reducible assumption | rfl) (by rfl) ?_
          rw [a1]
          simp only [List.length_cons]
          refine st_iconst dX7_settle_23 ?_
          refine st_isub dX7_settle_24 ?_
          refine c_S2p (d' := d - 1) dX7_settle_25 l_X7_151 k_X10_cell s_X10_cell (by omega) (Nat.le_of_ble_eq_true rfl) (C_cell (n := 64) (z := x) rfl (by omega) (by omega) (by rw [if_pos (by omega), show (((W.length + 1 : Nat) : Int) - 1).toNat = W.length by omega]; exact a2.1.symm)) ?_
          refine st_istore (L' := [_, _, _, _, _]) dX7_settle_28 (by decide) rfl rfl ?_
          refine st_iload dX7_settle_30 rfl ?_
          refine c_S1p (d' := d - 1) dX7_settle_32 l_X7_122 k_X7_level s_X7_level (by omega) (Nat.le_of_ble_eq_true rfl) (C_level (by unfold i32; omega)) ?_
          refine st_iload_n dX7_settle_35 rfl ?_
          refine st_icmp_ge (tgt := 42) dX7_settle_36 (by omega) (by omega) rfl (fun c3 => ?_) (fun c3 => ?_)
          · refine st_aload_n dX7_settle_42 rfl ?_
            refine st_dup dX7_settle_43 rfl ?_
            refine st_getfi dX7_settle_44 f_X7_33 (by first | with_reducible assumption | rfl) (by rfl) ?_
            rw [if_neg (by omega), a1]
            simp only [List.length_cons]
            refine st_iconst dX7_settle_47 ?_
            refine st_isub dX7_settle_48 ?_
            refine st_putfi dX7_settle_49 w_X7_33 (by first | with_reducible assumption | rfl) (by rfl) rfl rfl ?_
            refine st_aload_n dX7_settle_52 rfl ?_
            refine st_dup dX7_settle_53 rfl ?_
            refine st_getfi dX7_settle_54 f_X7_39 (by first | with_reducible assumption | rfl) (by rfl) ?_
            rw [show q_up M1 84 2 (((W.length + 1 : Nat) : Int) - 1) 84 4 = (dK (x :: W) : Int) by simp [q_up, a4]]
            -- behind the operator's taking
            have nx : ∀ (z : Int) (M2 : q_Mem), (z = if x = 21 then 1 else 0) → M2 = q_up M1 84 2 (((W.length + 1 : Nat) : Int) - 1) → AW0 G d m_X7_settle 69 [some (.ref 84), some (.ref o), some (I lv), some (I i), some (I x)] [I z, I (dK (x :: W)), .ref 84] M2 N (CN (fun M2 N1 => N1 = N ∧ SF o M M2 ∧ VW M2 ∧ Exc [84, o, o + 1] M M2 ∧ SR o c (stl lv W (E ++ [x])).1 (stl lv W (E ++ [x])).2 M2)) := by
              intro z M2 hz hM2
              have hx24 : ¬ x = 24 := fun e => by have := lvl_0.2 e; omega
              have hdz : ((dK (x :: W) : Nat) : Int) - z = (dK W : Int) := by
                rw [dK_c, hz]
                by_cases e : x = 21
                · rw [if_pos (by omega), if_pos e]
                  omega
                · rw [if_neg (by omega), if_neg e]
                  omega
              have h3 : SR o c W E (q_up M2 84 4 (dK W)) := by
                unfold isRu at ho
                rw [hM2]
                refine ⟨⟨?_, ?_, ?_, ?_, ?_⟩, ?_, ?_⟩
                · simp [q_up]
                · rw [q_up_ne (by omega), q_up_ne (by omega)]
                  exact a2.2
                · simp [q_up, a3]
                · simp [q_up]
                · simp [q_up, a5]
                  rw [bK_c, if_neg hx24]
                  omega
                · rw [q_up_ne (by omega), q_up_ne (by omega)]
                  exact a6
                · rw [q_up_ne (by omega), q_up_ne (by omega)]
                  exact a7
              refine st_isub dX7_settle_69 ?_
              rw [hdz]
              refine st_putfi dX7_settle_70 w_X7_39 (by first | with_reducible assumption | rfl) (by rfl) rfl rfl ?_
              refine st_aload_n dX7_settle_73 rfl ?_
              refine st_iload dX7_settle_74 rfl ?_
              refine c_S2v (d' := d - 1) dX7_settle_76 l_X7_110 k_X7_emit s_X7_emit (by omega) (Nat.le_of_ble_eq_true rfl) (C_emit (by omega) ho (by rw [h3.2.1]; omega)) (fun M3 N3 hx => ?_)
              obtain ⟨rfl, hM3⟩ := hx
              refine st_iinc (L' := [_, _, _, _, _]) dX7_settle_79 rfl (by decide) rfl rfl ?_
              refine st_goto (tgt := 2) dX7_settle_82 rfl ?_
              have hf2 : SF o M1 (q_up M2 84 4 (dK W)) := by rw [hM2]; exact (SF.up ho (by omega)).tr (SF.up ho (by omega))
              have hX2 : Exc [84, o, o + 1] M1 (q_up M2 84 4 (dK W)) := by rw [hM2]; exact (Exc.up (by simp)).tr (Exc.up (by simp))
              have hV2 : VW (q_up M2 84 4 (dK W)) := by
                unfold isRu at ho
                exact hV.exc hX2 (by simp; omega)
              have hX3 : Exc [84, o, o + 1] (q_up M2 84 4 (dK W)) M3 := by
                rw [hM3]
                split
                · exact (Exc.up (by simp)).tr (Exc.up (by simp))
                · exact Exc.up (by simp)
              have ih2 := ih (E ++ [x]) (i + 1) M3 (by omega) (by simp; omega) (fun y hy => hc y (by simp [hy])) (by rw [hM3]; exact h3.emit ho (by omega)) (by rw [hM3]; exact hV2.emit ho) (hf.tr (hf2.tr (by rw [hM3]; exact SF.emit ho))) (hX.tr (hX2.tr hX3))
              exact AW.le (AW.to ih2 (h2 := by simp; rfl)) (by simp [q_le])
            refine st_iload dX7_settle_57 rfl ?_
            refine st_bipush dX7_settle_59 (by decide) ?_
            refine st_icmp_ne (tgt := 68) dX7_settle_61 (by omega) (by omega) rfl (fun c4 => ?_) (fun c4 => ?_)
            · refine st_iconst dX7_settle_68 ?_
              exact nx 0 _ (by rw [if_neg c4]) rfl
            · refine st_iconst dX7_settle_64 ?_
              refine st_goto (tgt := 69) dX7_settle_65 rfl ?_
              exact nx 1 _ (by rw [if_pos c4]) rfl
          · refine st_goto (tgt := 85) dX7_settle_39 rfl ?_
            rw [if_pos (by omega)]
            refine r_v dX7_settle_85 rfl ⟨rfl, hf, hV, hX, h0⟩
  refine AC.of (L0 := [_, _, _, none, none]) pn_X7 (Nat.le_of_ble_eq_true rfl) rfl ?_
  refine st_iconst dX7_settle_0 ?_
  refine st_istore_n (L' := [_, _, _, _, _]) dX7_settle_1 (by decide) rfl rfl ?_
  exact lp W E 0 M (by omega) hE hc h hV SF.rf Exc.rf
/-- the same in a fault -/
theorem C_settleE {G : q_G} {d : Nat} {M : q_Mem} {N : q_MemL} {o : Nat} {k lv : Int} (hd : 2 ≤ d) (ho : isRu o) (h : SE o k M) (hk : k ≤ 50000) (hV : VW M) (hl : 0 ≤ lv ∧ lv ≤ 6) : AC0 G d m_X7_settle [.ref 84, .ref o, I lv] M N (CN (fun M1 N1 => N1 = N ∧ SF o M M1 ∧ VW M1 ∧ Exc [84, o, o + 1] M M1 ∧ SE o (k + 64) M1)) := by
  have lp : ∀ (m i : Nat) (M1 : q_Mem), i + m = 64 → SE o (k + i) M1 → VW M1 → SF o M M1 → Exc [84, o, o + 1] M M1 → AW0 G d m_X7_settle 2 [some (.ref 84), some (.ref o), some (I lv), some (I i), none] [] M1 N (CN (fun M2 N1 => N1 = N ∧ SF o M M2 ∧ VW M2 ∧ Exc [84, o, o + 1] M M2 ∧ SE o (k + 64) M2)) := by
    intro m
    induction m with
    | zero =>
      intro i M1 hi h hV hf hX
      refine st_iload_n dX7_settle_2 rfl ?_
      refine st_bipush dX7_settle_3 (by decide) ?_
      refine st_icmp_ge (tgt := 85) dX7_settle_5 (by omega) (by omega) rfl (fun c1 => ?_) (fun c1 => ?_)
      · skip
        refine r_v dX7_settle_85 rfl ⟨rfl, hf, hV, hX, h.mono (by omega)⟩
      · skip
        omega
    | succ m ih =>
      intro i M1 hi h hV hf hX
      have h0 := h
      obtain ⟨⟨a1, a2⟩, ⟨b1, b2⟩, ⟨c1', c2'⟩, ⟨d1, d2⟩, e1, e2⟩ := h
      refine st_iload_n dX7_settle_2 rfl ?_
      refine st_bipush dX7_settle_3 (by decide) ?_
      refine st_icmp_ge (tgt := 85) dX7_settle_5 (by omega) (by omega) rfl (fun c1 => ?_) (fun c1 => ?_)
      · skip
        omega
      · refine st_aload_n dX7_settle_8 rfl ?_
        refine st_getfi dX7_settle_9 f_X7_33 (by first | with_reducible assumption | rfl) (by rfl) ?_
        refine st_if_le (tgt := 85) dX7_settle_12 (by omega) rfl (fun c2 => ?_) (fun c2 => ?_)
        · skip
          refine r_v dX7_settle_85 rfl ⟨rfl, hf, hV, hX, h0.mono (by omega)⟩
        · refine st_aload_n dX7_settle_15 rfl ?_
          refine st_getfr dX7_settle_16 f_X7_11 (by first | with_reducible assumption | rfl) (by rfl) ?_
          refine st_aload_n dX7_settle_19 rfl ?_
          refine st_getfi dX7_settle_20 f_X7_33 (by first | with_reducible assumption | rfl) (by rfl) ?_
          refine st_iconst dX7_settle_23 ?_
          refine st_isub dX7_settle_24 ?_
          have hz : ∃ x : Int, (0 ≤ x ∧ x ≤ 31) ∧ x = if 0 ≤ M1 84 2 - 1 ∧ M1 84 2 - 1 < 64 then M1 85 (M1 84 2 - 1).toNat else 0 := by
            refine ⟨_, ?_, rfl⟩
            split
            · exact hV _
            · omega
          obtain ⟨x, hx, hxe⟩ := hz
          refine c_S2p (d' := d - 1) dX7_settle_25 l_X7_151 k_X10_cell s_X10_cell (by omega) (Nat.le_of_ble_eq_true rfl) (C_cell (n := 64) (z := x) rfl (by omega) (by omega) hxe) ?_
          refine st_istore (L' := [_, _, _, _, _]) dX7_settle_28 (by decide) rfl rfl ?_
          refine st_iload dX7_settle_30 rfl ?_
          refine c_S1p (d' := d - 1) dX7_settle_32 l_X7_122 k_X7_level s_X7_level (by omega) (Nat.le_of_ble_eq_true rfl) (C_level (by unfold i32; omega)) ?_
          have hlr := lvl_rng x
          refine st_iload_n dX7_settle_35 rfl ?_
          refine st_icmp_ge (tgt := 42) dX7_settle_36 (by omega) (by omega) rfl (fun c3 => ?_) (fun c3 => ?_)
          · refine st_aload_n dX7_settle_42 rfl ?_
            refine st_dup dX7_settle_43 rfl ?_
            refine st_getfi dX7_settle_44 f_X7_33 (by first | with_reducible assumption | rfl) (by rfl) ?_
            refine st_iconst dX7_settle_47 ?_
            refine st_isub dX7_settle_48 ?_
            refine st_putfi dX7_settle_49 w_X7_33 (by first | with_reducible assumption | rfl) (by rfl) rfl rfl ?_
            refine st_aload_n dX7_settle_52 rfl ?_
            refine st_dup dX7_settle_53 rfl ?_
            refine st_getfi dX7_settle_54 f_X7_39 (by first | with_reducible assumption | rfl) (by rfl) ?_
            rw [show q_up M1 84 2 (M1 84 2 - 1) 84 4 = M1 84 4 by simp [q_up]]
            have nx : ∀ (z : Int), (z = 0 ∨ z = 1) → AW0 G d m_X7_settle 69 [some (.ref 84), some (.ref o), some (I lv), some (I i), some (I x)] [I z, I (M1 84 4), .ref 84] (q_up M1 84 2 (M1 84 2 - 1)) N (CN (fun M2 N1 => N1 = N ∧ SF o M M2 ∧ VW M2 ∧ Exc [84, o, o + 1] M M2 ∧ SE o (k + 64) M2)) := by
              intro z hz
              have hX2 : Exc [84, o, o + 1] M1 (q_up (q_up M1 84 2 (M1 84 2 - 1)) 84 4 (M1 84 4 - z)) := (Exc.up (by simp)).tr (Exc.up (by simp))
              have hf2 : SF o M1 (q_up (q_up M1 84 2 (M1 84 2 - 1)) 84 4 (M1 84 4 - z)) := (SF.up ho (by omega)).tr (SF.up ho (by omega))
              have hV2 : VW (q_up (q_up M1 84 2 (M1 84 2 - 1)) 84 4 (M1 84 4 - z)) := by
                unfold isRu at ho
                exact hV.exc hX2 (by simp; omega)
              have hoo : q_up (q_up M1 84 2 (M1 84 2 - 1)) 84 4 (M1 84 4 - z) o 1 = M1 o 1 := by
                unfold isRu at ho
                rw [q_up_ne (by omega), q_up_ne (by omega)]
              refine st_isub dX7_settle_69 ?_
              refine st_putfi dX7_settle_70 w_X7_39 (by first | with_reducible assumption | rfl) (by rfl) rfl rfl ?_
              refine st_aload_n dX7_settle_73 rfl ?_
              refine st_iload dX7_settle_74 rfl ?_
              refine c_S2v (d' := d - 1) dX7_settle_76 l_X7_110 k_X7_emit s_X7_emit (by omega) (Nat.le_of_ble_eq_true rfl) (C_emit (by omega) ho (by rw [hoo]; omega)) (fun M3 N3 hx => ?_)
              obtain ⟨rfl, hM3⟩ := hx
              have hX3 : Exc [84, o, o + 1] (q_up (q_up M1 84 2 (M1 84 2 - 1)) 84 4 (M1 84 4 - z)) M3 := by
                rw [hM3]
                split
                · exact (Exc.up (by simp)).tr (Exc.up (by simp))
                · exact Exc.up (by simp)
              have hS3 : SE o (k + ((i + 1 : Nat) : Int)) M3 := by
                have h84 : ∀ j, M3 84 j = q_up (q_up M1 84 2 (M1 84 2 - 1)) 84 4 (M1 84 4 - z) 84 j := by
                  intro j
                  unfold isRu at ho
                  rw [hM3, q_up_ne (by omega)]
                  split
                  · rw [q_up_ne (by omega)]
                  · rfl
                have ho1 : M3 o 1 = M1 o 1 + 1 := by
                  rw [hM3, hoo]
                  simp [q_up]
                unfold SE
                rw [h84, h84, h84, h84, ho1]
                simp [q_up]
                omega
              refine st_iinc (L' := [_, _, _, _, _]) dX7_settle_79 rfl (by decide) rfl rfl ?_
              refine st_goto (tgt := 2) dX7_settle_82 rfl ?_
              exact AW.le (AW.to (ih (i + 1) M3 (by omega) hS3 (by rw [hM3]; exact hV2.emit ho) (hf.tr (hf2.tr (by rw [hM3]; exact SF.emit ho))) (hX.tr (hX2.tr hX3))) (h2 := by simp; rfl)) (by simp [q_le])
            refine st_iload dX7_settle_57 rfl ?_
            refine st_bipush dX7_settle_59 (by decide) ?_
            refine st_icmp_ne (tgt := 68) dX7_settle_61 (by omega) (by omega) rfl (fun c4 => ?_) (fun c4 => ?_)
            · refine st_iconst dX7_settle_68 ?_
              exact nx 0 (Or.inl rfl)
            · refine st_iconst dX7_settle_64 ?_
              refine st_goto (tgt := 69) dX7_settle_65 rfl ?_
              exact nx 1 (Or.inr rfl)
          · refine st_goto (tgt := 85) dX7_settle_39 rfl ?_
            refine r_v dX7_settle_85 rfl ⟨rfl, hf, hV, hX, h0.mono (by omega)⟩
  refine AC.of (L0 := [_, _, _, none, none]) pn_X7 (Nat.le_of_ble_eq_true rfl) rfl ?_
  refine st_iconst dX7_settle_0 ?_
  refine st_istore_n (L' := [_, _, _, _, _]) dX7_settle_1 (by decide) rfl rfl ?_
  exact lp 64 0 M (by omega) (by simpa using h) hV SF.rf Exc.rf


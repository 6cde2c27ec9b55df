/-! the reference: all of its state into an image, and back -/
/-- where a row of the state lies in an image, and its length -/
def ofR (a : Nat) : Nat × Nat := if a = 113 then (1, 9) else if a = 114 then (10, 7) else if a = 115 then (17, 7) else if a = 116 then (24, 7) else if a = 117 then (31, 42) else if a = 118 then (73, 7) else if a = 119 then (80, 3) else if a = 120 then (83, 3) else if a = 121 then (86, 3) else if a = 122 then (89, 8) else if a = 123 then (97, 8) else if a = 124 then (105, 8) else if a = 145 then (113, 1260) else (0, 0)
/-- the state in a row -/
def linO (M : q_Mem) (i : Nat) : Int := if i < 1 then M 112 45 else if i < 10 then M 113 (i - 1) else if i < 17 then M 114 (i - 10) else if i < 24 then M 115 (i - 17) else if i < 31 then M 116 (i - 24) else if i < 73 then M 117 (i - 31) else if i < 80 then M 118 (i - 73) else if i < 83 then M 119 (i - 80) else if i < 86 then M 120 (i - 83) else if i < 89 then M 121 (i - 86) else if i < 97 then M 122 (i - 89) else if i < 105 then M 123 (i - 97) else if i < 113 then M 124 (i - 105) else M 145 (i - 113)
theorem linO_row (M : q_Mem) {a j : Nat} (h : j < (ofR a).2) : linO M ((ofR a).1 + j) = M a j := by
  by_cases e1 : a = 113
  · subst e1; have h : j < 9 := h
    show linO M (1 + j) = _
    unfold linO; rw [if_neg (by omega), if_pos (by omega), show 1 + j - 1 = j by omega]
  by_cases e2 : a = 114
  · subst e2; have h : j < 7 := h
    show linO M (10 + j) = _
    unfold linO; rw [if_neg (by omega), if_neg (by omega), if_pos (by omega), show 10 + j - 10 = j by omega]
  by_cases e3 : a = 115
  · subst e3; have h : j < 7 := h
    show linO M (17 + j) = _
    unfold linO; rw [if_neg (by omega), if_neg (by omega), if_neg (by omega), if_pos (by omega), show 17 + j - 17 = j by omega]
  by_cases e4 : a = 116
  · subst e4; have h : j < 7 := h
    show linO M (24 + j) = _
    unfold linO; rw [if_neg (by omega), if_neg (by omega), if_neg (by omega), if_neg (by omega), if_pos (by omega), show 24 + j - 24 = j by omega]
  by_cases e5 : a = 117
  · subst e5; have h : j < 42 := h
    show linO M (31 + j) = _
    unfold linO; rw [if_neg (by omega), if_neg (by omega), if_neg (by omega), if_neg (by omega), if_neg (by omega), if_pos (by omega), show 31 + j - 31 = j by omega]
  by_cases e6 : a = 118
  · subst e6; have h : j < 7 := h
    show linO M (73 + j) = _
    unfold linO; rw [if_neg (by omega), if_neg (by omega), if_neg (by omega), if_neg (by omega), if_neg (by omega), if_neg (by omega), if_pos (by omega), show 73 + j - 73 = j by omega]
  by_cases e7 : a = 119
  · subst e7; have h : j < 3 := h
    show linO M (80 + j) = _
    unfold linO; rw [if_neg (by omega), if_neg (by omega), if_neg (by omega), if_neg (by omega), if_neg (by omega), if_neg (by omega), if_neg (by omega), if_pos (by omega), show 80 + j - 80 = j by omega]
  by_cases e8 : a = 120
  · subst e8; have h : j < 3 := h
    show linO M (83 + j) = _
    unfold linO; rw [if_neg (by omega), if_neg (by omega), if_neg (by omega), if_neg (by omega), if_neg (by omega), if_neg (by omega), if_neg (by omega), if_neg (by omega), if_pos (by omega), show 83 + j - 83 = j by omega]
  by_cases e9 : a = 121
  · subst e9; have h : j < 3 := h
    show linO M (86 + j) = _
    unfold linO; rw [if_neg (by omega), if_neg (by omega), if_neg (by omega), if_neg (by omega), if_neg (by omega), if_neg (by omega), if_neg (by omega), if_neg (by omega), if_neg (by omega), if_pos (by omega), show 86 + j - 86 = j by omega]
  by_cases e10 : a = 122
  · subst e10; have h : j < 8 := h
    show linO M (89 + j) = _
    unfold linO; rw [if_neg (by omega), if_neg (by omega), if_neg (by omega), if_neg (by omega), if_neg (by omega), if_neg (by omega), if_neg (by omega), if_neg (by omega), if_neg (by omega), if_neg (by omega), if_pos (by omega), show 89 + j - 89 = j by omega]
  by_cases e11 : a = 123
  · subst e11; have h : j < 8 := h
    show linO M (97 + j) = _
    unfold linO; rw [if_neg (by omega), if_neg (by omega), if_neg (by omega), if_neg (by omega), if_neg (by omega), if_neg (by omega), if_neg (by omega), if_neg (by omega), if_neg (by omega), if_neg (by omega), if_neg (by omega), if_pos (by omega), show 97 + j - 97 = j by omega]
  by_cases e12 : a = 124
  · subst e12; have h : j < 8 := h
    show linO M (105 + j) = _
    unfold linO; rw [if_neg (by omega), if_neg (by omega), if_neg (by omega), if_neg (by omega), if_neg (by omega), if_neg (by omega), if_neg (by omega), if_neg (by omega), if_neg (by omega), if_neg (by omega), if_neg (by omega), if_neg (by omega), if_pos (by omega), show 105 + j - 105 = j by omega]
  by_cases e13 : a = 145
  · subst e13; have h : j < 1260 := h
    show linO M (113 + j) = _
    unfold linO; rw [if_neg (by omega), if_neg (by omega), if_neg (by omega), if_neg (by omega), if_neg (by omega), if_neg (by omega), if_neg (by omega), if_neg (by omega), if_neg (by omega), if_neg (by omega), if_neg (by omega), if_neg (by omega), if_neg (by omega), show 113 + j - 113 = j by omega]
  · exfalso
    have : ofR a = (0, 0) := by unfold ofR; rw [if_neg e1, if_neg e2, if_neg e3, if_neg e4, if_neg e5, if_neg e6, if_neg e7, if_neg e8, if_neg e9, if_neg e10, if_neg e11, if_neg e12, if_neg e13]
    rw [this] at h
    exact absurd h (by simp)
theorem C_carryF {G : q_G} {d : Nat} {M : q_Mem} {N : q_MemL} {r n a : Nat} {vs : List Value} (hr : S0[r]? = some (20, n, vs)) (hn : n ≤ 2000) (h1 : ¬ r = 112) (h2 : ¬ r = 165) (ha : M 112 80 = a) (hg : M 112 81 = 0) (hab : a + n ≤ 7500) : AC0 G d m_X11_carryRow [.ref 112, .ref r] M N (CN (fun M' N' => N' = N ∧ M' = q_up (q_cp M r 165 0 a n) 112 80 ((a + n : Nat) : Int))) := by
  refine AC.of (L0 := [_, _, none]) pn_X11 (Nat.le_of_ble_eq_true rfl) rfl ?_
  refine st_iconst dX11_carryRow_0 ?_
  refine st_istore_n (L' := [_, _, _]) dX11_carryRow_1 (by decide) rfl rfl ?_
  have loop : ∀ (m k : Nat) (M1 : q_Mem), k + m = n → M1 = q_up (q_cp M r 165 0 a k) 112 80 ((a + k : Nat) : Int) → AW0 G d m_X11_carryRow 2 [some (.ref 112), some (.ref r), some (I k)] [] M1 N (CN (fun M' N' => N' = N ∧ M' = q_up (q_cp M r 165 0 a n) 112 80 ((a + n : Nat) : Int))) := by
    intro m
    induction m with
    | zero =>
      intro k M1 hk e1
      refine st_iload_n dX11_carryRow_2 rfl ?_
      refine st_aload_n dX11_carryRow_3 rfl ?_
      refine st_alen dX11_carryRow_4 hr (by decide) ?_
      refine st_icmp_ge (tgt := 58) dX11_carryRow_5 (by omega) (by omega) rfl (fun h => ?_) (fun h => ?_)
      · skip
        exact r_v dX11_carryRow_58 rfl ⟨rfl, by rw [e1, show k = n by omega]⟩
      · skip
        omega
    | succ m ih =>
      intro k M1 hk e1
      have f81 : M1 112 81 = 0 := by rw [e1]; simp [q_up, q_cp, hg]
      have f80 : M1 112 80 = ((a + k : Nat) : Int) := by rw [e1]; simp [q_up]
      have fr : M1 r k = M r k := by rw [e1, q_up_ne h1]; simp [q_cp, h2]
      refine st_iload_n dX11_carryRow_2 rfl ?_
      refine st_aload_n dX11_carryRow_3 rfl ?_
      refine st_alen dX11_carryRow_4 hr (by decide) ?_
      refine st_icmp_ge (tgt := 58) dX11_carryRow_5 (by omega) (by omega) rfl (fun h => ?_) (fun h => ?_)
      · skip
        omega
      · refine st_aload_n dX11_carryRow_8 rfl ?_
        refine st_getfi dX11_carryRow_9 f_X11_627 (by first | with_reducible assumption | rfl) (by rfl) ?_
        rw [f81]
        refine st_if_eq (tgt := 30) dX11_carryRow_12 (by omega) rfl (fun h3 => ?_) (fun h3 => ?_)
        · refine st_aload_n dX11_carryRow_30 rfl ?_
          refine st_getfr dX11_carryRow_31 f_X11_173 (by first | with_reducible assumption | rfl) (by rfl) ?_
          refine st_aload_n dX11_carryRow_34 rfl ?_
          refine st_getfi dX11_carryRow_35 f_X11_630 (by first | with_reducible assumption | rfl) (by rfl) ?_
          rw [f80]
          refine st_aload_n dX11_carryRow_38 rfl ?_
          refine st_iload_n dX11_carryRow_39 rfl ?_
          refine st_ialdK (k' := k) dX11_carryRow_40 hr rfl (by omega) (hn := by omega) ?_
          rw [fr]
          first | refine st_iastK (k' := _) dX11_carryRow_41 (by first | with_reducible assumption | rfl) rfl (by omega) (hn := by first | decide | omega) ?_ | refine st_iast dX11_carryRow_41 (by first | with_reducible assumption | rfl) (by omega) (by omega) (hn := by first | decide | omega) ?_
          refine st_aload_n dX11_carryRow_42 rfl ?_
          refine st_dup dX11_carryRow_43 rfl ?_
          refine st_getfi dX11_carryRow_44 f_X11_630 (by first | with_reducible assumption | rfl) (by rfl) ?_
          have e80 : q_up M1 165 (a + k) (M r k) 112 80 = ((a + k : Nat) : Int) := by rw [q_up_ne (by decide)]; exact f80
          rw [e80]
          refine st_iconst dX11_carryRow_47 ?_
          refine st_iadd dX11_carryRow_48 ?_
          refine st_putfi dX11_carryRow_49 w_X11_630 (by first | with_reducible assumption | rfl) (by rfl) rfl rfl ?_
          refine st_iinc (L' := [_, _, _]) dX11_carryRow_52 rfl (by decide) rfl rfl ?_
          refine st_goto (tgt := 2) dX11_carryRow_55 rfl ?_
          refine AW.to (ih (k + 1) (q_up (q_up M1 165 (a + k) (M r k)) 112 80 ((a + k : Nat) + 1)) (by omega) ?_) (h2 := by simp)
          rw [e1]
          funext a' j
          by_cases c1 : a' = 112
          · subst c1
            by_cases c2 : j = 80
            · subst c2; simp [q_up]; omega
            · simp [q_up, q_cp, c2]
          · by_cases c3 : a' = 165
            · subst c3
              by_cases c4 : j = a + k
              · subst c4; simp [q_up, q_cp]
              · have : (a ≤ j ∧ j < a + (k + 1)) ↔ (a ≤ j ∧ j < a + k) := by omega
                simp only [q_up, q_cp]
                simp [c4, this]
            · simp [q_up, q_cp, c1, c3]
        · skip
          omega
  refine AW.to (loop n 0 (q_up (q_cp M r 165 0 a 0) 112 80 ((a + 0 : Nat) : Int)) (Nat.zero_add _) rfl) (h4 := ?_)
  funext a' j
  by_cases c1 : a' = 112 ∧ j = 80
  · obtain ⟨rfl, rfl⟩ := c1; simp [q_up, ha]
  · have : ¬ (a ≤ j ∧ j < a) := by omega
    simp [q_up, q_cp, c1, this]
    intro e
    rw [e]
theorem C_carryB {G : q_G} {d : Nat} {M : q_Mem} {N : q_MemL} {r n a : Nat} {vs : List Value} (hr : S0[r]? = some (20, n, vs)) (hn : n ≤ 2000) (h1 : ¬ r = 112) (h2 : ¬ r = 165) (ha : M 112 80 = a) (hg : M 112 81 = 1) (hab : a + n ≤ 7500) : AC0 G d m_X11_carryRow [.ref 112, .ref r] M N (CN (fun M' N' => N' = N ∧ M' = q_up (q_cp M 165 r a 0 n) 112 80 ((a + n : Nat) : Int))) := by
  refine AC.of (L0 := [_, _, none]) pn_X11 (Nat.le_of_ble_eq_true rfl) rfl ?_
  refine st_iconst dX11_carryRow_0 ?_
  refine st_istore_n (L' := [_, _, _]) dX11_carryRow_1 (by decide) rfl rfl ?_
  have loop : ∀ (m k : Nat) (M1 : q_Mem), k + m = n → M1 = q_up (q_cp M 165 r a 0 k) 112 80 ((a + k : Nat) : Int) → AW0 G d m_X11_carryRow 2 [some (.ref 112), some (.ref r), some (I k)] [] M1 N (CN (fun M' N' => N' = N ∧ M' = q_up (q_cp M 165 r a 0 n) 112 80 ((a + n : Nat) : Int))) := by
    intro m
    induction m with
    | zero =>
      intro k M1 hk e1
      refine st_iload_n dX11_carryRow_2 rfl ?_
      refine st_aload_n dX11_carryRow_3 rfl ?_
      refine st_alen dX11_carryRow_4 hr (by decide) ?_
      refine st_icmp_ge (tgt := 58) dX11_carryRow_5 (by omega) (by omega) rfl (fun h => ?_) (fun h => ?_)
      · skip
        exact r_v dX11_carryRow_58 rfl ⟨rfl, by rw [e1, show k = n by omega]⟩
      · skip
        omega
    | succ m ih =>
      intro k M1 hk e1
      have f81 : M1 112 81 = 1 := by rw [e1]; simp [q_up, q_cp, hg, show ¬ 112 = r from fun z => h1 z.symm]
      have f80 : M1 112 80 = ((a + k : Nat) : Int) := by rw [e1]; simp [q_up]
      have fr : M1 165 (a + k) = M 165 (a + k) := by rw [e1, q_up_ne (by decide)]; simp [q_cp, show ¬ 165 = r from fun z => h2 z.symm]
      refine st_iload_n dX11_carryRow_2 rfl ?_
      refine st_aload_n dX11_carryRow_3 rfl ?_
      refine st_alen dX11_carryRow_4 hr (by decide) ?_
      refine st_icmp_ge (tgt := 58) dX11_carryRow_5 (by omega) (by omega) rfl (fun h => ?_) (fun h => ?_)
      · skip
        omega
      · refine st_aload_n dX11_carryRow_8 rfl ?_
        refine st_getfi dX11_carryRow_9 f_X11_627 (by first | with_reducible assumption | rfl) (by rfl) ?_
        rw [f81]
        refine st_if_eq (tgt := 30) dX11_carryRow_12 (by omega) rfl (fun h3 => ?_) (fun h3 => ?_)
        · skip
          omega
        · refine st_aload_n dX11_carryRow_15 rfl ?_
          refine st_iload_n dX11_carryRow_16 rfl ?_
          refine st_aload_n dX11_carryRow_17 rfl ?_
          refine st_getfr dX11_carryRow_18 f_X11_173 (by first | with_reducible assumption | rfl) (by rfl) ?_
          refine st_aload_n dX11_carryRow_21 rfl ?_
          refine st_getfi dX11_carryRow_22 f_X11_630 (by first | with_reducible assumption | rfl) (by rfl) ?_
          rw [f80]
          first | refine st_ialdK (k' := _) dX11_carryRow_25 (by first | with_reducible assumption | rfl) rfl (by omega) (hn := by first | decide | omega) ?_ | refine st_iald dX11_carryRow_25 (by first | with_reducible assumption | rfl) (by omega) (by omega) (hn := by first | decide | omega) ?_
          rw [fr]
          refine st_iastK (k' := k) dX11_carryRow_26 hr rfl (by omega) (hn := by omega) ?_
          refine st_goto (tgt := 42) dX11_carryRow_27 rfl ?_
          refine st_aload_n dX11_carryRow_42 rfl ?_
          refine st_dup dX11_carryRow_43 rfl ?_
          refine st_getfi dX11_carryRow_44 f_X11_630 (by first | with_reducible assumption | rfl) (by rfl) ?_
          have e80 : q_up M1 r k (M 165 (a + k)) 112 80 = ((a + k : Nat) : Int) := by rw [q_up_ne (fun z => h1 z.symm)]; exact f80
          rw [e80]
          refine st_iconst dX11_carryRow_47 ?_
          refine st_iadd dX11_carryRow_48 ?_
          refine st_putfi dX11_carryRow_49 w_X11_630 (by first | with_reducible assumption | rfl) (by rfl) rfl rfl ?_
          refine st_iinc (L' := [_, _, _]) dX11_carryRow_52 rfl (by decide) rfl rfl ?_
          refine st_goto (tgt := 2) dX11_carryRow_55 rfl ?_
          refine AW.to (ih (k + 1) (q_up (q_up M1 r k (M 165 (a + k))) 112 80 ((a + k : Nat) + 1)) (by omega) ?_) (h2 := by simp)
          rw [e1]
          funext a' j
          by_cases c1 : a' = 112
          · subst c1
            by_cases c2 : j = 80
            · subst c2; simp [q_up]; omega
            · simp [q_up, q_cp, c2, show ¬ 112 = r from fun z => h1 z.symm]
          · by_cases c3 : a' = r
            · subst c3
              by_cases c4 : j = k
              · subst c4; simp [q_up, q_cp, c1]
              · have : j < k + 1 ↔ j < k := by omega
                simp [q_up, q_cp, c1, c4, this]
            · simp [q_up, q_cp, c1, c3]
  refine AW.to (loop n 0 (q_up (q_cp M 165 r a 0 0) 112 80 ((a + 0 : Nat) : Int)) (Nat.zero_add _) rfl) (h4 := ?_)
  funext a' j
  by_cases c1 : a' = 112 ∧ j = 80
  · obtain ⟨rfl, rfl⟩ := c1; simp [q_up, ha]
  · simp [q_up, q_cp, c1]
    intro e
    rw [e]
/-! all rows -/
theorem q_cpF {M M1 : q_Mem} {r base m n : Nat} (h : ∀ j, M1 165 j = if base ≤ j ∧ j < base + m then linO M (j - base) else M 165 j) (hr : ∀ j, j < n → M1 r j = linO M (m + j)) : ∀ j, q_up (q_cp M1 r 165 0 (base + m) n) 112 80 ((base + m + n : Nat) : Int) 165 j = if base ≤ j ∧ j < base + (m + n) then linO M (j - base) else M 165 j := by
  intro j
  rw [q_up_ne (by decide)]
  show (if (165 : Nat) = 165 then (if base + m ≤ j ∧ j < base + m + n then M1 r (0 + (j - (base + m))) else M1 165 j) else M1 165 j) = _
  rw [if_pos rfl]
  by_cases c : base + m ≤ j ∧ j < base + m + n
  · rw [if_pos c, if_pos (by omega), Nat.zero_add, hr _ (by omega), show m + (j - (base + m)) = j - base by omega]
  · rw [if_neg c, h j]
    by_cases c2 : base ≤ j ∧ j < base + m
    · rw [if_pos c2, if_pos (by omega)]
    · rw [if_neg c2, if_neg (by omega)]
/-- so much of the state lies in the image -/
def FwI (M M1 : q_Mem) (base m : Nat) : Prop := Exc [112, 146, 165] M M1 ∧ (∀ j, ¬ j = 80 → ¬ j = 81 → M1 112 j = M 112 j) ∧ M1 112 80 = ((base + m : Nat) : Int) ∧ M1 112 81 = 0 ∧ ∀ j, M1 165 j = if base ≤ j ∧ j < base + m then linO M (j - base) else M 165 j
theorem FwI.step {M M1 M2 : q_Mem} {r base m n : Nat} (h : FwI M M1 base m) (ho : ofR r = (m, n)) (hx : r ∉ [112, 146, 165]) (h2 : M2 = q_up (q_cp M1 r 165 0 (base + m) n) 112 80 ((base + m + n : Nat) : Int)) : FwI M M2 base (m + n) := by
  obtain ⟨a1, a2, a3, a4, a5⟩ := h
  subst h2
  refine ⟨fun a ha => ?_, fun j j1 j2 => ?_, by simp [q_up, Nat.add_assoc], by simp [q_up, q_cp, a4], q_cpF a5 (fun j hj => ?_)⟩
  · have h3 : ¬ a = 112 ∧ ¬ a = 146 ∧ ¬ a = 165 := by simpa using ha
    rw [q_up_ne h3.1, ← a1 a ha]
    funext j
    simp [q_cp, h3.2.2]
  · rw [← a2 j j1 j2]
    simp [q_up, q_cp, j1]
  · rw [a1 r hx, ← linO_row M (a := r) (j := j) (by rw [ho]; exact hj), ho]
theorem C_carriesF {G : q_G} {d : Nat} {M : q_Mem} {N : q_MemL} {k : Nat} (hd : 1 ≤ d) (hk : k < 5) : AC0 G d m_X11_carriesAll [.ref 112, I k, I 0] M N (CN (fun M' N' => N' = N ∧ FwI M M' (1500 * k) 1373)) := by
  refine AC.of (L0 := [_, _, _]) pn_X11 (Nat.le_of_ble_eq_true rfl) rfl ?_
  refine st_aload_n dX11_carriesAll_0 rfl ?_
  refine st_sipush dX11_carriesAll_1 (by decide) ?_
  refine st_iload_n dX11_carriesAll_4 rfl ?_
  refine st_imul dX11_carriesAll_5 ?_
  rw [show (1500 : Int) * (k : Int) = ((1500 * k : Nat) : Int) by omega]
  refine st_putfi dX11_carriesAll_6 w_X11_630 (by first | with_reducible assumption | rfl) (by rfl) rfl rfl ?_
  refine st_aload_n dX11_carriesAll_9 rfl ?_
  refine st_iload_n dX11_carriesAll_10 rfl ?_
  refine st_putfi dX11_carriesAll_11 w_X11_627 (by first | with_reducible assumption | rfl) (by rfl) (by first | rfl | (split <;> rfl) | assumption) (by first | rfl | assumption) ?_
  refine st_aload_n dX11_carriesAll_14 rfl ?_
  refine st_getfr dX11_carriesAll_15 f_X11_116 (by first | with_reducible assumption | rfl) (by rfl) ?_
  refine st_iconst dX11_carriesAll_18 ?_
  refine st_aload_n dX11_carriesAll_19 rfl ?_
  refine st_getfi dX11_carriesAll_20 f_X11_357 (by first | with_reducible assumption | rfl) (by rfl) ?_
  refine st_iastK (k' := 0) dX11_carriesAll_23 (by first | with_reducible assumption | rfl) rfl (by omega) (hn := by first | decide | omega) ?_
  refine st_aload_n dX11_carriesAll_24 rfl ?_
  refine st_aload_n dX11_carriesAll_25 rfl ?_
  refine st_getfr dX11_carriesAll_26 f_X11_116 (by first | with_reducible assumption | rfl) (by rfl) ?_
  have f1 : FwI M (q_up (q_up (q_up M 112 80 ((1500 * k : Nat) : Int)) 112 81 0) 146 0 (M 112 45)) (1500 * k) 0 := by
    refine ⟨fun a ha => ?_, fun j j1 j2 => ?_, by simp [q_up], by simp [q_up], fun j => ?_⟩
    · have h3 : ¬ a = 112 ∧ ¬ a = 146 ∧ ¬ a = 165 := by simpa using ha
      rw [q_up_ne h3.2.1, q_up_ne h3.1, q_up_ne h3.1]
    · simp [q_up, j1, j2]
    · rw [if_neg (by omega)]; simp [q_up]
  have e45 : q_up (q_up M 112 80 ((1500 * k : Nat) : Int)) 112 81 0 112 45 = M 112 45 := by simp [q_up]
  rw [e45]
  have e146 : q_up (q_up (q_up M 112 80 ((1500 * k : Nat) : Int)) 112 81 0) 146 0 (M 112 45) 146 0 = M 112 45 := by simp [q_up]
  generalize q_up (q_up (q_up M 112 80 ((1500 * k : Nat) : Int)) 112 81 0) 146 0 (M 112 45) = M1 at f1 e146
  obtain ⟨a1, a2, a3, a4, a5⟩ := id f1
  refine c_V1v (d' := d - 1) dX11_carriesAll_29 l_X11_633 k_X11_carryRow i_X11_carryRow (Or.inl ⟨_, _, _, _, _, (by first | with_reducible assumption | rfl), by rfl⟩) (by omega) (Nat.le_of_ble_eq_true rfl) (C_carryF (n := 1) (a := 1500 * k + 0) sh_146 (by omega) (by decide) (by decide) a3 a4 (by omega)) (fun M2 N2 hx => ?_)
  obtain ⟨rfl, r2⟩ := hx
  have f2 : FwI M M2 (1500 * k) 1 := by
    subst r2
    refine ⟨fun a ha => ?_, fun j j1 j2 => ?_, by simp [q_up], by simp [q_up, q_cp, a4], q_cpF (n := 1) a5 (fun j hj => ?_)⟩
    · have h3 : ¬ a = 112 ∧ ¬ a = 146 ∧ ¬ a = 165 := by simpa using ha
      rw [q_up_ne h3.1, ← a1 a ha]
      funext j
      simp [q_cp, h3.2.2]
    · rw [← a2 j j1 j2]
      simp [q_up, q_cp, j1]
    · rw [show j = 0 by omega, e146]
      rfl
  have e146b : M2 146 0 = M 112 45 := by rw [r2, q_up_ne (by decide)]; simp [q_cp]; exact e146
  refine st_aload_n dX11_carriesAll_32 rfl ?_
  refine st_aload_n dX11_carriesAll_33 rfl ?_
  refine st_getfr dX11_carriesAll_34 f_X11_116 (by first | with_reducible assumption | rfl) (by rfl) ?_
  refine st_iconst dX11_carriesAll_37 ?_
  refine st_ialdK (k' := 0) dX11_carriesAll_38 (by first | with_reducible assumption | rfl) rfl (by omega) (hn := by first | decide | omega) ?_
  rw [e146b]
  refine st_putfi dX11_carriesAll_39 w_X11_357 (by first | with_reducible assumption | rfl) (by rfl) rfl rfl ?_
  refine st_aload_n dX11_carriesAll_42 rfl ?_
  refine st_aload_n dX11_carriesAll_43 rfl ?_
  refine st_getfr dX11_carriesAll_44 f_X11_9 (by first | with_reducible assumption | rfl) (by rfl) ?_
  have f3 : FwI M (q_up M2 112 45 (M 112 45)) (1500 * k) 1 := by
    obtain ⟨b1, b2, b3, b4, b5⟩ := f2
    refine ⟨b1.tr (Exc.up (by decide)), fun j j1 j2 => ?_, by simp [q_up, b3], by simp [q_up, b4], fun j => by rw [q_up_ne (by decide)]; exact b5 j⟩
    by_cases e : j = 45
    · rw [e]; simp [q_up]
    · rw [← b2 j j1 j2]; simp [q_up, e]
  generalize q_up M2 112 45 (M 112 45) = M3 at f3
  refine c_V1v (d' := d - 1) dX11_carriesAll_47 l_X11_633 k_X11_carryRow i_X11_carryRow (Or.inl ⟨_, _, _, _, _, (by first | with_reducible assumption | rfl), by rfl⟩) (by omega) (Nat.le_of_ble_eq_true rfl) (C_carryF (n := 9) (a := 1500 * k + 1) sh_113 (by omega) (by decide) (by decide) f3.2.2.1 f3.2.2.2.1 (by omega)) (fun M4 N4 hx => ?_)
  obtain ⟨rfl, r4⟩ := hx
  have f4 := FwI.step (r := 113) (n := 9) f3 rfl (by decide) r4
  refine st_aload_n dX11_carriesAll_50 rfl ?_
  refine st_aload_n dX11_carriesAll_51 rfl ?_
  refine st_getfr dX11_carriesAll_52 f_X11_13 (by first | with_reducible assumption | rfl) (by rfl) ?_
  refine c_V1v (d' := d - 1) dX11_carriesAll_55 l_X11_633 k_X11_carryRow i_X11_carryRow (Or.inl ⟨_, _, _, _, _, (by first | with_reducible assumption | rfl), by rfl⟩) (by omega) (Nat.le_of_ble_eq_true rfl) (C_carryF (n := 7) (a := 1500 * k + 10) sh_114 (by omega) (by decide) (by decide) f4.2.2.1 f4.2.2.2.1 (by omega)) (fun M5 N5 hx => ?_)
  obtain ⟨rfl, r5⟩ := hx
  have f5 := FwI.step (r := 114) (n := 7) f4 rfl (by decide) r5
  refine st_aload_n dX11_carriesAll_58 rfl ?_
  refine st_aload_n dX11_carriesAll_59 rfl ?_
  refine st_getfr dX11_carriesAll_60 f_X11_16 (by first | with_reducible assumption | rfl) (by rfl) ?_
  refine c_V1v (d' := d - 1) dX11_carriesAll_63 l_X11_633 k_X11_carryRow i_X11_carryRow (Or.inl ⟨_, _, _, _, _, (by first | with_reducible assumption | rfl), by rfl⟩) (by omega) (Nat.le_of_ble_eq_true rfl) (C_carryF (n := 7) (a := 1500 * k + 17) sh_115 (by omega) (by decide) (by decide) f5.2.2.1 f5.2.2.2.1 (by omega)) (fun M6 N6 hx => ?_)
  obtain ⟨rfl, r6⟩ := hx
  have f6 := FwI.step (r := 115) (n := 7) f5 rfl (by decide) r6
  refine st_aload_n dX11_carriesAll_66 rfl ?_
  refine st_aload_n dX11_carriesAll_67 rfl ?_
  refine st_getfr dX11_carriesAll_68 f_X11_19 (by first | with_reducible assumption | rfl) (by rfl) ?_
  refine c_V1v (d' := d - 1) dX11_carriesAll_71 l_X11_633 k_X11_carryRow i_X11_carryRow (Or.inl ⟨_, _, _, _, _, (by first | with_reducible assumption | rfl), by rfl⟩) (by omega) (Nat.le_of_ble_eq_true rfl) (C_carryF (n := 7) (a := 1500 * k + 24) sh_116 (by omega) (by decide) (by decide) f6.2.2.1 f6.2.2.2.1 (by omega)) (fun M7 N7 hx => ?_)
  obtain ⟨rfl, r7⟩ := hx
  have f7 := FwI.step (r := 116) (n := 7) f6 rfl (by decide) r7
  refine st_aload_n dX11_carriesAll_74 rfl ?_
  refine st_aload_n dX11_carriesAll_75 rfl ?_
  refine st_getfr dX11_carriesAll_76 f_X11_22 (by first | with_reducible assumption | rfl) (by rfl) ?_
  refine c_V1v (d' := d - 1) dX11_carriesAll_79 l_X11_633 k_X11_carryRow i_X11_carryRow (Or.inl ⟨_, _, _, _, _, (by first | with_reducible assumption | rfl), by rfl⟩) (by omega) (Nat.le_of_ble_eq_true rfl) (C_carryF (n := 42) (a := 1500 * k + 31) sh_117 (by omega) (by decide) (by decide) f7.2.2.1 f7.2.2.2.1 (by omega)) (fun M8 N8 hx => ?_)
  obtain ⟨rfl, r8⟩ := hx
  have f8 := FwI.step (r := 117) (n := 42) f7 rfl (by decide) r8
  refine st_aload_n dX11_carriesAll_82 rfl ?_
  refine st_aload_n dX11_carriesAll_83 rfl ?_
  refine st_getfr dX11_carriesAll_84 f_X11_25 (by first | with_reducible assumption | rfl) (by rfl) ?_
  refine c_V1v (d' := d - 1) dX11_carriesAll_87 l_X11_633 k_X11_carryRow i_X11_carryRow (Or.inl ⟨_, _, _, _, _, (by first | with_reducible assumption | rfl), by rfl⟩) (by omega) (Nat.le_of_ble_eq_true rfl) (C_carryF (n := 7) (a := 1500 * k + 73) sh_118 (by omega) (by decide) (by decide) f8.2.2.1 f8.2.2.2.1 (by omega)) (fun M9 N9 hx => ?_)
  obtain ⟨rfl, r9⟩ := hx
  have f9 := FwI.step (r := 118) (n := 7) f8 rfl (by decide) r9
  refine st_aload_n dX11_carriesAll_90 rfl ?_
  refine st_aload_n dX11_carriesAll_91 rfl ?_
  refine st_getfr dX11_carriesAll_92 f_X11_28 (by first | with_reducible assumption | rfl) (by rfl) ?_
  refine c_V1v (d' := d - 1) dX11_carriesAll_95 l_X11_633 k_X11_carryRow i_X11_carryRow (Or.inl ⟨_, _, _, _, _, (by first | with_reducible assumption | rfl), by rfl⟩) (by omega) (Nat.le_of_ble_eq_true rfl) (C_carryF (n := 3) (a := 1500 * k + 80) sh_119 (by omega) (by decide) (by decide) f9.2.2.1 f9.2.2.2.1 (by omega)) (fun M10 N10 hx => ?_)
  obtain ⟨rfl, r10⟩ := hx
  have f10 := FwI.step (r := 119) (n := 3) f9 rfl (by decide) r10
  refine st_aload_n dX11_carriesAll_98 rfl ?_
  refine st_aload_n dX11_carriesAll_99 rfl ?_
  refine st_getfr dX11_carriesAll_100 f_X11_31 (by first | with_reducible assumption | rfl) (by rfl) ?_
  refine c_V1v (d' := d - 1) dX11_carriesAll_103 l_X11_633 k_X11_carryRow i_X11_carryRow (Or.inl ⟨_, _, _, _, _, (by first | with_reducible assumption | rfl), by rfl⟩) (by omega) (Nat.le_of_ble_eq_true rfl) (C_carryF (n := 3) (a := 1500 * k + 83) sh_120 (by omega) (by decide) (by decide) f10.2.2.1 f10.2.2.2.1 (by omega)) (fun M11 N11 hx => ?_)
  obtain ⟨rfl, r11⟩ := hx
  have f11 := FwI.step (r := 120) (n := 3) f10 rfl (by decide) r11
  refine st_aload_n dX11_carriesAll_106 rfl ?_
  refine st_aload_n dX11_carriesAll_107 rfl ?_
  refine st_getfr dX11_carriesAll_108 f_X11_34 (by first | with_reducible assumption | rfl) (by rfl) ?_
  refine c_V1v (d' := d - 1) dX11_carriesAll_111 l_X11_633 k_X11_carryRow i_X11_carryRow (Or.inl ⟨_, _, _, _, _, (by first | with_reducible assumption | rfl), by rfl⟩) (by omega) (Nat.le_of_ble_eq_true rfl) (C_carryF (n := 3) (a := 1500 * k + 86) sh_121 (by omega) (by decide) (by decide) f11.2.2.1 f11.2.2.2.1 (by omega)) (fun M12 N12 hx => ?_)
  obtain ⟨rfl, r12⟩ := hx
  have f12 := FwI.step (r := 121) (n := 3) f11 rfl (by decide) r12
  refine st_aload_n dX11_carriesAll_114 rfl ?_
  refine st_aload_n dX11_carriesAll_115 rfl ?_
  refine st_getfr dX11_carriesAll_116 f_X11_37 (by first | with_reducible assumption | rfl) (by rfl) ?_
  refine c_V1v (d' := d - 1) dX11_carriesAll_119 l_X11_633 k_X11_carryRow i_X11_carryRow (Or.inl ⟨_, _, _, _, _, (by first | with_reducible assumption | rfl), by rfl⟩) (by omega) (Nat.le_of_ble_eq_true rfl) (C_carryF (n := 8) (a := 1500 * k + 89) sh_122 (by omega) (by decide) (by decide) f12.2.2.1 f12.2.2.2.1 (by omega)) (fun M13 N13 hx => ?_)
  obtain ⟨rfl, r13⟩ := hx
  have f13 := FwI.step (r := 122) (n := 8) f12 rfl (by decide) r13
  refine st_aload_n dX11_carriesAll_122 rfl ?_
  refine st_aload_n dX11_carriesAll_123 rfl ?_
  refine st_getfr dX11_carriesAll_124 f_X11_40 (by first | with_reducible assumption | rfl) (by rfl) ?_
  refine c_V1v (d' := d - 1) dX11_carriesAll_127 l_X11_633 k_X11_carryRow i_X11_carryRow (Or.inl ⟨_, _, _, _, _, (by first | with_reducible assumption | rfl), by rfl⟩) (by omega) (Nat.le_of_ble_eq_true rfl) (C_carryF (n := 8) (a := 1500 * k + 97) sh_123 (by omega) (by decide) (by decide) f13.2.2.1 f13.2.2.2.1 (by omega)) (fun M14 N14 hx => ?_)
  obtain ⟨rfl, r14⟩ := hx
  have f14 := FwI.step (r := 123) (n := 8) f13 rfl (by decide) r14
  refine st_aload_n dX11_carriesAll_130 rfl ?_
  refine st_aload_n dX11_carriesAll_131 rfl ?_
  refine st_getfr dX11_carriesAll_132 f_X11_43 (by first | with_reducible assumption | rfl) (by rfl) ?_
  refine c_V1v (d' := d - 1) dX11_carriesAll_135 l_X11_633 k_X11_carryRow i_X11_carryRow (Or.inl ⟨_, _, _, _, _, (by first | with_reducible assumption | rfl), by rfl⟩) (by omega) (Nat.le_of_ble_eq_true rfl) (C_carryF (n := 8) (a := 1500 * k + 105) sh_124 (by omega) (by decide) (by decide) f14.2.2.1 f14.2.2.2.1 (by omega)) (fun M15 N15 hx => ?_)
  obtain ⟨rfl, r15⟩ := hx
  have f15 := FwI.step (r := 124) (n := 8) f14 rfl (by decide) r15
  refine st_aload_n dX11_carriesAll_138 rfl ?_
  refine st_aload_n dX11_carriesAll_139 rfl ?_
  refine st_getfr dX11_carriesAll_140 f_X11_113 (by first | with_reducible assumption | rfl) (by rfl) ?_
  refine c_V1v (d' := d - 1) dX11_carriesAll_143 l_X11_633 k_X11_carryRow i_X11_carryRow (Or.inl ⟨_, _, _, _, _, (by first | with_reducible assumption | rfl), by rfl⟩) (by omega) (Nat.le_of_ble_eq_true rfl) (C_carryF (n := 1260) (a := 1500 * k + 113) sh_145 (by omega) (by decide) (by decide) f15.2.2.1 f15.2.2.2.1 (by omega)) (fun M16 N16 hx => ?_)
  obtain ⟨rfl, r16⟩ := hx
  have f16 := FwI.step (r := 145) (n := 1260) f15 rfl (by decide) r16
  exact r_v dX11_carriesAll_146 rfl ⟨rfl, f16⟩


/-! the reference: what an act keeps, and what is undone -/
theorem C_moves {G : q_G} {d : Nat} {M : q_Mem} {N : q_MemL} {v : Int} {p : Nat} (hp : M 112 46 = (p : Nat)) (hp2 : p < 1260) (ht : M 112 47 = 0 ∨ M 112 47 = 1) : AC0 G d m_X11_moves [.ref 112, I v] M N (CV (fun x M' N' => N' = N ∧ x = I (if M 112 47 = 1 then M 145 p else v) ∧ M' = q_up (q_up M 145 p (if M 112 47 = 1 then M 145 p else v)) 112 46 ((p + 1 : Nat) : Int))) := by
  have tl : ∀ (z : Int), z = (if M 112 47 = 1 then M 145 p else v) → AW0 G d m_X11_moves 20 [some (.ref 112), some (I v), none] [I z] M N (CV (fun x M' N' => N' = N ∧ x = I (if M 112 47 = 1 then M 145 p else v) ∧ M' = q_up (q_up M 145 p (if M 112 47 = 1 then M 145 p else v)) 112 46 ((p + 1 : Nat) : Int))) := by
    intro z hz
    subst hz
    generalize (if M 112 47 = 1 then M 145 p else v) = z
    refine st_istore_n (L' := [_, _, _]) dX11_moves_20 (by decide) rfl rfl ?_
    refine st_aload_n dX11_moves_21 rfl ?_
    refine st_getfr dX11_moves_22 f_X11_113 (by first | with_reducible assumption | rfl) (by rfl) ?_
    refine st_aload_n dX11_moves_25 rfl ?_
    refine st_getfi dX11_moves_26 f_X11_436 (by first | with_reducible assumption | rfl) (by rfl) ?_
    rw [hp]
    refine st_iload_n dX11_moves_29 rfl ?_
    first | refine st_iastK (k' := _) dX11_moves_30 (by first | with_reducible assumption | rfl) rfl (by omega) (hn := by first | decide | omega) ?_ | refine st_iast dX11_moves_30 (by first | with_reducible assumption | rfl) (by omega) (by omega) (hn := by first | decide | omega) ?_
    refine st_aload_n dX11_moves_31 rfl ?_
    refine st_dup dX11_moves_32 rfl ?_
    refine st_getfi dX11_moves_33 f_X11_436 (by first | with_reducible assumption | rfl) (by rfl) ?_
    have e : q_up M 145 p z 112 46 = (p : Nat) := by rw [q_up_ne (by decide)]; exact hp
    rw [e]
    refine st_iconst dX11_moves_36 ?_
    refine st_iadd dX11_moves_37 ?_
    refine st_putfi dX11_moves_38 w_X11_436 (by first | with_reducible assumption | rfl) (by rfl) rfl rfl ?_
    refine st_iload_n dX11_moves_41 rfl ?_
    exact r_i dX11_moves_42 rfl ⟨rfl, rfl, by rw [show ((p : Nat) : Int) + 1 = ((p + 1 : Nat) : Int) by omega]⟩
  refine AC.of (L0 := [_, _, none]) pn_X11 (Nat.le_of_ble_eq_true rfl) rfl ?_
  refine st_aload_n dX11_moves_0 rfl ?_
  refine st_getfi dX11_moves_1 f_X11_432 (by first | with_reducible assumption | rfl) (by rfl) ?_
  refine st_if_eq (tgt := 19) dX11_moves_4 (by omega) rfl (fun h => ?_) (fun h => ?_)
  · refine st_iload_n dX11_moves_19 rfl ?_
    exact tl v (by rw [if_neg (by omega)])
  · refine st_aload_n dX11_moves_7 rfl ?_
    refine st_getfr dX11_moves_8 f_X11_113 (by first | with_reducible assumption | rfl) (by rfl) ?_
    refine st_aload_n dX11_moves_11 rfl ?_
    refine st_getfi dX11_moves_12 f_X11_436 (by first | with_reducible assumption | rfl) (by rfl) ?_
    rw [hp]
    first | refine st_ialdK (k' := _) dX11_moves_15 (by first | with_reducible assumption | rfl) rfl (by omega) (hn := by first | decide | omega) ?_ | refine st_iald dX11_moves_15 (by first | with_reducible assumption | rfl) (by omega) (by omega) (hn := by first | decide | omega) ?_
    refine st_goto (tgt := 20) dX11_moves_16 rfl ?_
    exact tl (M 145 p) (by rw [if_pos (by omega)])
theorem C_movesRowF {G : q_G} {d : Nat} {M : q_Mem} {N : q_MemL} {r n p : Nat} {vs : List Value} (hd : 1 ≤ d) (hr : S0[r]? = some (20, n, vs)) (hn : n ≤ 100) (h1 : ¬ r = 112) (h2 : ¬ r = 145) (hp : M 112 46 = (p : Nat)) (hpn : p + n ≤ 1260) (ht : M 112 47 = 0) : AC0 G d m_X11_movesRow [.ref 112, .ref r] M N (CN (fun M' N' => N' = N ∧ M' = q_up (q_cp M r 145 0 p n) 112 46 ((p + n : Nat) : Int))) := by
  refine AC.of (L0 := [_, _, none]) pn_X11 (Nat.le_of_ble_eq_true rfl) rfl ?_
  refine st_iconst dX11_movesRow_0 ?_
  refine st_istore_n (L' := [_, _, _]) dX11_movesRow_1 (by decide) rfl rfl ?_
  have loop : ∀ (m k : Nat) (M1 : q_Mem), k + m = n → M1 = q_up (q_cp M r 145 0 p k) 112 46 ((p + k : Nat) : Int) → AW0 G d m_X11_movesRow 2 [some (.ref 112), some (.ref r), some (I k)] [] M1 N (CN (fun M' N' => N' = N ∧ M' = q_up (q_cp M r 145 0 p n) 112 46 ((p + n : Nat) : Int))) := by
    intro m
    induction m with
    | zero =>
      intro k M1 hk e1
      refine st_iload_n dX11_movesRow_2 rfl ?_
      refine st_aload_n dX11_movesRow_3 rfl ?_
      refine st_alen dX11_movesRow_4 hr (by decide) ?_
      refine st_icmp_ge (tgt := 24) dX11_movesRow_5 (by omega) (by omega) rfl (fun h => ?_) (fun h => ?_)
      · skip
        exact r_v dX11_movesRow_24 rfl ⟨rfl, by rw [e1, show k = n by omega]⟩
      · skip
        omega
    | succ m ih =>
      intro k M1 hk e1
      have f47 : M1 112 47 = 0 := by rw [e1]; simp [q_up, q_cp, ht]
      have f46 : M1 112 46 = ((p + k : Nat) : Int) := by rw [e1]; simp [q_up]
      have fr : ∀ j, M1 r j = M r j := fun j => by rw [e1, q_up_ne h1]; simp [q_cp, h2]
      refine st_iload_n dX11_movesRow_2 rfl ?_
      refine st_aload_n dX11_movesRow_3 rfl ?_
      refine st_alen dX11_movesRow_4 hr (by decide) ?_
      refine st_icmp_ge (tgt := 24) dX11_movesRow_5 (by omega) (by omega) rfl (fun h => ?_) (fun h => ?_)
      · skip
        omega
      · refine st_aload_n dX11_movesRow_8 rfl ?_
        refine st_iload_n dX11_movesRow_9 rfl ?_
        refine st_aload_n dX11_movesRow_10 rfl ?_
        refine st_aload_n dX11_movesRow_11 rfl ?_
        refine st_iload_n dX11_movesRow_12 rfl ?_
        refine st_ialdK (k' := k) dX11_movesRow_13 hr rfl (by omega) (hn := by omega) ?_
        rw [fr]
        refine c_V1i (d' := d - 1) dX11_movesRow_14 l_X11_439 k_X11_moves i_X11_moves (Or.inl ⟨_, _, _, _, _, (by first | with_reducible assumption | rfl), by rfl⟩) (by omega) (Nat.le_of_ble_eq_true rfl) (C_moves f46 (by omega) (Or.inl f47)) (fun x M2 N2 hx => ?_)
        obtain ⟨rfl, rfl, r2⟩ := hx
        rw [f47, if_neg (by decide)] at r2
        rw [f47, if_neg (by decide)]
        refine st_iastK (k' := k) dX11_movesRow_17 hr rfl (by omega) (hn := by omega) ?_
        have e2 : q_up M2 r k (M r k) = M2 := q_up_id (by rw [r2, q_up_ne h1, q_up_ne h2, fr])
        rw [e2]
        refine st_iinc (L' := [_, _, _]) dX11_movesRow_18 rfl (by decide) rfl rfl ?_
        refine st_goto (tgt := 2) dX11_movesRow_21 rfl ?_
        refine AW.to (ih (k + 1) M2 (by omega) ?_) (h2 := by simp)
        rw [r2, e1]
        funext a' j
        by_cases c1 : a' = 112
        · subst c1
          by_cases c2 : j = 46
          · subst c2; simp [q_up]; omega
          · simp [q_up, q_cp, c2]
        · by_cases c3 : a' = 145
          · subst c3
            by_cases c4 : j = p + k
            · subst c4; simp [q_up, q_cp]
            · have : (p ≤ j ∧ j < p + (k + 1)) ↔ (p ≤ j ∧ j < p + k) := by omega
              simp only [q_up, q_cp]
              simp [c4, this]
          · simp [q_up, q_cp, c1, c3]
  refine AW.to (loop n 0 (q_up (q_cp M r 145 0 p 0) 112 46 ((p + 0 : Nat) : Int)) (Nat.zero_add _) rfl) (h4 := ?_)
  funext a' j
  by_cases c1 : a' = 112 ∧ j = 46
  · obtain ⟨rfl, rfl⟩ := c1; simp [q_up, hp]
  · have : ¬ (p ≤ j ∧ j < p) := by omega
    simp [q_up, q_cp, c1, this]
    intro e
    rw [e]
theorem C_movesRowB {G : q_G} {d : Nat} {M : q_Mem} {N : q_MemL} {r n p : Nat} {vs : List Value} (hd : 1 ≤ d) (hr : S0[r]? = some (20, n, vs)) (hn : n ≤ 100) (h1 : ¬ r = 112) (h2 : ¬ r = 145) (hp : M 112 46 = (p : Nat)) (hpn : p + n ≤ 1260) (ht : M 112 47 = 1) : AC0 G d m_X11_movesRow [.ref 112, .ref r] M N (CN (fun M' N' => N' = N ∧ M' = q_up (q_cp M 145 r p 0 n) 112 46 ((p + n : Nat) : Int))) := by
  refine AC.of (L0 := [_, _, none]) pn_X11 (Nat.le_of_ble_eq_true rfl) rfl ?_
  refine st_iconst dX11_movesRow_0 ?_
  refine st_istore_n (L' := [_, _, _]) dX11_movesRow_1 (by decide) rfl rfl ?_
  have loop : ∀ (m k : Nat) (M1 : q_Mem), k + m = n → M1 = q_up (q_cp M 145 r p 0 k) 112 46 ((p + k : Nat) : Int) → AW0 G d m_X11_movesRow 2 [some (.ref 112), some (.ref r), some (I k)] [] M1 N (CN (fun M' N' => N' = N ∧ M' = q_up (q_cp M 145 r p 0 n) 112 46 ((p + n : Nat) : Int))) := by
    intro m
    induction m with
    | zero =>
      intro k M1 hk e1
      refine st_iload_n dX11_movesRow_2 rfl ?_
      refine st_aload_n dX11_movesRow_3 rfl ?_
      refine st_alen dX11_movesRow_4 hr (by decide) ?_
      refine st_icmp_ge (tgt := 24) dX11_movesRow_5 (by omega) (by omega) rfl (fun h => ?_) (fun h => ?_)
      · skip
        exact r_v dX11_movesRow_24 rfl ⟨rfl, by rw [e1, show k = n by omega]⟩
      · skip
        omega
    | succ m ih =>
      intro k M1 hk e1
      have n1 : ¬ 112 = r := fun z => h1 z.symm
      have n2 : ¬ 145 = r := fun z => h2 z.symm
      have f47 : M1 112 47 = 1 := by rw [e1]; simp [q_up, q_cp, ht, n1]
      have f46 : M1 112 46 = ((p + k : Nat) : Int) := by rw [e1]; simp [q_up]
      have f145 : ∀ j, M1 145 j = M 145 j := fun j => by rw [e1, q_up_ne (by decide)]; simp [q_cp, n2]
      refine st_iload_n dX11_movesRow_2 rfl ?_
      refine st_aload_n dX11_movesRow_3 rfl ?_
      refine st_alen dX11_movesRow_4 hr (by decide) ?_
      refine st_icmp_ge (tgt := 24) dX11_movesRow_5 (by omega) (by omega) rfl (fun h => ?_) (fun h => ?_)
      · skip
        omega
      · refine st_aload_n dX11_movesRow_8 rfl ?_
        refine st_iload_n dX11_movesRow_9 rfl ?_
        refine st_aload_n dX11_movesRow_10 rfl ?_
        refine st_aload_n dX11_movesRow_11 rfl ?_
        refine st_iload_n dX11_movesRow_12 rfl ?_
        refine st_ialdK (k' := k) dX11_movesRow_13 hr rfl (by omega) (hn := by omega) ?_
        refine c_V1i (d' := d - 1) dX11_movesRow_14 l_X11_439 k_X11_moves i_X11_moves (Or.inl ⟨_, _, _, _, _, (by first | with_reducible assumption | rfl), by rfl⟩) (by omega) (Nat.le_of_ble_eq_true rfl) (C_moves f46 (by omega) (Or.inr f47)) (fun x M2 N2 hx => ?_)
        obtain ⟨rfl, rfl, r2⟩ := hx
        rw [f47, if_pos rfl, f145] at r2
        rw [f47, if_pos rfl, f145]
        refine st_iastK (k' := k) dX11_movesRow_17 hr rfl (by omega) (hn := by omega) ?_
        refine st_iinc (L' := [_, _, _]) dX11_movesRow_18 rfl (by decide) rfl rfl ?_
        refine st_goto (tgt := 2) dX11_movesRow_21 rfl ?_
        refine AW.to (ih (k + 1) (q_up M2 r k (M 145 (p + k))) (by omega) ?_) (h2 := by simp)
        rw [r2, q_up_id (M := M1) (a := 145) (f145 (p + k)).symm, e1]
        funext a' j
        by_cases c1 : a' = 112
        · subst c1
          by_cases c2 : j = 46
          · subst c2; simp [q_up, n1]; omega
          · simp [q_up, q_cp, c2, n1]
        · by_cases c3 : a' = r
          · subst c3
            by_cases c4 : j = k
            · subst c4; simp [q_up, q_cp, c1]
            · have : j < k + 1 ↔ j < k := by omega
              simp [q_up, q_cp, c1, c4, this]
          · simp [q_up, q_cp, c1, c3]
  refine AW.to (loop n 0 (q_up (q_cp M 145 r p 0 0) 112 46 ((p + 0 : Nat) : Int)) (Nat.zero_add _) rfl) (h4 := ?_)
  funext a' j
  by_cases c1 : a' = 112 ∧ j = 46
  · obtain ⟨rfl, rfl⟩ := c1; simp [q_up, hp]
  · simp [q_up, q_cp, c1]
    intro e
    rw [e]
/-- what an act keeps, in a row -/
def linA (M : q_Mem) (i : Nat) : Int := if i < 1 then M 113 6 else if i < 8 then M 115 (i - 1) else if i < 15 then M 116 (i - 8) else if i < 18 then M 119 (i - 15) else if i < 21 then M 120 (i - 18) else M 117 (i - 21)
def MaF (M M1 : q_Mem) (p m : Nat) : Prop := Exc [112, 145] M M1 ∧ (∀ j, ¬ j = 46 → ¬ j = 47 → M1 112 j = M 112 j) ∧ M1 112 46 = ((p + m : Nat) : Int) ∧ M1 112 47 = 0 ∧ ∀ j, M1 145 j = if p ≤ j ∧ j < p + m then linA M (j - p) else M 145 j
theorem MaF.step {M M1 M2 : q_Mem} {r p m n : Nat} (h : MaF M M1 p m) (h1 : ¬ r = 112) (h2 : ¬ r = 145) (hl : ∀ j, j < n → linA M (m + j) = M r j) (e : M2 = q_up (q_cp M1 r 145 0 (p + m) n) 112 46 ((p + m + n : Nat) : Int)) : MaF M M2 p (m + n) := by
  obtain ⟨a1, a2, a3, a4, a5⟩ := h
  subst e
  refine ⟨fun a ha => ?_, fun j j1 j2 => ?_, by simp [q_up, Nat.add_assoc], by simp [q_up, q_cp, a4], fun j => ?_⟩
  · have h3 : ¬ a = 112 ∧ ¬ a = 145 := by simpa using ha
    rw [q_up_ne h3.1, ← a1 a ha]
    funext j
    simp [q_cp, h3.2]
  · rw [← a2 j j1 j2]
    simp [q_up, q_cp, j1]
  · rw [q_up_ne (by decide)]
    show (if (145 : Nat) = 145 then (if p + m ≤ j ∧ j < p + m + n then M1 r (0 + (j - (p + m))) else M1 145 j) else M1 145 j) = _
    rw [if_pos rfl]
    by_cases c : p + m ≤ j ∧ j < p + m + n
    · rw [if_pos c, if_pos (by omega), Nat.zero_add, a1 r (by simp; omega), ← hl _ (by omega), show m + (j - (p + m)) = j - p by omega]
    · rw [if_neg c, a5]
      by_cases c2 : p ≤ j ∧ j < p + m
      · rw [if_pos c2, if_pos (by omega)]
      · rw [if_neg c2, if_neg (by omega)]
theorem C_movesAllF {G : q_G} {d : Nat} {M : q_Mem} {N : q_MemL} {k : Nat} (hd : 2 ≤ d) (hk : k < 20) : AC0 G d m_X11_movesAll [.ref 112, I k, I 0] M N (CN (fun M' N' => N' = N ∧ MaF M M' (63 * k) 63)) := by
  refine AC.of (L0 := [_, _, _]) pn_X11 (Nat.le_of_ble_eq_true rfl) rfl ?_
  refine st_aload_n dX11_movesAll_0 rfl ?_
  refine st_bipush dX11_movesAll_1 (by decide) ?_
  refine st_iload_n dX11_movesAll_3 rfl ?_
  refine st_imul dX11_movesAll_4 ?_
  rw [show (63 : Int) * (k : Int) = ((63 * k : Nat) : Int) by omega]
  refine st_putfi dX11_movesAll_5 w_X11_436 (by first | with_reducible assumption | rfl) (by rfl) rfl rfl ?_
  refine st_aload_n dX11_movesAll_8 rfl ?_
  refine st_iload_n dX11_movesAll_9 rfl ?_
  refine st_putfi dX11_movesAll_10 w_X11_432 (by first | with_reducible assumption | rfl) (by rfl) (by first | rfl | (split <;> rfl) | assumption) (by first | rfl | assumption) ?_
  refine st_aload_n dX11_movesAll_13 rfl ?_
  refine st_getfr dX11_movesAll_14 f_X11_9 (by first | with_reducible assumption | rfl) (by rfl) ?_
  refine st_bipush dX11_movesAll_17 (by decide) ?_
  refine st_aload_n dX11_movesAll_19 rfl ?_
  refine st_aload_n dX11_movesAll_20 rfl ?_
  refine st_getfr dX11_movesAll_21 f_X11_9 (by first | with_reducible assumption | rfl) (by rfl) ?_
  refine st_bipush dX11_movesAll_24 (by decide) ?_
  refine st_ialdK (k' := 6) dX11_movesAll_26 (by first | with_reducible assumption | rfl) rfl (by omega) (hn := by decide) ?_
  have f1 : MaF M (q_up (q_up M 112 46 ((63 * k : Nat) : Int)) 112 47 0) (63 * k) 0 := ⟨(Exc.up (by decide)).tr (Exc.up (by decide)), fun j j1 j2 => by simp [q_up, j1, j2], by simp [q_up], by simp [q_up], fun j => by rw [if_neg (by omega)]; simp [q_up]⟩
  have e6 : q_up (q_up M 112 46 ((63 * k : Nat) : Int)) 112 47 0 113 6 = M 113 6 := by simp [q_up]
  rw [e6]
  generalize q_up (q_up M 112 46 ((63 * k : Nat) : Int)) 112 47 0 = M1 at f1 e6
  obtain ⟨a1, a2, a3, a4, a5⟩ := id f1
  refine c_V1i (d' := d - 1) dX11_movesAll_27 l_X11_439 k_X11_moves i_X11_moves (Or.inl ⟨_, _, _, _, _, (by first | with_reducible assumption | rfl), by rfl⟩) (by omega) (Nat.le_of_ble_eq_true rfl) (C_moves (p := 63 * k) a3 (by omega) (Or.inl a4)) (fun x M2 N2 hx => ?_)
  obtain ⟨rfl, rfl, r2⟩ := hx
  rw [a4, if_neg (by decide)] at r2
  rw [a4, if_neg (by decide)]
  refine st_iastK (k' := 6) dX11_movesAll_30 (by first | with_reducible assumption | rfl) rfl (by omega) (hn := by decide) ?_
  have e2 : q_up M2 113 6 (M 113 6) = M2 := q_up_id (by rw [r2, q_up_ne (by decide), q_up_ne (by decide)]; exact e6.symm)
  rw [e2]
  have f2 : MaF M M2 (63 * k) 1 := by
    rw [r2]
    refine ⟨(a1.tr (Exc.up (by decide))).tr (Exc.up (by decide)), fun j j1 j2 => by rw [← a2 j j1 j2]; simp [q_up, j1], by simp [q_up], by rw [← a4]; simp [q_up], fun j => ?_⟩
    rw [q_up_ne (by decide)]
    by_cases c : j = 63 * k
    · rw [if_pos (by omega), c, show 63 * k - 63 * k = 0 by omega]
      simp [q_up, linA]
    · rw [if_neg (by omega), show q_up M1 145 (63 * k) (M 113 6) 145 j = M1 145 j by simp [q_up, c], a5, if_neg (by omega)]
  refine st_aload_n dX11_movesAll_31 rfl ?_
  refine st_aload_n dX11_movesAll_32 rfl ?_
  refine st_getfr dX11_movesAll_33 f_X11_16 (by first | with_reducible assumption | rfl) (by rfl) ?_
  refine c_V1v (d' := d - 1) dX11_movesAll_36 l_X11_442 k_X11_movesRow i_X11_movesRow (Or.inl ⟨_, _, _, _, _, (by first | with_reducible assumption | rfl), by rfl⟩) (by omega) (Nat.le_of_ble_eq_true rfl) (C_movesRowF (n := 7) (p := 63 * k + 1) (by omega) sh_115 (by decide) (by decide) (by decide) f2.2.2.1 (by omega) f2.2.2.2.1) (fun M3 N3 hx => ?_)
  obtain ⟨rfl, r3⟩ := hx
  have f3 := MaF.step (r := 115) (n := 7) f2 (by decide) (by decide) (fun j hj => by unfold linA; rw [if_neg (by omega), if_pos (by omega), show 1 + j - 1 = j by omega]) r3
  refine st_aload_n dX11_movesAll_39 rfl ?_
  refine st_aload_n dX11_movesAll_40 rfl ?_
  refine st_getfr dX11_movesAll_41 f_X11_19 (by first | with_reducible assumption | rfl) (by rfl) ?_
  refine c_V1v (d' := d - 1) dX11_movesAll_44 l_X11_442 k_X11_movesRow i_X11_movesRow (Or.inl ⟨_, _, _, _, _, (by first | with_reducible assumption | rfl), by rfl⟩) (by omega) (Nat.le_of_ble_eq_true rfl) (C_movesRowF (n := 7) (p := 63 * k + 8) (by omega) sh_116 (by decide) (by decide) (by decide) f3.2.2.1 (by omega) f3.2.2.2.1) (fun M4 N4 hx => ?_)
  obtain ⟨rfl, r4⟩ := hx
  have f4 := MaF.step (r := 116) (n := 7) f3 (by decide) (by decide) (fun j hj => by unfold linA; rw [if_neg (by omega), if_neg (by omega), if_pos (by omega), show 1 + 7 + j - 8 = j by omega]) r4
  refine st_aload_n dX11_movesAll_47 rfl ?_
  refine st_aload_n dX11_movesAll_48 rfl ?_
  refine st_getfr dX11_movesAll_49 f_X11_28 (by first | with_reducible assumption | rfl) (by rfl) ?_
  refine c_V1v (d' := d - 1) dX11_movesAll_52 l_X11_442 k_X11_movesRow i_X11_movesRow (Or.inl ⟨_, _, _, _, _, (by first | with_reducible assumption | rfl), by rfl⟩) (by omega) (Nat.le_of_ble_eq_true rfl) (C_movesRowF (n := 3) (p := 63 * k + 15) (by omega) sh_119 (by decide) (by decide) (by decide) f4.2.2.1 (by omega) f4.2.2.2.1) (fun M5 N5 hx => ?_)
  obtain ⟨rfl, r5⟩ := hx
  have f5 := MaF.step (r := 119) (n := 3) f4 (by decide) (by decide) (fun j hj => by unfold linA; rw [if_neg (by omega), if_neg (by omega), if_neg (by omega), if_pos (by omega), show 1 + 7 + 7 + j - 15 = j by omega]) r5
  refine st_aload_n dX11_movesAll_55 rfl ?_
  refine st_aload_n dX11_movesAll_56 rfl ?_
  refine st_getfr dX11_movesAll_57 f_X11_31 (by first | with_reducible assumption | rfl) (by rfl) ?_
  refine c_V1v (d' := d - 1) dX11_movesAll_60 l_X11_442 k_X11_movesRow i_X11_movesRow (Or.inl ⟨_, _, _, _, _, (by first | with_reducible assumption | rfl), by rfl⟩) (by omega) (Nat.le_of_ble_eq_true rfl) (C_movesRowF (n := 3) (p := 63 * k + 18) (by omega) sh_120 (by decide) (by decide) (by decide) f5.2.2.1 (by omega) f5.2.2.2.1) (fun M6 N6 hx => ?_)
  obtain ⟨rfl, r6⟩ := hx
  have f6 := MaF.step (r := 120) (n := 3) f5 (by decide) (by decide) (fun j hj => by unfold linA; rw [if_neg (by omega), if_neg (by omega), if_neg (by omega), if_neg (by omega), if_pos (by omega), show 1 + 7 + 7 + 3 + j - 18 = j by omega]) r6
  refine st_aload_n dX11_movesAll_63 rfl ?_
  refine st_aload_n dX11_movesAll_64 rfl ?_
  refine st_getfr dX11_movesAll_65 f_X11_22 (by first | with_reducible assumption | rfl) (by rfl) ?_
  refine c_V1v (d' := d - 1) dX11_movesAll_68 l_X11_442 k_X11_movesRow i_X11_movesRow (Or.inl ⟨_, _, _, _, _, (by first | with_reducible assumption | rfl), by rfl⟩) (by omega) (Nat.le_of_ble_eq_true rfl) (C_movesRowF (n := 42) (p := 63 * k + 21) (by omega) sh_117 (by decide) (by decide) (by decide) f6.2.2.1 (by omega) f6.2.2.2.1) (fun M7 N7 hx => ?_)
  obtain ⟨rfl, r7⟩ := hx
  have f7 := MaF.step (r := 117) (n := 42) f6 (by decide) (by decide) (fun j hj => by unfold linA; rw [if_neg (by omega), if_neg (by omega), if_neg (by omega), if_neg (by omega), if_neg (by omega), show 1 + 7 + 7 + 3 + 3 + j - 21 = j by omega]) r7
  exact r_v dX11_movesAll_71 rfl ⟨rfl, f7⟩
/-- what comes back of an act -/
def MaB (M M1 : q_Mem) (k : Nat) : Prop := Exc [112, 113, 115, 116, 117, 119, 120] M M1 ∧ (∀ j, ¬ j = 46 → ¬ j = 47 → M1 112 j = M 112 j) ∧ (∀ j, ¬ j = 6 → M1 113 j = M 113 j) ∧ M1 113 6 = M 145 (63 * k) ∧ (∀ j, M1 115 j = if j < 7 then M 145 (63 * k + 1 + j) else M 115 j) ∧ (∀ j, M1 116 j = if j < 7 then M 145 (63 * k + 8 + j) else M 116 j) ∧ (∀ j, M1 119 j = if j < 3 then M 145 (63 * k + 15 + j) else M 119 j) ∧ (∀ j, M1 120 j = if j < 3 then M 145 (63 * k + 18 + j) else M 120 j) ∧ ∀ j, M1 117 j = if j < 42 then M 145 (63 * k + 21 + j) else M 117 j
theorem C_movesAllB {G : q_G} {d : Nat} {M : q_Mem} {N : q_MemL} {k : Nat} (hd : 2 ≤ d) (hk : k < 20) : AC0 G d m_X11_movesAll [.ref 112, I k, I 1] M N (CN (fun M' N' => N' = N ∧ MaB M M' k)) := by
  refine AC.of (L0 := [_, _, _]) pn_X11 (Nat.le_of_ble_eq_true rfl) rfl ?_
  refine st_aload_n dX11_movesAll_0 rfl ?_
  refine st_bipush dX11_movesAll_1 (by decide) ?_
  refine st_iload_n dX11_movesAll_3 rfl ?_
  refine st_imul dX11_movesAll_4 ?_
  rw [show (63 : Int) * (k : Int) = ((63 * k : Nat) : Int) by omega]
  refine st_putfi dX11_movesAll_5 w_X11_436 (by first | with_reducible assumption | rfl) (by rfl) rfl rfl ?_
  refine st_aload_n dX11_movesAll_8 rfl ?_
  refine st_iload_n dX11_movesAll_9 rfl ?_
  refine st_putfi dX11_movesAll_10 w_X11_432 (by first | with_reducible assumption | rfl) (by rfl) (by first | rfl | (split <;> rfl) | assumption) (by first | rfl | assumption) ?_
  refine st_aload_n dX11_movesAll_13 rfl ?_
  refine st_getfr dX11_movesAll_14 f_X11_9 (by first | with_reducible assumption | rfl) (by rfl) ?_
  refine st_bipush dX11_movesAll_17 (by decide) ?_
  refine st_aload_n dX11_movesAll_19 rfl ?_
  refine st_aload_n dX11_movesAll_20 rfl ?_
  refine st_getfr dX11_movesAll_21 f_X11_9 (by first | with_reducible assumption | rfl) (by rfl) ?_
  refine st_bipush dX11_movesAll_24 (by decide) ?_
  refine st_ialdK (k' := 6) dX11_movesAll_26 (by first | with_reducible assumption | rfl) rfl (by omega) (hn := by decide) ?_
  have g46 : q_up (q_up M 112 46 ((63 * k : Nat) : Int)) 112 47 1 112 46 = ((63 * k : Nat) : Int) := by simp [q_up]
  have g47 : q_up (q_up M 112 46 ((63 * k : Nat) : Int)) 112 47 1 112 47 = 1 := by simp [q_up]
  have g112 : ∀ j, ¬ j = 46 → ¬ j = 47 → q_up (q_up M 112 46 ((63 * k : Nat) : Int)) 112 47 1 112 j = M 112 j := fun j a b => by simp [q_up, a, b]
  have gx : ∀ a, ¬ a = 112 → q_up (q_up M 112 46 ((63 * k : Nat) : Int)) 112 47 1 a = M a := fun a ha => by rw [q_up_ne ha, q_up_ne ha]
  generalize q_up (q_up M 112 46 ((63 * k : Nat) : Int)) 112 47 1 = M1 at *
  refine c_V1i (d' := d - 1) dX11_movesAll_27 l_X11_439 k_X11_moves i_X11_moves (Or.inl ⟨_, _, _, _, _, (by first | with_reducible assumption | rfl), by rfl⟩) (by omega) (Nat.le_of_ble_eq_true rfl) (C_moves (p := 63 * k) g46 (by omega) (Or.inr g47)) (fun x M2 N2 hx => ?_)
  obtain ⟨rfl, rfl, r2⟩ := hx
  rw [g47, if_pos rfl, q_up_id (M := M1) rfl] at r2
  rw [g47, if_pos rfl, gx 145 (by decide)]
  refine st_iastK (k' := 6) dX11_movesAll_30 (by first | with_reducible assumption | rfl) rfl (by omega) (hn := by decide) ?_
  have b46 : q_up M2 113 6 (M 145 (63 * k)) 112 46 = ((63 * k + 1 : Nat) : Int) := by rw [q_up_ne (by decide), r2]; simp [q_up]
  have b47 : q_up M2 113 6 (M 145 (63 * k)) 112 47 = 1 := by rw [q_up_ne (by decide), r2, ← g47]; simp [q_up]
  have b112 : ∀ j, ¬ j = 46 → ¬ j = 47 → q_up M2 113 6 (M 145 (63 * k)) 112 j = M 112 j := fun j a b => by rw [q_up_ne (by decide), r2, ← g112 j a b]; simp [q_up, a]
  have bx : ∀ a, ¬ a = 112 → ¬ a = 113 → q_up M2 113 6 (M 145 (63 * k)) a = M a := fun a ha hb => by rw [q_up_ne hb, r2, q_up_ne ha, gx a ha]
  have b113 : ∀ j, q_up M2 113 6 (M 145 (63 * k)) 113 j = if j = 6 then M 145 (63 * k) else M 113 j := fun j => by
    by_cases c : j = 6
    · rw [if_pos c, c]; simp [q_up]
    · rw [if_neg c, ← gx 113 (by decide), r2]; simp [q_up, c]
  generalize q_up M2 113 6 (M 145 (63 * k)) = M3 at *
  refine st_aload_n dX11_movesAll_31 rfl ?_
  refine st_aload_n dX11_movesAll_32 rfl ?_
  refine st_getfr dX11_movesAll_33 f_X11_16 (by first | with_reducible assumption | rfl) (by rfl) ?_
  refine c_V1v (d' := d - 1) dX11_movesAll_36 l_X11_442 k_X11_movesRow i_X11_movesRow (Or.inl ⟨_, _, _, _, _, (by first | with_reducible assumption | rfl), by rfl⟩) (by omega) (Nat.le_of_ble_eq_true rfl) (C_movesRowB (n := 7) (p := 63 * k + 1) (by omega) sh_115 (by decide) (by decide) (by decide) b46 (by omega) b47) (fun M4 N4 hx => ?_)
  obtain ⟨rfl, r4⟩ := hx
  refine st_aload_n dX11_movesAll_39 rfl ?_
  refine st_aload_n dX11_movesAll_40 rfl ?_
  refine st_getfr dX11_movesAll_41 f_X11_19 (by first | with_reducible assumption | rfl) (by rfl) ?_
  refine c_V1v (d' := d - 1) dX11_movesAll_44 l_X11_442 k_X11_movesRow i_X11_movesRow (Or.inl ⟨_, _, _, _, _, (by first | with_reducible assumption | rfl), by rfl⟩) (by omega) (Nat.le_of_ble_eq_true rfl) (C_movesRowB (n := 7) (p := 63 * k + 8) (by omega) sh_116 (by decide) (by decide) (by decide) (by rw [r4]; simp [q_up]; omega) (by omega) (by rw [r4, ← b47]; simp [q_up, q_cp])) (fun M5 N5 hx => ?_)
  obtain ⟨rfl, r5⟩ := hx
  refine st_aload_n dX11_movesAll_47 rfl ?_
  refine st_aload_n dX11_movesAll_48 rfl ?_
  refine st_getfr dX11_movesAll_49 f_X11_28 (by first | with_reducible assumption | rfl) (by rfl) ?_
  refine c_V1v (d' := d - 1) dX11_movesAll_52 l_X11_442 k_X11_movesRow i_X11_movesRow (Or.inl ⟨_, _, _, _, _, (by first | with_reducible assumption | rfl), by rfl⟩) (by omega) (Nat.le_of_ble_eq_true rfl) (C_movesRowB (n := 3) (p := 63 * k + 15) (by omega) sh_119 (by decide) (by decide) (by decide) (by rw [r5]; simp [q_up]; omega) (by omega) (by rw [r5, r4, ← b47]; simp [q_up, q_cp])) (fun M6 N6 hx => ?_)
  obtain ⟨rfl, r6⟩ := hx
  refine st_aload_n dX11_movesAll_55 rfl ?_
  refine st_aload_n dX11_movesAll_56 rfl ?_
  refine st_getfr dX11_movesAll_57 f_X11_31 (by first | with_reducible assumption | rfl) (by rfl) ?_
  refine c_V1v (d' := d - 1) dX11_movesAll_60 l_X11_442 k_X11_movesRow i_X11_movesRow (Or.inl ⟨_, _, _, _, _, (by first | with_reducible assumption | rfl), by rfl⟩) (by omega) (Nat.le_of_ble_eq_true rfl) (C_movesRowB (n := 3) (p := 63 * k + 18) (by omega) sh_120 (by decide) (by decide) (by decide) (by rw [r6]; simp [q_up]; omega) (by omega) (by rw [r6, r5, r4, ← b47]; simp [q_up, q_cp])) (fun M7 N7 hx => ?_)
  obtain ⟨rfl, r7⟩ := hx
  refine st_aload_n dX11_movesAll_63 rfl ?_
  refine st_aload_n dX11_movesAll_64 rfl ?_
  refine st_getfr dX11_movesAll_65 f_X11_22 (by first | with_reducible assumption | rfl) (by rfl) ?_
  refine c_V1v (d' := d - 1) dX11_movesAll_68 l_X11_442 k_X11_movesRow i_X11_movesRow (Or.inl ⟨_, _, _, _, _, (by first | with_reducible assumption | rfl), by rfl⟩) (by omega) (Nat.le_of_ble_eq_true rfl) (C_movesRowB (n := 42) (p := 63 * k + 21) (by omega) sh_117 (by decide) (by decide) (by decide) (by rw [r7]; simp [q_up]; omega) (by omega) (by rw [r7, r6, r5, r4, ← b47]; simp [q_up, q_cp])) (fun M8 N8 hx => ?_)
  obtain ⟨rfl, r8⟩ := hx
  have c145 : M3 145 = M 145 := bx 145 (by decide) (by decide)
  refine r_v dX11_movesAll_71 rfl ⟨rfl, fun a ha => ?_, fun j j1 j2 => ?_, fun j j6 => ?_, ?_, fun j => ?_, fun j => ?_, fun j => ?_, fun j => ?_, fun j => ?_⟩
  · simp only [List.mem_cons, List.not_mem_nil, or_false, not_or] at ha
    rw [← bx a ha.1 ha.2.1, r8, r7, r6, r5, r4]
    funext j
    simp [q_up, q_cp, ha]
  · rw [← b112 j j1 j2, r8, r7, r6, r5, r4]; simp [q_up, q_cp, j1]
  · rw [show M 113 j = M3 113 j by rw [b113, if_neg j6], r8, r7, r6, r5, r4]; simp [q_up, q_cp]
  · rw [show M 145 (63 * k) = M3 113 6 by rw [b113, if_pos rfl], r8, r7, r6, r5, r4]; simp [q_up, q_cp]
  · rw [← bx 115 (by decide) (by decide), ← c145, r8, r7, r6, r5, r4]; simp [q_up, q_cp]
  · rw [← bx 116 (by decide) (by decide), ← c145, r8, r7, r6, r5, r4]; simp [q_up, q_cp]
  · rw [← bx 119 (by decide) (by decide), ← c145, r8, r7, r6, r5, r4]; simp [q_up, q_cp]
  · rw [← bx 120 (by decide) (by decide), ← c145, r8, r7, r6, r5, r4]; simp [q_up, q_cp]
  · rw [← bx 117 (by decide) (by decide), ← c145, r8, r7, r6, r5, r4]; simp [q_up, q_cp]


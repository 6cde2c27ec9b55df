/-! words: which word stands next, on both sides -/
/-- letters from a place -/
def ltB (f : Nat → Int) (n : Nat) : Nat → Nat → Nat
  | 0, _ => 0
  | m + 1, p => if 97 ≤ bytA f n p ∧ bytA f n p ≤ 122 then ltB f n m (p + 1) + 1 else 0
def lets (f : Nat → Int) (n p : Nat) : Nat := ltB f n (n - p) p
theorem ltB_s {f : Nat → Int} {n m p : Nat} : ltB f n (m + 1) p = if 97 ≤ bytA f n p ∧ bytA f n p ≤ 122 then ltB f n m (p + 1) + 1 else 0 := rfl
theorem ltB_le (f : Nat → Int) (n : Nat) : ∀ m p, ltB f n m p ≤ m
  | 0, p => by unfold ltB; omega
  | m + 1, p => by
    unfold ltB
    split
    · have := ltB_le f n m (p + 1)
      omega
    · omega
theorem lets_le (f : Nat → Int) (n p : Nat) : lets f n p ≤ n - p := ltB_le f n (n - p) p
def mtB (f : Nat → Int) (n : Nat) : Nat → List Int → Bool
  | _, [] => true
  | p, c :: w => decide (bytA f n p = c) && mtB f n (p + 1) w
/-- how many letters are those of a word -/
def mtK (f : Nat → Int) (n : Nat) : Nat → List Int → Nat
  | _, [] => 0
  | p, c :: w => (if bytA f n p = c then 1 else 0) + mtK f n (p + 1) w
theorem mtK_le (f : Nat → Int) (n : Nat) : ∀ p w, mtK f n p w ≤ w.length ∧ (mtK f n p w = w.length ↔ mtB f n p w = true)
  | p, [] => by simp [mtK, mtB]
  | p, c :: w => by
    have ih := mtK_le f n (p + 1) w
    unfold mtK mtB
    by_cases h : bytA f n p = c
    · simp only [h, if_pos, decide_true, Bool.true_and, List.length_cons]
      rw [← ih.2]
      omega
    · simp only [h, if_neg, decide_false, Bool.false_and, List.length_cons]
      simp
      omega
def isWd (f : Nat → Int) (n p : Nat) (w : List Int) : Bool := decide (lets f n p = w.length) && mtB f n p w
def findW (f : Nat → Int) (n p : Nat) : List (List Int) → Int → Int
  | [], _ => -1
  | w :: ws, k => if isWd f n p w = true then k else findW f n p ws (k + 1)
theorem findW_rng (f : Nat → Int) (n p : Nat) : ∀ ws (k : Int), 0 ≤ k → findW f n p ws k = -1 ∨ k ≤ findW f n p ws k ∧ findW f n p ws k < k + ws.length
  | [], k, _ => Or.inl rfl
  | w :: ws, k, hk => by
    unfold findW
    split
    · right
      simp
      omega
    · have := findW_rng f n p ws (k + 1) (by omega)
      simp only [List.length_cons]
      omega
/-- the system's way along a list of words -/
def fnd (f : Nat → Int) (n p l : Nat) : List Int → Nat → Nat → Nat → Int
  | [], wd, same, size => if size = l ∧ same = l then (wd : Int) else -1
  | c :: cs, wd, same, size => if c = 32 then (if size = l ∧ same = l then (wd : Int) else fnd f n p l cs (wd + 1) 0 0) else fnd f n p l cs wd (same + if bytA f n ((p + size : Nat) : Int) = c then 1 else 0) (size + 1)
theorem fnd_n {f : Nat → Int} {n p l wd same size : Nat} : fnd f n p l [] wd same size = if size = l ∧ same = l then (wd : Int) else -1 := rfl
theorem fnd_c {f : Nat → Int} {n p l wd same size : Nat} {c : Int} {cs : List Int} : fnd f n p l (c :: cs) wd same size = if c = 32 then (if size = l ∧ same = l then (wd : Int) else fnd f n p l cs (wd + 1) 0 0) else fnd f n p l cs wd (same + if bytA f n ((p + size : Nat) : Int) = c then 1 else 0) (size + 1) := rfl
theorem mtK_c {f : Nat → Int} {n p : Nat} {c : Int} {w : List Int} : mtK f n p (c :: w) = (if bytA f n p = c then 1 else 0) + mtK f n (p + 1) w := rfl
def jnW : List (List Int) → List Int
  | [] => []
  | [w] => w
  | w :: ws => w ++ 32 :: jnW ws
theorem fnd_app {f : Nat → Int} {n p l : Nat} : ∀ (w rest : List Int) (wd same size : Nat), (∀ c, c ∈ w → ¬ c = 32) → fnd f n p l (w ++ rest) wd same size = fnd f n p l rest wd (same + mtK f n (p + size) w) (size + w.length)
  | [], rest, wd, same, size, _ => by simp [mtK]
  | c :: w, rest, wd, same, size, h => by
    have hc : ¬ c = 32 := h c (by simp)
    rw [List.cons_append, fnd_c, if_neg hc, fnd_app w rest wd _ (size + 1) (fun d hd => h d (by simp [hd])), mtK_c]
    simp only [List.length_cons]
    rw [show p + (size + 1) = p + size + 1 by omega, show size + 1 + w.length = size + (w.length + 1) by omega, Nat.add_assoc]
theorem isWd_iff {f : Nat → Int} {n p : Nat} {w : List Int} : isWd f n p w = true ↔ w.length = lets f n p ∧ mtK f n p w = lets f n p := by
  have := mtK_le f n p w
  unfold isWd
  rw [Bool.and_eq_true, decide_eq_true_eq, ← this.2]
  omega
theorem fnd_jn {f : Nat → Int} {n p : Nat} : ∀ (ws : List (List Int)) (k : Nat), ¬ ws = [] → (∀ w, w ∈ ws → ∀ c, c ∈ w → ¬ c = 32) → fnd f n p (lets f n p) (jnW ws) k 0 0 = findW f n p ws k
  | [], k, h, _ => absurd rfl h
  | [w], k, _, hw => by
    unfold jnW
    have := fnd_app (f := f) (n := n) (p := p) (l := lets f n p) w [] k 0 0 (hw w (by simp))
    rw [List.append_nil] at this
    rw [this, fnd_n]
    unfold findW findW
    simp only [Nat.zero_add, Nat.add_zero]
    by_cases h : isWd f n p w = true
    · rw [if_pos h, if_pos (isWd_iff.1 h)]
    · rw [if_neg h, if_neg (fun q => h (isWd_iff.2 q))]
  | w :: w2 :: ws, k, _, hw => by
    rw [show jnW (w :: w2 :: ws) = w ++ 32 :: jnW (w2 :: ws) from rfl, fnd_app w _ k 0 0 (hw w (by simp))]
    rw [fnd_c, if_pos rfl]
    unfold findW
    simp only [Nat.zero_add, Nat.add_zero]
    by_cases h : isWd f n p w = true
    · rw [if_pos h, if_pos (isWd_iff.1 h)]
    · rw [if_neg h, if_neg (fun q => h (isWd_iff.2 q))]
      have := fnd_jn (f := f) (n := n) (p := p) (w2 :: ws) (k + 1) (by simp) (fun v hv => hw v (by simp [hv]))
      rw [this]
      rfl
/-- the letters of a string -/
def chL (i : Nat) : List Int := (q_byt.getD i []).map Int32.toInt
theorem chL_len {i : Nat} (hi : i < q_nS) : (chL i).length = q_len.getD i 0 := by
  have hl : ∀ i, i < 28 → q_len.getD i 0 = (q_byt.getD i []).length := by decide +kernel
  unfold chL
  rw [List.length_map, hl i hi]
theorem chL_rng : ∀ i, i < 28 → ∀ c, c ∈ chL i → 32 ≤ c ∧ c ≤ 122 := by
  have h : ∀ i, i < 28 → (chL i).all (fun c => decide (32 ≤ c ∧ c ≤ 122)) = true := by decide +kernel
  intro i hi c hc
  exact of_decide_eq_true (List.all_eq_true.1 (h i hi) c hc)
theorem chL_get {i j : Nat} (hi : i < q_nS) (hj : j < q_len.getD i 0) : chrS i j ∈ chL i ∧ (chL i).drop j = chrS i j :: (chL i).drop (j + 1) := by
  have hl : j < (chL i).length := by rw [chL_len hi]; exact hj
  have hl2 : j < (q_byt.getD i []).length := by
    unfold chL at hl
    rw [List.length_map] at hl
    exact hl
  have e : (chL i)[j] = chrS i j := by
    unfold chrS
    rw [getD_at _ _ hl2]
    exact List.getElem_map _
  exact ⟨e ▸ List.getElem_mem hl, by rw [← e]; exact List.drop_eq_getElem_cons hl⟩
theorem q_len_le : ∀ i, i < 28 → q_len.getD i 0 ≤ 62 := by decide +kernel
theorem C_find {G : q_G} {d : Nat} {M : q_Mem} {N : q_MemL} {n p i l : Nat} (hd : 4 ≤ d) (hi : i < q_nS) (hn : M 1 1 = (n : Int)) (hn2 : n ≤ 400) (hp : M 1 2 = (p : Int)) (hp2 : p < 1000) (hl : l ≤ 400) : AC0 G d m_X8_find [.ref 1, .ref (1000 + 2 * i), I l] M N (CV (PU (I (fnd (M 2) n p l (chL i) 0 0 0)) M N)) := by
  have hi28 : i < 28 := hi
  have hle := q_len_le i hi28
  have loop : ∀ (m k wd same size : Nat), k + m = q_len.getD i 0 → wd ≤ k → same ≤ size → size ≤ k → AW0 G d m_X8_find 11 [some (.ref 1), some (.ref (1000 + 2 * i)), some (I l), some (I wd), some (I same), some (I size), some (I k), none] [] M N (CV (PU (I (fnd (M 2) n p l ((chL i).drop k) wd same size)) M N)) := by
    intro m
    induction m with
    | zero =>
      intro k wd same size hk h1 h2 h3
      have e0 : (chL i).drop k = [] := List.drop_eq_nil_of_le (by rw [chL_len hi]; omega)
      rw [e0, fnd_n]
      refine st_iload dX8_find_11 rfl ?_
      refine st_aload_n dX8_find_13 rfl ?_
      refine c_V0p (d' := d - 1) dX8_find_14 l_X8_45 k_J0_length_8abf5 i_J0_length_8abf5 (Or.inr ⟨_, (by first | with_reducible assumption | decide), rfl, rfl⟩) (by omega) (Nat.le_of_ble_eq_true rfl) (C_strlen (by omega) hi) ?_
      refine st_icmp_gt (tgt := 110) dX8_find_17 (by omega) (by omega) rfl (fun c => ?_) (fun c => ?_)
      · skip
        omega
      · refine st_iload dX8_find_20 rfl ?_
        refine st_aload_n dX8_find_22 rfl ?_
        refine c_V0p (d' := d - 1) dX8_find_23 l_X8_45 k_J0_length_8abf5 i_J0_length_8abf5 (Or.inr ⟨_, (by first | with_reducible assumption | decide), rfl, rfl⟩) (by omega) (Nat.le_of_ble_eq_true rfl) (C_strlen (by omega) hi) ?_
        refine st_icmp_ge (tgt := 38) dX8_find_26 (by omega) (by omega) rfl (fun c2 => ?_) (fun c2 => ?_)
        · refine st_bipush dX8_find_38 (by decide) ?_
          refine st_istore (L' := [_, _, _, _, _, _, _, _]) dX8_find_40 (by decide) rfl rfl ?_
          refine st_iload dX8_find_42 rfl ?_
          refine st_bipush dX8_find_44 (by decide) ?_
          refine st_icmp_eq (tgt := 81) dX8_find_46 (by omega) (by omega) rfl (fun c3 => ?_) (fun c3 => ?_)
          · refine st_iload dX8_find_81 rfl ?_
            refine st_iload_n dX8_find_83 rfl ?_
            have nx : ¬ (size = l ∧ same = l) → AW0 G d m_X8_find 95 [some (.ref 1), some (.ref (1000 + 2 * i)), some (I l), some (I wd), some (I same), some (I size), some (I k), some (I 32)] [] M N (CV (PU (I (if size = l ∧ same = l then (wd : Int) else -1)) M N)) := by
              intro hx
              rw [if_neg hx]
              refine st_iinc (L' := [_, _, _, _, _, _, _, _]) dX8_find_95 rfl (by decide) rfl rfl ?_
              refine st_iconst dX8_find_98 ?_
              refine st_istore (L' := [_, _, _, _, _, _, _, _]) dX8_find_99 (by decide) rfl rfl ?_
              refine st_iconst dX8_find_101 ?_
              refine st_istore (L' := [_, _, _, _, _, _, _, _]) dX8_find_102 (by decide) rfl rfl ?_
              refine st_iinc (L' := [_, _, _, _, _, _, _, _]) dX8_find_104 rfl (by decide) rfl rfl ?_
              refine st_goto (tgt := 11) dX8_find_107 rfl ?_
              refine st_iload dX8_find_11 rfl ?_
              refine st_aload_n dX8_find_13 rfl ?_
              refine c_V0p (d' := d - 1) dX8_find_14 l_X8_45 k_J0_length_8abf5 i_J0_length_8abf5 (Or.inr ⟨_, (by first | with_reducible assumption | decide), rfl, rfl⟩) (by omega) (Nat.le_of_ble_eq_true rfl) (C_strlen (by omega) hi) ?_
              refine st_icmp_gt (tgt := 110) dX8_find_17 (by omega) (by omega) rfl (fun c4 => ?_) (fun c4 => ?_)
              · refine st_iconst dX8_find_110 ?_
                exact r_i dX8_find_111 rfl ⟨rfl, rfl, rfl⟩
              · skip
                omega
            refine st_icmp_ne (tgt := 95) dX8_find_84 (by omega) (by omega) rfl (fun c4 => ?_) (fun c4 => ?_)
            · skip
              exact nx (by omega)
            · refine st_iload dX8_find_87 rfl ?_
              refine st_iload_n dX8_find_89 rfl ?_
              refine st_icmp_ne (tgt := 95) dX8_find_90 (by omega) (by omega) rfl (fun c5 => ?_) (fun c5 => ?_)
              · skip
                exact nx (by omega)
              · refine st_iload_n dX8_find_93 rfl ?_
                rw [if_pos (by omega)]
                exact r_i dX8_find_94 rfl ⟨rfl, rfl, rfl⟩
          · skip
            omega
        · skip
          omega
    | succ m ih =>
      intro k wd same size hk h1 h2 h3
      have hkl : k < q_len.getD i 0 := by omega
      obtain ⟨hm, hdr⟩ := chL_get hi hkl
      have hr := chL_rng i hi28 _ hm
      rw [hdr]
      have back : ∀ (wd' same' size' : Nat) (x7 : Option Value), wd' ≤ k + 1 → same' ≤ size' → size' ≤ k + 1 → AW0 G d m_X8_find 104 [some (.ref 1), some (.ref (1000 + 2 * i)), some (I l), some (I wd'), some (I same'), some (I size'), some (I k), x7] [] M N (CV (PU (I (fnd (M 2) n p l ((chL i).drop (k + 1)) wd' same' size')) M N)) := by
        intro wd' same' size' x7 g1 g2 g3
        refine st_iinc (L' := [_, _, _, _, _, _, _, _]) dX8_find_104 rfl (by decide) rfl rfl ?_
        refine st_goto (tgt := 11) dX8_find_107 rfl ?_
        exact AW.le (ih (k + 1) wd' same' size' (by omega) g1 g2 g3) (by simp [q_le])
      rw [fnd_c]
      refine st_iload dX8_find_11 rfl ?_
      refine st_aload_n dX8_find_13 rfl ?_
      refine c_V0p (d' := d - 1) dX8_find_14 l_X8_45 k_J0_length_8abf5 i_J0_length_8abf5 (Or.inr ⟨_, (by first | with_reducible assumption | decide), rfl, rfl⟩) (by omega) (Nat.le_of_ble_eq_true rfl) (C_strlen (by omega) hi) ?_
      refine st_icmp_gt (tgt := 110) dX8_find_17 (by omega) (by omega) rfl (fun c => ?_) (fun c => ?_)
      · skip
        omega
      · refine st_iload dX8_find_20 rfl ?_
        refine st_aload_n dX8_find_22 rfl ?_
        refine c_V0p (d' := d - 1) dX8_find_23 l_X8_45 k_J0_length_8abf5 i_J0_length_8abf5 (Or.inr ⟨_, (by first | with_reducible assumption | decide), rfl, rfl⟩) (by omega) (Nat.le_of_ble_eq_true rfl) (C_strlen (by omega) hi) ?_
        refine st_icmp_ge (tgt := 38) dX8_find_26 (by omega) (by omega) rfl (fun c2 => ?_) (fun c2 => ?_)
        · skip
          omega
        · refine st_aload_n dX8_find_29 rfl ?_
          refine st_iload dX8_find_30 rfl ?_
          refine c_V1p (d' := d - 1) dX8_find_32 l_X8_49 k_J0_charAt_5068e i_J0_charAt_5068e (Or.inr ⟨_, (by first | with_reducible assumption | decide), rfl, rfl⟩) (by omega) (Nat.le_of_ble_eq_true rfl) (C_charAt (by omega) hi hkl) ?_
          refine st_goto (tgt := 40) dX8_find_35 rfl ?_
          refine st_istore (L' := [_, _, _, _, _, _, _, _]) dX8_find_40 (by decide) rfl rfl ?_
          refine st_iload dX8_find_42 rfl ?_
          refine st_bipush dX8_find_44 (by decide) ?_
          refine st_icmp_eq (tgt := 81) dX8_find_46 (by omega) (by omega) rfl (fun c3 => ?_) (fun c3 => ?_)
          · refine st_iload dX8_find_81 rfl ?_
            refine st_iload_n dX8_find_83 rfl ?_
            rw [if_pos c3]
            have nx : ¬ (size = l ∧ same = l) → AW0 G d m_X8_find 95 [some (.ref 1), some (.ref (1000 + 2 * i)), some (I l), some (I wd), some (I same), some (I size), some (I k), some (I (chrS i k))] [] M N (CV (PU (I (if size = l ∧ same = l then (wd : Int) else fnd (M 2) n p l ((chL i).drop (k + 1)) (wd + 1) 0 0)) M N)) := by
              intro hx
              rw [if_neg hx]
              refine st_iinc (L' := [_, _, _, _, _, _, _, _]) dX8_find_95 rfl (by decide) rfl rfl ?_
              refine st_iconst dX8_find_98 ?_
              refine st_istore (L' := [_, _, _, _, _, _, _, _]) dX8_find_99 (by decide) rfl rfl ?_
              refine st_iconst dX8_find_101 ?_
              refine st_istore (L' := [_, _, _, _, _, _, _, _]) dX8_find_102 (by decide) rfl rfl ?_
              exact back (wd + 1) 0 0 _ (by omega) (Nat.le_refl _) (by omega)
            refine st_icmp_ne (tgt := 95) dX8_find_84 (by omega) (by omega) rfl (fun c4 => ?_) (fun c4 => ?_)
            · skip
              exact nx (by omega)
            · refine st_iload dX8_find_87 rfl ?_
              refine st_iload_n dX8_find_89 rfl ?_
              refine st_icmp_ne (tgt := 95) dX8_find_90 (by omega) (by omega) rfl (fun c5 => ?_) (fun c5 => ?_)
              · skip
                exact nx (by omega)
              · refine st_iload_n dX8_find_93 rfl ?_
                rw [if_pos (by omega)]
                exact r_i dX8_find_94 rfl ⟨rfl, rfl, rfl⟩
          · refine st_iload dX8_find_49 rfl ?_
            refine st_aload_n dX8_find_51 rfl ?_
            refine st_aload_n dX8_find_52 rfl ?_
            refine st_getfi dX8_find_53 f_X8_19 (by first | with_reducible assumption | rfl) (by rfl) ?_
            rw [if_neg c3, hp]
            refine st_iload dX8_find_56 rfl ?_
            refine st_iadd dX8_find_58 ?_
            refine c_V1p (d' := d - 1) dX8_find_59 l_X8_25 k_X8_byteAt i_X8_byteAt (Or.inl ⟨_, _, _, _, _, (by first | with_reducible assumption | rfl), by rfl⟩) (by omega) (Nat.le_of_ble_eq_true rfl) (C_byteAt (n := n) hn hn2 (by unfold i32; omega)) ?_
            have hb := bytA_rng (M 2) n ((p + size : Nat) : Int)
            rw [show (p : Int) + (size : Int) = ((p + size : Nat) : Int) by omega]
            refine st_iload dX8_find_62 rfl ?_
            refine st_icmp_ne (tgt := 71) dX8_find_64 (by omega) (by omega) rfl (fun c4 => ?_) (fun c4 => ?_)
            · refine st_iconst dX8_find_71 ?_
              refine st_iadd dX8_find_72 ?_
              refine st_istore (L' := [_, _, _, _, _, _, _, _]) dX8_find_73 (by decide) rfl rfl ?_
              refine st_iinc (L' := [_, _, _, _, _, _, _, _]) dX8_find_75 rfl (by decide) rfl rfl ?_
              refine st_goto (tgt := 104) dX8_find_78 rfl ?_
              rw [if_neg (by omega)]
              exact back wd same (size + 1) _ (by omega) (by omega) (by omega)
            · refine st_iconst dX8_find_67 ?_
              refine st_goto (tgt := 72) dX8_find_68 rfl ?_
              refine st_iadd dX8_find_72 ?_
              refine st_istore (L' := [_, _, _, _, _, _, _, _]) dX8_find_73 (by decide) rfl rfl ?_
              refine st_iinc (L' := [_, _, _, _, _, _, _, _]) dX8_find_75 rfl (by decide) rfl rfl ?_
              refine st_goto (tgt := 104) dX8_find_78 rfl ?_
              rw [if_pos (by omega)]
              exact back wd (same + 1) (size + 1) _ (by omega) (by omega) (by omega)
  refine AC.of (L0 := [_, _, _, none, none, none, none, none]) pn_X8 (Nat.le_of_ble_eq_true rfl) rfl ?_
  refine st_iconst dX8_find_0 ?_
  refine st_istore_n (L' := [_, _, _, _, _, _, _, _]) dX8_find_1 (by decide) rfl rfl ?_
  refine st_iconst dX8_find_2 ?_
  refine st_istore (L' := [_, _, _, _, _, _, _, _]) dX8_find_3 (by decide) rfl rfl ?_
  refine st_iconst dX8_find_5 ?_
  refine st_istore (L' := [_, _, _, _, _, _, _, _]) dX8_find_6 (by decide) rfl rfl ?_
  refine st_iconst dX8_find_8 ?_
  refine st_istore (L' := [_, _, _, _, _, _, _, _]) dX8_find_9 (by decide) rfl rfl ?_
  exact loop (q_len.getD i 0) 0 0 0 0 (by omega) (by omega) (by omega) (by omega)
theorem C_readWord {G : q_G} {d : Nat} {M : q_Mem} {N : q_MemL} {n p i : Nat} {ws : List (List Int)} (hd : 5 ≤ d) (hi : i < q_nS) (hws : chL i = jnW ws) (hw0 : ¬ ws = []) (hw1 : ws.all (fun w => w.all (fun c => decide (¬ c = 32))) = true) (hn : M 1 1 = (n : Int)) (hn2 : n ≤ 400) (hp : M 1 2 = (p : Int)) (hp2 : p < 500) : AC0 G d m_X8_readWord [.ref 1, .ref (1000 + 2 * i)] M N (CV (fun x M' N' => N' = N ∧ x = I (findW (M 2) n (skip (M 2) n p) ws 0) ∧ M' = q_up M 1 2 (if findW (M 2) n (skip (M 2) n p) ws 0 = -1 then ((skip (M 2) n p : Nat) : Int) else ((skip (M 2) n p + lets (M 2) n (skip (M 2) n p) : Nat) : Int)))) := by
  have hi28 : i < 28 := hi
  have hsk := skip_le (M 2) n p
  have hlt := lets_le (M 2) n (skip (M 2) n p)
  have hw2 : ∀ w, w ∈ ws → ∀ c, c ∈ w → ¬ c = 32 := fun w hw c hc => of_decide_eq_true (List.all_eq_true.1 (List.all_eq_true.1 hw1 w hw) c hc)
  refine AC.of (L0 := [_, _, none, none, none]) pn_X8 (Nat.le_of_ble_eq_true rfl) rfl ?_
  refine st_aload_n dX8_readWord_0 rfl ?_
  refine c_V0i (d' := d - 1) dX8_readWord_1 l_X8_29 k_X8_peek i_X8_peek (Or.inl ⟨_, _, _, _, _, (by first | with_reducible assumption | rfl), by rfl⟩) (by omega) (Nat.le_of_ble_eq_true rfl) (C_peek (by omega) hn hn2 hp (by omega)) (fun x M1 N1 hx => ?_)
  obtain ⟨rfl, rfl, hM1⟩ := hx
  generalize skip (M 2) n p = q at *
  have hq2 : q < 900 := by omega
  have h1 : M1 1 1 = (n : Int) := by rw [hM1]; simp [q_up, hn]
  have h2 : M1 1 2 = (q : Int) := by rw [hM1]; simp [q_up]
  have hr : M1 2 = M 2 := by rw [hM1]; exact q_up_ne (by decide)
  have fin : ∀ (k : Nat) (l2 : Int) (x4 : Option Value), k = lets (M 2) n q → AW0 G d m_X8_readWord 49 [some (.ref 1), some (.ref (1000 + 2 * i)), some (I l2), some (I k), x4] [] M1 N1 (CV (fun x M' N' => N' = N1 ∧ x = I (findW (M 2) n q ws 0) ∧ M' = q_up M 1 2 (if findW (M 2) n q ws 0 = -1 then (q : Int) else ((q + lets (M 2) n q : Nat) : Int)))) := by
    intro k l2 x4 hk
    subst hk
    refine st_aload_n dX8_readWord_49 rfl ?_
    refine st_aload_n dX8_readWord_50 rfl ?_
    refine st_iload_n dX8_readWord_51 rfl ?_
    refine c_V2p (d' := d - 1) dX8_readWord_52 l_X8_41 k_X8_find i_X8_find (Or.inl ⟨_, _, _, _, _, (by first | with_reducible assumption | rfl), by rfl⟩) (by omega) (Nat.le_of_ble_eq_true rfl) (C_find (i := i) (by omega) hi h1 hn2 h2 (by omega) (by omega)) ?_
    rw [hr, hws, fnd_jn ws 0 hw0 hw2]
    have hfr := findW_rng (M 2) n q ws 0 (by omega)
    have hlen : (ws.length : Int) ≤ 1000 := by
      have h62 := q_len_le i hi28
      have e1 := chL_len hi
      rw [hws] at e1
      have : ∀ ws : List (List Int), ws.length ≤ (jnW ws).length + 1 := by
        intro ws
        induction ws with
        | nil => simp
        | cons w r ih =>
          cases r with
          | nil => simp
          | cons a b =>
            rw [show jnW (w :: a :: b) = w ++ 32 :: jnW (a :: b) from rfl]
            simp only [List.length_append, List.length_cons] at *
            omega
      have := this ws
      omega
    rw [show (((0 : Nat) : Int)) = 0 from rfl]
    refine st_istore (L' := [_, _, _, _, _]) dX8_readWord_55 (by decide) rfl rfl ?_
    refine st_iload dX8_readWord_57 rfl ?_
    refine st_iconst dX8_readWord_59 ?_
    refine st_icmp_eq (tgt := 73) dX8_readWord_60 (by omega) (by omega) rfl (fun c => ?_) (fun c => ?_)
    · refine st_iload dX8_readWord_73 rfl ?_
      refine r_i dX8_readWord_75 rfl ⟨rfl, rfl, ?_⟩
      rw [if_pos c, hM1]
    · refine st_aload_n dX8_readWord_63 rfl ?_
      refine st_dup dX8_readWord_64 rfl ?_
      refine st_getfi dX8_readWord_65 f_X8_19 (by first | with_reducible assumption | rfl) (by rfl) ?_
      rw [h2]
      refine st_iload_n dX8_readWord_68 rfl ?_
      refine st_iadd dX8_readWord_69 ?_
      refine st_putfi dX8_readWord_70 w_X8_19 (by first | with_reducible assumption | rfl) (by rfl) rfl rfl ?_
      refine st_iload dX8_readWord_73 rfl ?_
      refine r_i dX8_readWord_75 rfl ⟨rfl, rfl, ?_⟩
      rw [if_neg c, hM1]
      funext a j
      simp only [q_up]
      split
      · omega
      · rfl
  have loop : ∀ (m k : Nat), q + k + m = max n q → ltB (M 2) n (n - (q + k)) (q + k) + k = lets (M 2) n q → AW0 G d m_X8_readWord 7 [some (.ref 1), some (.ref (1000 + 2 * i)), some (I (bytA (M 2) n ((q + k : Nat) : Int))), some (I k), none] [] M1 N1 (CV (fun x M' N' => N' = N1 ∧ x = I (findW (M 2) n q ws 0) ∧ M' = q_up M 1 2 (if findW (M 2) n q ws 0 = -1 then (q : Int) else ((q + lets (M 2) n q : Nat) : Int)))) := by
    intro m
    induction m with
    | zero =>
      intro k hk hL
      rw [show n - (q + k) = 0 by omega, show ltB (M 2) n 0 (q + k) = 0 from rfl] at hL
      refine st_aload_n dX8_readWord_7 rfl ?_
      refine st_getfi dX8_readWord_8 f_X8_19 (by first | with_reducible assumption | rfl) (by rfl) ?_
      rw [h2]
      refine st_iload_n dX8_readWord_11 rfl ?_
      refine st_iadd dX8_readWord_12 ?_
      refine st_aload_n dX8_readWord_13 rfl ?_
      refine st_getfi dX8_readWord_14 f_X8_15 (by first | with_reducible assumption | rfl) (by rfl) ?_
      rw [h1]
      refine st_icmp_ge (tgt := 49) dX8_readWord_17 (by omega) (by omega) rfl (fun c => ?_) (fun c => ?_)
      · skip
        exact fin k _ none (by omega)
      · skip
        omega
    | succ m ih =>
      intro k hk hL
      have hb := bytA_rng (M 2) n ((q + k : Nat) : Int)
      have stop : ¬ (97 ≤ bytA (M 2) n ((q + k : Nat) : Int) ∧ bytA (M 2) n ((q + k : Nat) : Int) ≤ 122) → k = lets (M 2) n q := by
        intro hx
        by_cases hz : n - (q + k) = 0
        · rw [hz, show ltB (M 2) n 0 (q + k) = 0 from rfl] at hL
          omega
        · rw [show n - (q + k) = (n - (q + k) - 1) + 1 by omega, ltB_s, if_neg hx] at hL
          omega
      refine st_aload_n dX8_readWord_7 rfl ?_
      refine st_getfi dX8_readWord_8 f_X8_19 (by first | with_reducible assumption | rfl) (by rfl) ?_
      rw [h2]
      refine st_iload_n dX8_readWord_11 rfl ?_
      refine st_iadd dX8_readWord_12 ?_
      refine st_aload_n dX8_readWord_13 rfl ?_
      refine st_getfi dX8_readWord_14 f_X8_15 (by first | with_reducible assumption | rfl) (by rfl) ?_
      rw [h1]
      refine st_icmp_ge (tgt := 49) dX8_readWord_17 (by omega) (by omega) rfl (fun c => ?_) (fun c => ?_)
      · skip
        omega
      · refine st_iload_n dX8_readWord_20 rfl ?_
        refine st_bipush dX8_readWord_21 (by decide) ?_
        refine st_icmp_lt (tgt := 49) dX8_readWord_23 (by omega) (by omega) rfl (fun c2 => ?_) (fun c2 => ?_)
        · skip
          exact fin k _ none (stop (by omega))
        · refine st_iload_n dX8_readWord_26 rfl ?_
          refine st_bipush dX8_readWord_27 (by decide) ?_
          refine st_icmp_gt (tgt := 49) dX8_readWord_29 (by omega) (by omega) rfl (fun c3 => ?_) (fun c3 => ?_)
          · skip
            exact fin k _ none (stop (by omega))
          · refine st_iinc (L' := [_, _, _, _, _]) dX8_readWord_32 rfl (by decide) rfl rfl ?_
            refine st_aload_n dX8_readWord_35 rfl ?_
            refine st_aload_n dX8_readWord_36 rfl ?_
            refine st_getfi dX8_readWord_37 f_X8_19 (by first | with_reducible assumption | rfl) (by rfl) ?_
            rw [h2]
            refine st_iload_n dX8_readWord_40 rfl ?_
            refine st_iadd dX8_readWord_41 ?_
            rw [show n - (q + k) = (n - (q + k) - 1) + 1 by omega, ltB_s, if_pos (by omega)] at hL
            refine c_V1p (d' := d - 1) dX8_readWord_42 l_X8_25 k_X8_byteAt i_X8_byteAt (Or.inl ⟨_, _, _, _, _, (by first | with_reducible assumption | rfl), by rfl⟩) (by omega) (Nat.le_of_ble_eq_true rfl) (C_byteAt (n := n) h1 hn2 (by unfold i32; omega)) ?_
            rw [hr]
            refine st_istore_n (L' := [_, _, _, _, _]) dX8_readWord_45 (by decide) rfl rfl ?_
            refine st_goto (tgt := 7) dX8_readWord_46 rfl ?_
            have ih2 := ih (k + 1) (by omega) (by rw [show n - (q + (k + 1)) = n - (q + k) - 1 by omega, show q + (k + 1) = q + k + 1 by omega]; omega)
            refine AW.to ih2 (h2 := ?_)
            rw [show ((q : Int) + ((k : Int) + 1)) = ((q + (k + 1) : Nat) : Int) by omega]
            rfl
  refine st_istore_n (L' := [_, _, _, _, _]) dX8_readWord_4 (by decide) rfl rfl ?_
  refine st_iconst dX8_readWord_5 ?_
  refine st_istore_n (L' := [_, _, _, _, _]) dX8_readWord_6 (by decide) rfl rfl ?_
  exact AW.to (loop (max n q - q) 0 (by omega) (by unfold lets; simp)) (h2 := by simp)


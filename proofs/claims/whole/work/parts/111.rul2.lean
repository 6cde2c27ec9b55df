/-! the reading of a rule: tests, the pure part -/
def dK : List Int → Nat
  | [] => 0
  | x :: K => (if x = 21 ∨ x = 24 then 1 else 0) + dK K
def bK : List Int → Nat
  | [] => 0
  | x :: K => (if x = 24 then 1 else 0) + bK K
def jK : List Int → Nat
  | [] => 0
  | x :: K => (if x = 22 ∨ x = 23 then 1 else 0) + jK K
/-- all but brackets -/
def nbK : List Int → Nat
  | [] => 0
  | x :: K => (if x = 24 then 0 else 1) + nbK K
theorem nbK_c (x : Int) (K : List Int) : nbK (x :: K) = (if x = 24 then 0 else 1) + nbK K := rfl
theorem jK_c (x : Int) (K : List Int) : jK (x :: K) = (if x = 22 ∨ x = 23 then 1 else 0) + jK K := rfl
theorem dK_c (x : Int) (K : List Int) : dK (x :: K) = (if x = 21 ∨ x = 24 then 1 else 0) + dK K := rfl
theorem bK_c (x : Int) (K : List Int) : bK (x :: K) = (if x = 24 then 1 else 0) + bK K := rfl
def SK : List Int → Prop
  | [] => True
  | x :: K => (x = 21 ∨ x = 22 ∨ x = 23 ∨ x = 24) ∧ (∀ y, K.head? = some y → (x = 22 → y = 23 ∨ y = 24) ∧ (x = 23 → y = 24)) ∧ SK K
def hdB (K : List Int) : Nat := if K.head? = some 22 then 2 else if K.head? = some 23 then 1 else 0
theorem SK_len : ∀ K, SK K → K.length ≤ 3 * dK K + hdB K
  | [], _ => by simp
  | x :: K, h => by
    obtain ⟨h1, h2, h3⟩ := h
    have ih := SK_len K h3
    have hb : hdB K ≤ 2 := by
      unfold hdB
      repeat' split
      all_goals omega
    simp only [List.length_cons]
    unfold dK
    rcases h1 with rfl | rfl | rfl | rfl
    · rw [if_pos (by omega)]
      omega
    · rw [if_neg (by omega)]
      have e : hdB (22 :: K) = 2 := rfl
      have e2 : hdB K ≤ 1 := by
        unfold hdB
        rw [if_neg]
        · split <;> omega
        · intro z
          have := (h2 _ z).1 rfl
          omega
      omega
    · rw [if_neg (by omega)]
      have e : hdB (23 :: K) = 1 := rfl
      have e2 : hdB K = 0 := by
        unfold hdB
        rw [if_neg, if_neg]
        · intro z
          have := (h2 _ z).2 rfl
          omega
        · intro z
          have := (h2 _ z).2 rfl
          omega
      omega
    · rw [if_pos (by omega)]
      omega
theorem SK_len2 {K : List Int} (h : SK K) : K.length ≤ 3 * dK K + 2 := by
  have := SK_len K h
  have hb : hdB K ≤ 2 := by
    unfold hdB
    repeat' split
    all_goals omega
  omega
theorem bK_le : ∀ K, bK K ≤ dK K ∧ dK K ≤ K.length ∧ nbK K + bK K = K.length
  | [] => by simp [bK, dK, nbK]
  | x :: K => by
    have := bK_le K
    unfold bK dK nbK
    simp only [List.length_cons]
    split <;> split <;> omega
theorem lvl_rng (x : Int) : 0 ≤ lvl x ∧ lvl x ≤ 6 := by
  unfold lvl
  repeat' split
  all_goals omega
theorem lvl_0 {x : Int} : lvl x < 1 ↔ x = 24 := by
  unfold lvl
  repeat' split
  all_goals omega
/-- what putting down does -/
theorem stl_ok {lv : Int} (hl : 1 ≤ lv ∧ lv ≤ 2) : ∀ (K E : List Int), SK K → SK (stl lv K E).1 ∧ (∀ y, (stl lv K E).1.head? = some y → lvl y < lv) ∧ dK (stl lv K E).1 ≤ dK K ∧ bK (stl lv K E).1 = bK K ∧ jK (stl lv K E).1 ≤ jK K ∧ ∃ seg, (stl lv K E).2 = E ++ seg ∧ tyL seg (List.replicate (jK K + 1) true) = some (List.replicate (jK (stl lv K E).1 + 1) true) ∧ seg.length + nbK (stl lv K E).1 = nbK K
  | [], E, _ => ⟨trivial, fun y h => (by cases h), Nat.le_refl _, rfl, Nat.le_refl _, [], by simp [stl], rfl, by simp [stl]⟩
  | x :: K, E, h => by
    rw [stl_c]
    by_cases c : lvl x < lv
    · rw [if_pos c]
      refine ⟨h, fun y hy => ?_, Nat.le_refl _, rfl, Nat.le_refl _, [], by simp, rfl, by simp⟩
      cases hy
      exact c
    · rw [if_neg c]
      obtain ⟨h1, h2, h3⟩ := h
      obtain ⟨a1, a2, a3, a4, a5, seg, a6, a7, a8⟩ := stl_ok hl K (E ++ [x]) h3
      have hx : ¬ x = 24 := fun z => c (by have := lvl_0.2 z; omega)
      refine ⟨a1, a2, ?_, ?_, ?_, [x] ++ seg, by rw [a6]; simp, ?_, ?_⟩
      · rw [dK_c x K]
        omega
      · rw [bK_c x K, if_neg hx, a4]
        omega
      · rw [jK_c x K]
        omega
      · rcases h1 with rfl | h1 | h1 | h1
        · have e : jK (21 :: K) = jK K := by
            show (if (21 : Int) = 22 ∨ (21 : Int) = 23 then 1 else 0) + jK K = jK K
            rw [if_neg (by omega)]
            omega
          rw [e, tyL_app _ _ _ (List.replicate (jK K + 1) true) (by rw [List.replicate_succ]; exact ty_no)]
          exact a7
        · have e : jK (x :: K) = jK K + 1 := by
            show (if x = 22 ∨ x = 23 then 1 else 0) + jK K = jK K + 1
            rw [if_pos (by omega)]
            omega
          rw [e, tyL_app _ _ _ (List.replicate (jK K + 1) true) (by rw [List.replicate_succ, List.replicate_succ]; exact ty_jo (by omega))]
          exact a7
        · have e : jK (x :: K) = jK K + 1 := by
            show (if x = 22 ∨ x = 23 then 1 else 0) + jK K = jK K + 1
            rw [if_pos (by omega)]
            omega
          rw [e, tyL_app _ _ _ (List.replicate (jK K + 1) true) (by rw [List.replicate_succ, List.replicate_succ]; exact ty_jo (by omega))]
          exact a7
        · exact absurd h1 hx
      · show ([x] ++ seg).length + nbK (stl lv K (E ++ [x])).1 = (if x = 24 then 0 else 1) + nbK K
        rw [if_neg hx]
        simp
        omega
/-- a test: st true: a fact is wanted -/
def tstP (f : Nat → Int) (n : Nat) : Nat → Bool → Nat → Nat → List Int → List Int → PS
  | 0, _, _, _, _, _ => .error 1
  | m + 1, true, p, c, K, E =>
    if isWd f n (skip f n p) (chL 25) = true then (if dK K = 10 then .error (1 + 8 * (skip f n p : Nat) + 2) else tstP f n m true (skip f n p + 3) c (21 :: K) E)
    else if bytA f n (skip f n p : Nat) = 91 then (if dK K = 10 then .error (1 + 8 * (skip f n p : Nat) + 2) else tstP f n m true (skip f n p + 1) c (24 :: K) E)
    else match cmpP f n (skip f n p) c E with
      | .error F => .error F
      | .ok (p1, c1, E1) => tstP f n m false p1 c1 K E1
  | m + 1, false, p, c, K, E =>
    if isWd f n (skip f n p) (chL 26) = true then tstP f n m true (skip f n p + 3) c (22 :: (stl 2 K E).1) (stl 2 K E).2
    else if isWd f n (skip f n p) (chL 27) = true then tstP f n m true (skip f n p + 2) c (23 :: (stl 1 K E).1) (stl 1 K E).2
    else match (stl 1 K E).1 with
      | [] => .ok (skip f n p, c, (stl 1 K E).2)
      | _ :: K2 => if bytA f n (skip f n p : Nat) = 93 then tstP f n m false (skip f n p + 1) c K2 (stl 1 K E).2 else .error (1 + 8 * (skip f n p : Nat))
theorem tstP_t {f : Nat → Int} {n m p c : Nat} {K E : List Int} : tstP f n (m + 1) true p c K E =
    if isWd f n (skip f n p) (chL 25) = true then (if dK K = 10 then .error (1 + 8 * (skip f n p : Nat) + 2) else tstP f n m true (skip f n p + 3) c (21 :: K) E)
    else if bytA f n (skip f n p : Nat) = 91 then (if dK K = 10 then .error (1 + 8 * (skip f n p : Nat) + 2) else tstP f n m true (skip f n p + 1) c (24 :: K) E)
    else match cmpP f n (skip f n p) c E with
      | .error F => .error F
      | .ok (p1, c1, E1) => tstP f n m false p1 c1 K E1 := rfl
theorem tstP_f {f : Nat → Int} {n m p c : Nat} {K E : List Int} : tstP f n (m + 1) false p c K E =
    if isWd f n (skip f n p) (chL 26) = true then tstP f n m true (skip f n p + 3) c (22 :: (stl 2 K E).1) (stl 2 K E).2
    else if isWd f n (skip f n p) (chL 27) = true then tstP f n m true (skip f n p + 2) c (23 :: (stl 1 K E).1) (stl 1 K E).2
    else match (stl 1 K E).1 with
      | [] => .ok (skip f n p, c, (stl 1 K E).2)
      | _ :: K2 => if bytA f n (skip f n p : Nat) = 93 then tstP f n m false (skip f n p + 1) c K2 (stl 1 K E).2 else .error (1 + 8 * (skip f n p : Nat)) := rfl
/-- what holds all along a test; E0: what was there ahead of it -/
def TI (n w p c : Nat) (K E E0 : List Int) : Prop := SK K ∧ dK K ≤ 10 ∧ p ≤ n ∧ c ≤ 60 ∧ (∃ seg, E = E0 ++ seg ∧ tyL seg [] = some (List.replicate (jK K + w) true)) ∧ jK K + w ≤ c ∧ E.length + nbK K + w ≤ 2 * c + p / 3
theorem wd_len {f : Nat → Int} {n q i : Nat} (h : isWd f n q (chL i) = true) : (chL i).length + q ≤ max n q ∧ lets f n q = (chL i).length := by
  have h1 := (isWd_iff.1 h).1
  have := lets_le f n q
  omega
theorem TI.skp {n w p c : Nat} {K E E0 : List Int} {f : Nat → Int} (h : TI n w p c K E E0) : TI n w (skip f n p) c K E E0 := by
  obtain ⟨a1, a2, a3, a4, a5, a6, a7⟩ := h
  have hs := skip_le f n p
  have := hs.2.1 a3
  exact ⟨a1, a2, this, a4, a5, a6, by omega⟩
theorem TI.not {n q c : Nat} {K E E0 : List Int} {f : Nat → Int} (h : TI n 0 q c K E E0) (hw : isWd f n q (chL 25) = true) (hd : ¬ dK K = 10) : TI n 0 (q + 3) c (21 :: K) E E0 := by
  obtain ⟨a1, a2, a3, a4, ⟨seg, a5, a5'⟩, a6, a7⟩ := h
  have hl := (wd_len hw).1
  rw [show (chL 25).length = 3 from by decide +kernel] at hl
  have e : jK (21 :: K) = jK K := by
    show (if (21 : Int) = 22 ∨ (21 : Int) = 23 then 1 else 0) + jK K = jK K
    rw [if_neg (by omega)]
    omega
  have e2 : dK (21 :: K) = dK K + 1 := by
    show (if (21 : Int) = 21 ∨ (21 : Int) = 24 then 1 else 0) + dK K = dK K + 1
    rw [if_pos (by omega)]
    omega
  have e3 : nbK (21 :: K) = nbK K + 1 := by
    show (if (21 : Int) = 24 then 0 else 1) + nbK K = nbK K + 1
    rw [if_neg (by omega)]
    omega
  refine ⟨⟨Or.inl rfl, fun y _ => ⟨fun z => absurd z (by decide), fun z => absurd z (by decide)⟩, a1⟩, by omega, by omega, a4, ⟨seg, a5, by rw [e]; exact a5'⟩, by omega, by omega⟩
theorem TI.bra {n q c : Nat} {K E E0 : List Int} {f : Nat → Int} (h : TI n 0 q c K E E0) (hw : bytA f n (q : Int) = 91) (hd : ¬ dK K = 10) : TI n 0 (q + 1) c (24 :: K) E E0 := by
  obtain ⟨a1, a2, a3, a4, ⟨seg, a5, a5'⟩, a6, a7⟩ := h
  have hl := byt_lt hw (by omega)
  have e : jK (24 :: K) = jK K := by
    show (if (24 : Int) = 22 ∨ (24 : Int) = 23 then 1 else 0) + jK K = jK K
    rw [if_neg (by omega)]
    omega
  have e2 : dK (24 :: K) = dK K + 1 := by
    show (if (24 : Int) = 21 ∨ (24 : Int) = 24 then 1 else 0) + dK K = dK K + 1
    rw [if_pos (by omega)]
    omega
  have e3 : nbK (24 :: K) = nbK K := by
    show (if (24 : Int) = 24 then 0 else 1) + nbK K = nbK K
    rw [if_pos (by omega)]
    omega
  refine ⟨⟨Or.inr (Or.inr (Or.inr rfl)), fun y _ => ⟨fun z => absurd z (by decide), fun z => absurd z (by decide)⟩, a1⟩, by omega, by omega, a4, ⟨seg, a5, by rw [e]; exact a5'⟩, by omega, by omega⟩
theorem TI.cmp {n q c p1 c1 : Nat} {K E E0 E1 : List Int} {f : Nat → Int} (h : TI n 0 q c K E E0) (hw : cmpP f n q c E = .ok (p1, c1, E1)) : TI n 1 p1 c1 K E1 E0 ∧ q < p1 := by
  obtain ⟨a1, a2, a3, a4, ⟨seg, a5, a5'⟩, a6, a7⟩ := h
  obtain ⟨⟨b1, b2, b3, b4, b5⟩, sg, b6, b7, b8⟩ := cmpP_ok a3 a4 hw
  refine ⟨⟨a1, a2, b2, b4, ⟨seg ++ sg, by rw [b6, a5]; simp, ?_⟩, by omega, ?_⟩, b1⟩
  · rw [tyL_app _ _ _ _ a5', b7 _ (by simp; omega)]
    rfl
  · rw [b6]
    simp
    omega
theorem TI.jo {n q c k : Nat} {x lv : Int} {K E E0 : List Int} (h : TI n 1 q c K E E0) (hk : q + k ≤ n ∧ 2 ≤ k) (hx : x = 22 ∧ lv = 2 ∨ x = 23 ∧ lv = 1) : TI n 0 (q + k) c (x :: (stl lv K E).1) (stl lv K E).2 E0 := by
  obtain ⟨a1, a2, a3, a4, ⟨seg, a5, a5'⟩, a6, a7⟩ := h
  obtain ⟨b1, b2, b3, b4, b5, sg, b6, b7, b8⟩ := stl_ok (lv := lv) (by omega) K E a1
  have e : jK (x :: (stl lv K E).1) = jK (stl lv K E).1 + 1 := by
    rw [jK_c, if_pos (by omega)]
    omega
  have e2 : dK (x :: (stl lv K E).1) = dK (stl lv K E).1 := by
    rw [dK_c, if_neg (by omega)]
    omega
  have e3 : nbK (x :: (stl lv K E).1) = nbK (stl lv K E).1 + 1 := by
    rw [nbK_c, if_neg (by omega)]
    omega
  refine ⟨⟨by omega, fun y hy => ?_, b1⟩, by omega, hk.1, a4, ⟨seg ++ sg, by rw [b6, a5]; simp, ?_⟩, by omega, ?_⟩
  · have := b2 y hy
    have hy2 : y = 21 ∨ y = 22 ∨ y = 23 ∨ y = 24 := by
      cases hK : (stl lv K E).1 with
      | nil => rw [hK] at hy; cases hy
      | cons z r =>
        rw [hK] at hy b1
        cases hy
        exact b1.1
    rcases hx with ⟨rfl, rfl⟩ | ⟨rfl, rfl⟩
    · refine ⟨fun _ => ?_, fun z => absurd z (by decide)⟩
      rcases hy2 with rfl | rfl | h | h
      · revert this
        decide
      · revert this
        decide
      · exact Or.inl h
      · exact Or.inr h
    · exact ⟨fun z => absurd z (by decide), fun _ => lvl_0.1 this⟩
  · rw [tyL_app _ _ _ _ a5', b7, e]
  · rw [b6]
    simp
    omega
theorem TI.clo {n q c : Nat} {x : Int} {K K2 E E0 : List Int} {f : Nat → Int} (h : TI n 1 q c K E E0) (hK : (stl 1 K E).1 = x :: K2) (hb : bytA f n (q : Int) = 93) : TI n 1 (q + 1) c K2 (stl 1 K E).2 E0 ∧ x = 24 := by
  obtain ⟨a1, a2, a3, a4, ⟨seg, a5, a5'⟩, a6, a7⟩ := h
  obtain ⟨b1, b2, b3, b4, b5, sg, b6, b7, b8⟩ := stl_ok (lv := 1) (by omega) K E a1
  have hl := byt_lt hb (by omega)
  rw [hK] at b1 b2 b3 b4 b5 b7 b8
  have hx : x = 24 := lvl_0.1 (b2 x rfl)
  subst hx
  rw [jK_c, if_neg (by omega), Nat.zero_add] at b5 b7
  rw [dK_c, if_pos (by omega)] at b3
  rw [nbK_c, if_pos (by omega)] at b8
  refine ⟨⟨b1.2.2, by omega, by omega, a4, ⟨seg ++ sg, by rw [b6, a5]; simp, ?_⟩, by omega, ?_⟩, rfl⟩
  · rw [tyL_app _ _ _ _ a5', b7]
  · rw [b6]
    simp
    omega
theorem TI.fin {n q c : Nat} {K E E0 : List Int} (h : TI n 1 q c K E E0) (hK : (stl 1 K E).1 = []) : (∃ seg, (stl 1 K E).2 = E0 ++ seg ∧ tyL seg [] = some [true]) ∧ (stl 1 K E).2.length + 1 ≤ 2 * c + q / 3 ∧ bK K = 0 := by
  obtain ⟨a1, a2, a3, a4, ⟨seg, a5, a5'⟩, a6, a7⟩ := h
  obtain ⟨b1, b2, b3, b4, b5, sg, b6, b7, b8⟩ := stl_ok (lv := 1) (by omega) K E a1
  rw [hK] at b4 b7 b8
  refine ⟨⟨seg ++ sg, by rw [b6, a5]; simp, ?_⟩, ?_, ?_⟩
  · rw [tyL_app _ _ _ _ a5', b7]
    rfl
  · rw [b6]
    have : nbK [] = 0 := rfl
    simp
    omega
  · have : bK [] = 0 := rfl
    omega
theorem TI.len {n w q c : Nat} {K E E0 : List Int} (h : TI n w q c K E E0) (hn : n ≤ 400) : K.length ≤ 32 ∧ E.length ≤ 253 ∧ bK K ≤ 10 := by
  obtain ⟨a1, a2, a3, a4, a5, a6, a7⟩ := h
  have := SK_len2 a1
  have := bK_le K
  omega
/-- where a test ends well -/
theorem tstP_ok {f : Nat → Int} {n : Nat} {E0 : List Int} : ∀ (m : Nat) (w : Bool) (p c p1 c1 : Nat) (K E E1 : List Int), TI n (if w = true then 0 else 1) p c K E E0 → tstP f n m w p c K E = .ok (p1, c1, E1) → p ≤ p1 ∧ p1 ≤ n ∧ c ≤ c1 ∧ c1 ≤ 60 ∧ skip f n p1 = p1 ∧ (∃ seg, E1 = E0 ++ seg ∧ tyL seg [] = some [true]) ∧ E1.length + 1 ≤ 2 * c1 + p1 / 3
  | 0, w, p, c, p1, c1, K, E, E1, _, h => by
    unfold tstP at h
    cases h
  | m + 1, true, p, c, p1, c1, K, E, E1, hI, h => by
    rw [if_pos rfl] at hI
    have hs := skip_le f n p
    have hI2 := hI.skp (f := f)
    rw [tstP_t] at h
    split at h
    · rename_i hw
      split at h
      · cases h
      · rename_i hd
        obtain ⟨b1, b2⟩ := tstP_ok m true _ c p1 c1 _ E E1 (by rw [if_pos rfl]; exact hI2.not hw hd) h
        exact ⟨by omega, b2⟩
    · split at h
      · rename_i hw
        split at h
        · cases h
        · rename_i hd
          obtain ⟨b1, b2⟩ := tstP_ok m true _ c p1 c1 _ E E1 (by rw [if_pos rfl]; exact hI2.bra hw hd) h
          exact ⟨by omega, b2⟩
      · cases hv : cmpP f n (skip f n p) c E with
        | error F => rw [hv] at h; cases h
        | ok r =>
          obtain ⟨p2, c2, E2⟩ := r
          rw [hv] at h
          obtain ⟨hc, hlt⟩ := hI2.cmp hv
          have hcc := (cmpP_ok hI2.2.2.1 hI2.2.2.2.1 hv).1
          obtain ⟨b1, b2, b3, b4⟩ := tstP_ok m false _ c2 p1 c1 _ E2 E1 (by rw [if_neg (by decide)]; exact hc) h
          exact ⟨by omega, b2, by omega, b4⟩
  | m + 1, false, p, c, p1, c1, K, E, E1, hI, h => by
    rw [if_neg (by decide)] at hI
    have hs := skip_le f n p
    have hI2 := hI.skp (f := f)
    rw [tstP_f] at h
    split at h
    · rename_i hw
      have hl := (wd_len hw).1
      rw [show (chL 26).length = 3 from by decide +kernel] at hl
      have := hI2.2.2.1
      obtain ⟨b1, b2⟩ := tstP_ok m true _ c p1 c1 _ _ E1 (by rw [if_pos rfl]; exact hI2.jo (x := 22) (lv := 2) (by omega) (by omega)) h
      exact ⟨by omega, b2⟩
    · split at h
      · rename_i hw
        have hl := (wd_len hw).1
        rw [show (chL 27).length = 2 from by decide +kernel] at hl
        have := hI2.2.2.1
        obtain ⟨b1, b2⟩ := tstP_ok m true _ c p1 c1 _ _ E1 (by rw [if_pos rfl]; exact hI2.jo (x := 23) (lv := 1) (by omega) (by omega)) h
        exact ⟨by omega, b2⟩
      · cases hK : (stl 1 K E).1 with
        | nil =>
          rw [hK] at h
          cases h
          have := hI2.fin hK
          exact ⟨hs.1, hI2.2.2.1, Nat.le_refl _, hI2.2.2.2.1, skip_skip f n p, this.1, this.2.1⟩
        | cons x K2 =>
          rw [hK] at h
          dsimp only at h
          split at h
          · rename_i hb
            obtain ⟨b1, b2⟩ := tstP_ok m false _ c p1 c1 _ _ E1 (by rw [if_neg (by decide)]; exact (hI2.clo hK hb).1) h
            exact ⟨by omega, b2⟩
          · cases h


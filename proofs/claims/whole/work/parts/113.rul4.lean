/-! the reading of a rule: a sum as the system goes along it, the pure part -/
theorem stl_app {lv : Int} {K : List Int} (hK : ∀ y, K.head? = some y → lvl y < lv) : ∀ (A E : List Int), stl lv (A ++ K) E = ((stl lv A E).1 ++ K, (stl lv A E).2)
  | [], E => by
    cases K with
    | nil => rfl
    | cons y r =>
      rw [List.nil_append, stl_c, if_pos (hK y rfl)]
      rfl
  | x :: A, E => by
    rw [List.cons_append, stl_c, stl_c]
    by_cases c : lvl x < lv
    · rw [if_pos c, if_pos c]
      rfl
    · rw [if_neg c, if_neg c]
      exact stl_app hK A (E ++ [x])
theorem stl_all {lv : Int} : ∀ (A E : List Int), (∀ x, x ∈ A → lv ≤ lvl x) → stl lv A E = ([], E ++ A)
  | [], E, _ => by
    rw [List.append_nil]
    rfl
  | x :: A, E, h => by
    have := h x (by simp)
    rw [stl_c, if_neg (by omega), stl_all A (E ++ [x]) (fun y hy => h y (by simp [hy]))]
    simp
theorem lvl_a {x : Int} (h : 11 ≤ x ∧ x ≤ 12) : lvl x = 5 := by
  unfold lvl
  rw [if_neg (by omega), if_neg (by omega), if_neg (by omega), if_neg (by omega), if_pos h]
theorem lvl_m {x : Int} (h : 13 ≤ x ∧ x ≤ 15) : lvl x = 6 := by
  unfold lvl
  rw [if_neg (by omega), if_neg (by omega), if_neg (by omega), if_neg (by omega), if_neg (by omega), if_pos h]
theorem lvl_s {x : Int} (h : 16 ≤ x ∧ x ≤ 20) : lvl x = 4 := by
  unfold lvl
  rw [if_neg (by omega), if_neg (by omega), if_neg (by omega), if_neg (by omega), if_neg (by omega), if_neg (by omega)]
theorem tmP_s {f : Nat → Int} {n m p c : Nat} {E : List Int} : tmP f n (m + 1) p c E = if 13 ≤ opc (bytA f n (skip f n p : Nat)) then (match valP f n (skip f n p + 1) c E with
      | .error F => .error F
      | .ok (p1, c1, E1) => tmP f n m p1 c1 (E1 ++ [opc (bytA f n (skip f n p : Nat))]))
    else .ok (skip f n p, c, E) := rfl
theorem smP_s {f : Nat → Int} {n m p c : Nat} {E : List Int} : smP f n (m + 1) p c E = if opc (bytA f n (skip f n p : Nat)) = 11 ∨ opc (bytA f n (skip f n p : Nat)) = 12 then (match teP f n (skip f n p + 1) c E with
      | .error F => .error F
      | .ok (p1, c1, E1) => smP f n m p1 c1 (E1 ++ [opc (bytA f n (skip f n p : Nat))]))
    else .ok (skip f n p, c, E) := rfl
theorem tmP_fu {f : Nat → Int} {n : Nat} : ∀ (m m' p c : Nat) (E : List Int), p ≤ n → c ≤ 60 → n - p < m → n - p < m' → tmP f n m p c E = tmP f n m' p c E
  | 0, _, p, c, E, _, _, h, _ => absurd h (by omega)
  | _ + 1, 0, p, c, E, _, _, _, h => absurd h (by omega)
  | m + 1, m' + 1, p, c, E, hp, hc, h, h' => by
    have hs := skip_le f n p
    rw [tmP_s, tmP_s]
    by_cases ho : 13 ≤ opc (bytA f n (skip f n p : Nat))
    · rw [if_pos ho, if_pos ho]
      have hlt := opc_byte (f := f) (n := n) (p := skip f n p) (by omega)
      cases hv : valP f n (skip f n p + 1) c E with
      | error F => rfl
      | ok r =>
        obtain ⟨p2, c2, E2⟩ := r
        obtain ⟨a1, a2, a3, a4, -⟩ := valP_ok (by omega) hc hv
        exact tmP_fu m m' p2 c2 _ a2 (by omega) (by omega) (by omega)
    · rw [if_neg ho, if_neg ho]
theorem smP_fu {f : Nat → Int} {n : Nat} : ∀ (m m' p c : Nat) (E : List Int), p ≤ n → c ≤ 60 → n - p < m → n - p < m' → smP f n m p c E = smP f n m' p c E
  | 0, _, p, c, E, _, _, h, _ => absurd h (by omega)
  | _ + 1, 0, p, c, E, _, _, _, h => absurd h (by omega)
  | m + 1, m' + 1, p, c, E, hp, hc, h, h' => by
    have hs := skip_le f n p
    rw [smP_s, smP_s]
    by_cases ho : opc (bytA f n (skip f n p : Nat)) = 11 ∨ opc (bytA f n (skip f n p : Nat)) = 12
    · rw [if_pos ho, if_pos ho]
      have hlt := opc_byte (f := f) (n := n) (p := skip f n p) (by omega)
      cases hv : teP f n (skip f n p + 1) c E with
      | error F => rfl
      | ok r =>
        obtain ⟨p2, c2, E2⟩ := r
        obtain ⟨⟨a1, a2, a3, a4, -⟩, -⟩ := teP_ok (by omega) hc hv
        exact smP_fu m m' p2 c2 _ a2 (by omega) (by omega) (by omega)
    · rw [if_neg ho, if_neg ho]
/-- a sum along the tape: A waits -/
def rsP (f : Nat → Int) (n : Nat) : Nat → Nat → Nat → List Int → List Int → PS
  | 0, _, _, _, _ => .error 1
  | m + 1, p, c, A, E => match valP f n p c E with
    | .error F => .error F
    | .ok (p1, c1, E1) =>
      if opc (bytA f n (skip f n p1 : Nat)) = -1 then .ok (skip f n p1, c1, (stl 5 A E1).2)
      else rsP f n m (skip f n p1 + 1) c1 (opc (bytA f n (skip f n p1 : Nat)) :: (stl (lvl (opc (bytA f n (skip f n p1 : Nat)))) A E1).1) (stl (lvl (opc (bytA f n (skip f n p1 : Nat)))) A E1).2
theorem rsP_s {f : Nat → Int} {n m p c : Nat} {A E : List Int} : rsP f n (m + 1) p c A E = match valP f n p c E with
    | .error F => .error F
    | .ok (p1, c1, E1) =>
      if opc (bytA f n (skip f n p1 : Nat)) = -1 then .ok (skip f n p1, c1, (stl 5 A E1).2)
      else rsP f n m (skip f n p1 + 1) c1 (opc (bytA f n (skip f n p1 : Nat)) :: (stl (lvl (opc (bytA f n (skip f n p1 : Nat)))) A E1).1) (stl (lvl (opc (bytA f n (skip f n p1 : Nat)))) A E1).2 := rfl
def tlP (f : Nat → Int) (n : Nat) (mu ad : List Int) (p c : Nat) (E : List Int) : PS := match tmP f n 401 p c (E ++ mu) with
  | .error F => .error F
  | .ok (p2, c2, E2) => smP f n 401 p2 c2 (E2 ++ ad)
def tvP (f : Nat → Int) (n p c : Nat) (mu ad E : List Int) : PS := match valP f n p c E with
  | .error F => .error F
  | .ok (p1, c1, E1) => tlP f n mu ad p1 c1 E1
def muOk (mu : List Int) : Prop := mu = [] ∨ ∃ x : Int, mu = [x] ∧ 13 ≤ x ∧ x ≤ 15
def adOk (ad : List Int) : Prop := ad = [] ∨ ∃ x : Int, ad = [x] ∧ 11 ≤ x ∧ x ≤ 12
theorem muOk.lv {mu : List Int} (h : muOk mu) : ∀ x, x ∈ mu → lvl x = 6 := by
  rcases h with rfl | ⟨y, rfl, h⟩
  · intro x hx
    simp at hx
  · intro x hx
    simp at hx
    subst hx
    exact lvl_m h
theorem adOk.lv {ad : List Int} (h : adOk ad) : ∀ x, x ∈ ad → lvl x = 5 := by
  rcases h with rfl | ⟨y, rfl, h⟩
  · intro x hx
    simp at hx
  · intro x hx
    simp at hx
    subst hx
    exact lvl_a h
theorem stl_5 {mu ad E : List Int} (h : muOk mu) (h2 : adOk ad) : stl 5 (mu ++ ad) E = ([], E ++ (mu ++ ad)) := by
  refine stl_all _ _ (fun x hx => ?_)
  rcases List.mem_append.1 hx with hx | hx
  · rw [h.lv x hx]
    omega
  · rw [h2.lv x hx]
    omega
theorem stl_6 {mu ad E : List Int} (h : muOk mu) (h2 : adOk ad) : stl 6 (mu ++ ad) E = (ad, E ++ mu) := by
  rw [stl_app (fun y hy => by
    rw [h2.lv y (List.mem_of_head? hy)]
    omega), stl_all mu E (fun x hx => by
    rw [h.lv x hx]
    omega)]
  rfl
theorem rsP_eq {f : Nat → Int} {n : Nat} (hn : n ≤ 400) : ∀ (m p c : Nat) (mu ad E : List Int), n - p < m → p ≤ n → c ≤ 60 → muOk mu → adOk ad → rsP f n m p c (mu ++ ad) E = tvP f n p c mu ad E
  | 0, p, c, mu, ad, E, h, _, _, _, _ => absurd h (by omega)
  | m + 1, p, c, mu, ad, E, h, hp, hc, h1, h2 => by
    rw [rsP_s]
    unfold tvP
    cases hv : valP f n p c E with
    | error F => rfl
    | ok r =>
      obtain ⟨p1, c1, E1⟩ := r
      obtain ⟨a1, a2, a3, a4, -⟩ := valP_ok hp hc hv
      dsimp only
      have hs := skip_le f n p1
      have hs2 := hs.2.1 a2
      unfold tlP
      rw [tmP_s (m := 400)]
      have hoc := opc_cs (bytA f n (skip f n p1 : Nat))
      have hob := opc_byte (f := f) (n := n) (p := skip f n p1)
      generalize hop : opc (bytA f n (skip f n p1 : Nat)) = op at *
      by_cases c1' : op = -1
      · rw [if_pos c1', if_neg (by omega), stl_5 h1 h2]
        dsimp only
        rw [smP_s (m := 400), skip_skip, hop, if_neg (by omega), List.append_assoc]
      · rw [if_neg c1']
        have hlt := hob (by omega)
        by_cases c2' : 13 ≤ op
        · rw [if_pos c2', lvl_m (x := op) (by omega), stl_6 h1 h2]
          dsimp only
          have ih := rsP_eq (f := f) hn m (skip f n p1 + 1) c1 [op] ad (E1 ++ mu) (by omega) (by omega) (by omega) (Or.inr ⟨op, rfl, by omega⟩) h2
          rw [List.singleton_append] at ih
          rw [ih]
          unfold tvP
          cases hv2 : valP f n (skip f n p1 + 1) c1 (E1 ++ mu) with
          | error F => rfl
          | ok r2 =>
            obtain ⟨p2, c2, E2⟩ := r2
            obtain ⟨b1, b2, b3, b4, -⟩ := valP_ok (by omega) (by omega) hv2
            dsimp only
            unfold tlP
            rw [tmP_fu 401 400 p2 c2 (E2 ++ [op]) b2 (by omega) (by omega) (by omega)]
        · rw [if_neg c2', lvl_a (x := op) (by omega), stl_5 h1 h2]
          dsimp only
          have ih := rsP_eq (f := f) hn m (skip f n p1 + 1) c1 [] [op] (E1 ++ (mu ++ ad)) (by omega) (by omega) (by omega) (Or.inl rfl) (Or.inr ⟨op, rfl, by omega⟩)
          rw [List.nil_append] at ih
          rw [ih, smP_s (m := 400), skip_skip, hop, if_pos (by omega), List.append_assoc]
          unfold tvP teP
          cases hv2 : valP f n (skip f n p1 + 1) c1 (E1 ++ (mu ++ ad)) with
          | error F => rfl
          | ok r2 =>
            obtain ⟨p2, c2, E2⟩ := r2
            obtain ⟨b1, b2, b3, b4, -⟩ := valP_ok (by omega) (by omega) hv2
            dsimp only
            unfold tlP
            rw [List.append_nil]
            cases ht : tmP f n 401 p2 c2 E2 with
            | error F => rfl
            | ok r3 =>
              obtain ⟨p3, c3, E3⟩ := r3
              obtain ⟨⟨d1, d2, d3, d4, -⟩, -⟩ := tmP_ok _ p2 c2 p3 c3 _ E3 b2 (by omega) ht
              dsimp only
              exact smP_fu 401 400 p3 c3 _ d2 d4 (by omega) (by omega)
theorem sumP_rs {f : Nat → Int} {n p c : Nat} {E : List Int} (hn : n ≤ 400) (hp : p ≤ n) (hc : c ≤ 60) : sumP f n p c E = rsP f n 401 p c [] E := by
  have := rsP_eq (f := f) hn 401 p c [] [] E (by omega) hp hc (Or.inl rfl) (Or.inl rfl)
  rw [List.nil_append] at this
  rw [this]
  unfold sumP teP tvP
  cases hv : valP f n p c E with
  | error F => rfl
  | ok r =>
    obtain ⟨p1, c1, E1⟩ := r
    dsimp only
    unfold tlP
    rw [List.append_nil]
    cases ht : tmP f n 401 p1 c1 E1 with
    | error F => rfl
    | ok r3 =>
      obtain ⟨p3, c3, E3⟩ := r3
      dsimp only
      rw [List.append_nil]


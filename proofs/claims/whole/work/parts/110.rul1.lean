/-! the reading of a rule: the pure part -/
/-- the sort of an operator's sign -/
def opc (b : Int) : Int := if b = 43 then 11 else if b = 45 then 12 else if b = 42 then 13 else if b = 47 then 14 else if b = 37 then 15 else -1
theorem opc_cs (b : Int) : opc b = -1 ∧ ¬ b = 43 ∧ ¬ b = 45 ∧ ¬ b = 42 ∧ ¬ b = 47 ∧ ¬ b = 37 ∨ (11 ≤ opc b ∧ opc b ≤ 15) := by
  unfold opc
  repeat' split
  all_goals omega
theorem opc_byte {f : Nat → Int} {n p : Nat} (h : 11 ≤ opc (bytA f n (p : Int))) : p < n := by
  apply Decidable.byContradiction
  intro z
  rw [bytA_end.2 (by omega)] at h
  revert h
  decide
def wsR : List (List Int) := [chL 8, chL 14, chL 15, chL 16, chL 17, chL 18, chL 19, chL 20, chL 21, chL 22, chL 23]
abbrev PS : Type := Except Int (Nat × Nat × List Int)
/-- a value -/
def valP (f : Nat → Int) (n p c : Nat) (E : List Int) : PS :=
  if 48 ≤ bytA f n (skip f n p : Nat) ∧ bytA f n (skip f n p : Nat) ≤ 57 then
    (if numF f n (skip f n p) 0 99999 = 0 then (if c = 60 then .error (1 + 8 * (skip f n p : Nat) + 3) else .ok (skip f n p + numK f n (skip f n p), c + 1, E ++ [32 + numV f n (skip f n p)])) else .error (numF f n (skip f n p) 0 99999))
  else if findW f n (skip f n p) wsR 0 = -1 then .error (1 + 8 * (skip f n p : Nat))
  else if c = 60 then .error (1 + 8 * (skip f n p : Nat) + 3)
  else .ok (skip f n p + lets f n (skip f n p), c + 1, E ++ [findW f n (skip f n p) wsR 0])
/-- behind a value: times, over, rest -/
def tmP (f : Nat → Int) (n : Nat) : Nat → Nat → Nat → List Int → PS
  | 0, _, _, _ => .error 1
  | m + 1, p, c, E => if 13 ≤ opc (bytA f n (skip f n p : Nat)) then (match valP f n (skip f n p + 1) c E with
      | .error F => .error F
      | .ok (p1, c1, E1) => tmP f n m p1 c1 (E1 ++ [opc (bytA f n (skip f n p : Nat))]))
    else .ok (skip f n p, c, E)
/-- a term -/
def teP (f : Nat → Int) (n p c : Nat) (E : List Int) : PS := match valP f n p c E with
  | .error F => .error F
  | .ok (p1, c1, E1) => tmP f n 401 p1 c1 E1
/-- behind a term: plus, minus -/
def smP (f : Nat → Int) (n : Nat) : Nat → Nat → Nat → List Int → PS
  | 0, _, _, _ => .error 1
  | m + 1, p, c, E => if opc (bytA f n (skip f n p : Nat)) = 11 ∨ opc (bytA f n (skip f n p : Nat)) = 12 then (match teP f n (skip f n p + 1) c E with
      | .error F => .error F
      | .ok (p1, c1, E1) => smP f n m p1 c1 (E1 ++ [opc (bytA f n (skip f n p : Nat))]))
    else .ok (skip f n p, c, E)
def sumP (f : Nat → Int) (n p c : Nat) (E : List Int) : PS := match teP f n p c E with
  | .error F => .error F
  | .ok (p1, c1, E1) => smP f n 401 p1 c1 E1
def tyL : List Int → List Bool → Option (List Bool)
  | [], ts => some ts
  | c :: cs, ts => match tyS c ts with | some t => tyL cs t | none => none
theorem tyL_app : ∀ (a b : List Int) (ts t : List Bool), tyL a ts = some t → tyL (a ++ b) ts = tyL b t
  | [], b, ts, t, h => by
    cases h
    rfl
  | c :: a, b, ts, t, h => by
    unfold tyL at h
    rw [List.cons_append]
    show (match tyS c ts with | some t => tyL (a ++ b) t | none => none) = _
    cases e : tyS c ts with
    | none => rw [e] at h; cases h
    | some u =>
      rw [e] at h
      exact tyL_app a b u t h
/-- what a part of a sum adds -/
def addS (n p c : Nat) (E : List Int) (p1 c1 : Nat) (E1 : List Int) (tin : List Bool → List Bool) (x y : Nat) : Prop := p ≤ p1 ∧ p1 ≤ n ∧ c ≤ c1 ∧ c1 ≤ 60 ∧ ∃ seg, E1 = E ++ seg ∧ (∀ ts, ts.length + x ≤ c → tyL seg (tin ts) = some (false :: ts)) ∧ seg.length + y ≤ 2 * (c1 - c)
theorem wsR_pos {f : Nat → Int} {n q : Nat} (h : ¬ findW f n q wsR 0 = -1) : 1 ≤ lets f n q := by
  have key : ∀ (ws : List (List Int)) (k : Int), (∀ w, w ∈ ws → 1 ≤ w.length) → ¬ findW f n q ws k = -1 → 1 ≤ lets f n q := by
    intro ws
    induction ws with
    | nil => intro k _ h; exact absurd rfl h
    | cons w ws ih =>
      intro k hw h
      unfold findW at h
      by_cases e : isWd f n q w = true
      · have := isWd_iff.1 e
        have := hw w (by simp)
        omega
      · rw [if_neg e] at h
        exact ih (k + 1) (fun v hv => hw v (by simp [hv])) h
  refine key wsR 0 ?_ h
  decide +kernel
theorem valP_ok {f : Nat → Int} {n p c p1 c1 : Nat} {E E1 : List Int} (hp : p ≤ n) (hc : c ≤ 60) (h : valP f n p c E = .ok (p1, c1, E1)) : p < p1 ∧ p1 ≤ n ∧ c < 60 ∧ c1 = c + 1 ∧ ∃ x, E1 = E ++ [x] ∧ (32 ≤ x ∧ x ≤ 100031 ∨ 0 ≤ x ∧ x ≤ 10) := by
  have hs := skip_le f n p
  have hk := num_ok f n (skip f n p)
  have hl := lets_le f n (skip f n p)
  unfold valP at h
  split at h
  · split at h
    · rename_i h0
      split at h
      · cases h
      · cases h
        have hK : ¬ numK f n (skip f n p) = 0 := by
          intro z
          unfold numF at h0
          rw [if_pos z] at h0
          omega
        exact ⟨by omega, by omega, by omega, rfl, _, rfl, by omega⟩
    · cases h
  · split at h
    · cases h
    · rename_i hw
      split at h
      · cases h
      · cases h
        have := wsR_pos hw
        have hfr := findW_rng f n (skip f n p) wsR 0 (by omega)
        rw [show wsR.length = 11 from rfl] at hfr
        exact ⟨by omega, by omega, by omega, rfl, _, rfl, by omega⟩
theorem ty_val {x : Int} {ts : List Bool} (hx : 32 ≤ x ∧ x ≤ 100031 ∨ 0 ≤ x ∧ x ≤ 10) (h : ts.length < 60) : tyL [x] ts = some (false :: ts) := by
  unfold tyL tyS
  rw [if_pos hx, if_pos h]
  rfl
theorem ty_op {x : Int} {a b : Bool} {ts : List Bool} (hx : 11 ≤ x ∧ x ≤ 15) : tyL [x] (a :: b :: ts) = some (false :: ts) := by
  unfold tyL tyS
  rw [if_neg (by omega), if_neg (by omega), if_pos hx]
  rfl
theorem ty_sg {x : Int} {a b : Bool} {ts : List Bool} (hx : 16 ≤ x ∧ x ≤ 20) : tyL [x] (a :: b :: ts) = some (true :: ts) := by
  unfold tyL tyS
  rw [if_neg (by omega), if_neg (by omega), if_neg (by omega), if_pos hx]
  rfl
theorem ty_jo {x : Int} {ts : List Bool} (hx : 22 ≤ x ∧ x ≤ 23) : tyL [x] (true :: true :: ts) = some (true :: ts) := by
  unfold tyL tyS
  rw [if_neg (by omega), if_neg (by omega), if_neg (by omega), if_neg (by omega), if_pos hx]
  rfl
theorem ty_no {ts : List Bool} : tyL [21] (true :: ts) = some (true :: ts) := by
  unfold tyL tyS
  rw [if_neg (by omega), if_pos rfl]
  rfl
theorem tmP_ok {f : Nat → Int} {n : Nat} : ∀ (m p c p1 c1 : Nat) (E E1 : List Int), p ≤ n → c ≤ 60 → tmP f n m p c E = .ok (p1, c1, E1) → (p ≤ p1 ∧ p1 ≤ n ∧ c ≤ c1 ∧ c1 ≤ 60 ∧ skip f n p1 = p1 ∧ ¬ 13 ≤ opc (bytA f n p1)) ∧ ∃ seg, E1 = E ++ seg ∧ (∀ ts : List Bool, ts.length + 1 ≤ c → tyL seg (false :: ts) = some (false :: ts)) ∧ seg.length ≤ 2 * (c1 - c)
  | 0, p, c, p1, c1, E, E1, _, _, h => by
    unfold tmP at h
    cases h
  | m + 1, p, c, p1, c1, E, E1, hp, hc, h => by
    have hs := skip_le f n p
    unfold tmP at h
    split at h
    · rename_i ho
      have hlt := opc_byte (f := f) (n := n) (p := skip f n p) (by omega)
      have hoc := opc_cs (bytA f n (skip f n p : Nat))
      cases hv : valP f n (skip f n p + 1) c E with
      | error F => rw [hv] at h; cases h
      | ok r =>
        obtain ⟨p2, c2, E2⟩ := r
        rw [hv] at h
        dsimp only at h
        obtain ⟨a1, a2, a3, a4, x, a5, a6⟩ := valP_ok (by omega) hc hv
        obtain ⟨⟨b1, b2, b3, b4, b5, b6⟩, seg, b7, b8, b9⟩ := tmP_ok m p2 c2 p1 c1 _ E1 a2 (by omega) h
        refine ⟨⟨by omega, b2, by omega, b4, b5, b6⟩, [x] ++ [opc (bytA f n (skip f n p : Nat))] ++ seg, by rw [b7, a5]; simp, fun ts ht => ?_, by simp; omega⟩
        rw [tyL_app _ _ _ (false :: ts) (by rw [tyL_app _ _ _ (false :: false :: ts) (ty_val a6 (by simp; omega))]; exact ty_op (by omega))]
        exact b8 ts (by omega)
    · rename_i ho
      cases h
      exact ⟨⟨hs.1, hs.2.1 hp, Nat.le_refl _, hc, skip_skip f n p, ho⟩, [], by simp, fun _ _ => rfl, by simp⟩
theorem teP_ok {f : Nat → Int} {n p c p1 c1 : Nat} {E E1 : List Int} (hp : p ≤ n) (hc : c ≤ 60) (h : teP f n p c E = .ok (p1, c1, E1)) : (p < p1 ∧ p1 ≤ n ∧ c < c1 ∧ c1 ≤ 60 ∧ skip f n p1 = p1 ∧ ¬ 13 ≤ opc (bytA f n p1)) ∧ ∃ seg, E1 = E ++ seg ∧ (∀ ts : List Bool, ts.length ≤ c → tyL seg ts = some (false :: ts)) ∧ seg.length + 1 ≤ 2 * (c1 - c) := by
  unfold teP at h
  cases hv : valP f n p c E with
  | error F => rw [hv] at h; cases h
  | ok r =>
    obtain ⟨p2, c2, E2⟩ := r
    rw [hv] at h
    dsimp only at h
    obtain ⟨a1, a2, a3, a4, x, a5, a6⟩ := valP_ok hp hc hv
    obtain ⟨⟨b1, b2, b3, b4, b5, b6⟩, seg, b7, b8, b9⟩ := tmP_ok _ p2 c2 p1 c1 _ E1 a2 (by omega) h
    refine ⟨⟨by omega, b2, by omega, b4, b5, b6⟩, [x] ++ seg, by rw [b7, a5]; simp, fun ts ht => ?_, by simp; omega⟩
    rw [tyL_app _ _ _ (false :: ts) (ty_val a6 (by omega))]
    exact b8 ts (by omega)
theorem smP_ok {f : Nat → Int} {n : Nat} : ∀ (m p c p1 c1 : Nat) (E E1 : List Int), p ≤ n → c ≤ 60 → smP f n m p c E = .ok (p1, c1, E1) → (p ≤ p1 ∧ p1 ≤ n ∧ c ≤ c1 ∧ c1 ≤ 60 ∧ skip f n p1 = p1) ∧ ∃ seg, E1 = E ++ seg ∧ (∀ ts : List Bool, ts.length + 1 ≤ c → tyL seg (false :: ts) = some (false :: ts)) ∧ seg.length ≤ 2 * (c1 - c)
  | 0, p, c, p1, c1, E, E1, _, _, h => by
    unfold smP at h
    cases h
  | m + 1, p, c, p1, c1, E, E1, hp, hc, h => by
    have hs := skip_le f n p
    unfold smP at h
    split at h
    · rename_i ho
      have hlt := opc_byte (f := f) (n := n) (p := skip f n p) (by omega)
      cases hv : teP f n (skip f n p + 1) c E with
      | error F => rw [hv] at h; cases h
      | ok r =>
        obtain ⟨p2, c2, E2⟩ := r
        rw [hv] at h
        dsimp only at h
        obtain ⟨⟨a1, a2, a3, a4, a5, a6⟩, sg, a7, a8, a9⟩ := teP_ok (by omega) hc hv
        obtain ⟨⟨b1, b2, b3, b4, b5⟩, seg, b7, b8, b9⟩ := smP_ok m p2 c2 p1 c1 _ E1 a2 (by omega) h
        refine ⟨⟨by omega, b2, by omega, b4, b5⟩, sg ++ [opc (bytA f n (skip f n p : Nat))] ++ seg, by rw [b7, a7]; simp, fun ts ht => ?_, by simp; omega⟩
        rw [tyL_app _ _ _ (false :: ts) (by rw [tyL_app _ _ _ (false :: false :: ts) (a8 _ (by simp; omega))]; exact ty_op (by omega))]
        exact b8 ts (by omega)
    · cases h
      exact ⟨⟨hs.1, hs.2.1 hp, Nat.le_refl _, hc, skip_skip f n p⟩, [], by simp, fun _ _ => rfl, by simp⟩
theorem sumP_ok {f : Nat → Int} {n p c p1 c1 : Nat} {E E1 : List Int} (hp : p ≤ n) (hc : c ≤ 60) (h : sumP f n p c E = .ok (p1, c1, E1)) : (p < p1 ∧ p1 ≤ n ∧ c < c1 ∧ c1 ≤ 60 ∧ skip f n p1 = p1) ∧ ∃ seg, E1 = E ++ seg ∧ (∀ ts : List Bool, ts.length ≤ c → tyL seg ts = some (false :: ts)) ∧ seg.length + 1 ≤ 2 * (c1 - c) := by
  unfold sumP at h
  cases hv : teP f n p c E with
  | error F => rw [hv] at h; cases h
  | ok r =>
    obtain ⟨p2, c2, E2⟩ := r
    rw [hv] at h
    dsimp only at h
    obtain ⟨⟨a1, a2, a3, a4, a5, a6⟩, sg, a7, a8, a9⟩ := teP_ok hp hc hv
    obtain ⟨⟨b1, b2, b3, b4, b5⟩, seg, b7, b8, b9⟩ := smP_ok _ p2 c2 p1 c1 _ E1 a2 (by omega) h
    refine ⟨⟨by omega, b2, by omega, b4, b5⟩, sg ++ seg, by rw [b7, a7]; simp, fun ts ht => ?_, by simp; omega⟩
    rw [tyL_app _ _ _ (false :: ts) (a8 _ ht)]
    exact b8 ts (by omega)
/-- how tightly an operator binds -/
def lvl (x : Int) : Int := if x = 24 then 0 else if x = 23 then 1 else if x = 22 then 2 else if x = 21 then 3 else if 11 ≤ x ∧ x ≤ 12 then 5 else if 13 ≤ x ∧ x ≤ 15 then 6 else 4
/-- what waits is put down, down to a level -/
def stl (lv : Int) : List Int → List Int → List Int × List Int
  | [], E => ([], E)
  | x :: W, E => if lvl x < lv then (x :: W, E) else stl lv W (E ++ [x])
theorem stl_c {lv x : Int} {W E : List Int} : stl lv (x :: W) E = if lvl x < lv then (x :: W, E) else stl lv W (E ++ [x]) := rfl
/-- the sign of a fact -/
def sgC (b : Int) (s : Bool) : Int := if b = 61 then 18 else if b = 60 then (if s = true then 17 else 16) else (if s = true then 19 else 20)
theorem sgC_rng (b : Int) (s : Bool) : 16 ≤ sgC b s ∧ sgC b s ≤ 20 := by
  unfold sgC
  repeat' split
  all_goals omega
/-- a sum, a sign, a sum -/
def cmpP (f : Nat → Int) (n p c : Nat) (E : List Int) : PS := match sumP f n p c E with
  | .error F => .error F
  | .ok (p1, c1, E1) =>
    if bytA f n (p1 : Nat) = 60 ∨ bytA f n (p1 : Nat) = 61 ∨ bytA f n (p1 : Nat) = 62 then
      (if c1 = 60 then .error (1 + 8 * (p1 : Nat) + 3)
      else match sumP f n (if ¬ bytA f n (p1 : Nat) = 61 ∧ bytA f n ((p1 + 1 : Nat) : Int) = 61 then p1 + 2 else p1 + 1) (c1 + 1) E1 with
        | .error F => .error F
        | .ok (p2, c2, E2) => .ok (p2, c2, E2 ++ [sgC (bytA f n (p1 : Nat)) (decide (¬ bytA f n (p1 : Nat) = 61 ∧ bytA f n ((p1 + 1 : Nat) : Int) = 61))]))
    else .error (1 + 8 * (p1 : Nat))
theorem byt_lt {f : Nat → Int} {n p : Nat} {b : Int} (h : bytA f n (p : Int) = b) (hb : ¬ b = -1) : p < n := by
  apply Decidable.byContradiction
  intro z
  rw [bytA_end.2 (by omega)] at h
  omega
theorem cmpP_ok {f : Nat → Int} {n p c p1 c1 : Nat} {E E1 : List Int} (hp : p ≤ n) (hc : c ≤ 60) (h : cmpP f n p c E = .ok (p1, c1, E1)) : (p < p1 ∧ p1 ≤ n ∧ c + 3 ≤ c1 ∧ c1 ≤ 60 ∧ skip f n p1 = p1) ∧ ∃ seg, E1 = E ++ seg ∧ (∀ ts : List Bool, ts.length ≤ c → tyL seg ts = some (true :: ts)) ∧ seg.length + 1 ≤ 2 * (c1 - c) := by
  unfold cmpP at h
  cases hv : sumP f n p c E with
  | error F => rw [hv] at h; cases h
  | ok r =>
    obtain ⟨p2, c2, E2⟩ := r
    rw [hv] at h
    dsimp only at h
    obtain ⟨⟨a1, a2, a3, a4, a5⟩, sg, a7, a8, a9⟩ := sumP_ok hp hc hv
    split at h
    · rename_i hb
      have hlt : p2 < n := by
        rcases hb with hb | hb | hb <;> exact byt_lt hb (by omega)
      split at h
      · cases h
      · have hq : (if ¬ bytA f n (p2 : Nat) = 61 ∧ bytA f n ((p2 + 1 : Nat) : Int) = 61 then p2 + 2 else p2 + 1) ≤ n ∧ p2 + 1 ≤ (if ¬ bytA f n (p2 : Nat) = 61 ∧ bytA f n ((p2 + 1 : Nat) : Int) = 61 then p2 + 2 else p2 + 1) := by
          split
          · rename_i h2
            have := byt_lt h2.2 (by omega)
            omega
          · omega
        cases hv2 : sumP f n (if ¬ bytA f n (p2 : Nat) = 61 ∧ bytA f n ((p2 + 1 : Nat) : Int) = 61 then p2 + 2 else p2 + 1) (c2 + 1) E2 with
        | error F => rw [hv2] at h; cases h
        | ok r =>
          obtain ⟨p3, c3, E3⟩ := r
          rw [hv2] at h
          cases h
          obtain ⟨⟨b1, b2, b3, b4, b5⟩, seg, b7, b8, b9⟩ := sumP_ok hq.1 (by omega) hv2
          refine ⟨⟨by omega, b2, by omega, b4, b5⟩, sg ++ seg ++ [sgC (bytA f n (p2 : Nat)) (decide (¬ bytA f n (p2 : Nat) = 61 ∧ bytA f n ((p2 + 1 : Nat) : Int) = 61))], by rw [b7, a7]; simp, fun ts ht => ?_, by simp; omega⟩
          rw [tyL_app _ _ _ (false :: false :: ts) (by rw [tyL_app _ _ _ (false :: ts) (a8 _ ht)]; exact b8 _ (by simp; omega))]
          exact ty_sg (sgC_rng _ _)
    · cases h


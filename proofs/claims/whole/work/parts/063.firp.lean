/-! who must hush: the first order, as sequences -/
/-- where all are when these hush, one a beat, from a state on -/
def finF (B : q_Mem) : Nat → Nat → Int → Int → (Nat → Nat) → Int
  | 0, _, _, w, _ => w
  | m + 1, done, s, w, q => finF B m (done + 1) (orb s (q 0)) (nxt B 3 w (toldV B 3 (B 3 11 + done) (orb s (q 0)))) (fun i => q (i + 1))
/-- told ones, each once, none of the set -/
def okF (n : Nat) : Nat → Int → (Nat → Nat) → Prop
  | 0, _, _ => True
  | m + 1, s, q => (q 0 < n ∧ ¬ s.toNat.testBit (q 0) = true) ∧ okF n m (orb s (q 0)) (fun i => q (i + 1))
def dgN (o : Int) (i : Nat) : Nat := (g8 o i).toNat
theorem g8_push {r : Int} {p : Nat} (hr : 0 ≤ r) (hp : p < 8) (i : Nat) : g8 (r * 8 + p) i = if i = 0 then (p : Int) else g8 r (i - 1) := by
  have e : (r * 8 + (p : Int)).toNat = r.toNat * 8 + p := by omega
  unfold g8
  rw [e]
  by_cases h : i = 0
  · subst h
    rw [if_pos rfl, Nat.pow_zero, Nat.div_one]
    congr 1
    omega
  · rw [if_neg h]
    obtain ⟨j, rfl⟩ : ∃ j, i = j + 1 := ⟨i - 1, by omega⟩
    rw [Nat.pow_succ, Nat.mul_comm (8 ^ j) 8, ← Nat.div_div_eq_div_mul, show (r.toNat * 8 + p) / 8 = r.toNat by omega, show j + 1 - 1 = j by omega]
theorem firstF_least {f : Nat → Int} : ∀ {n k j : Nat}, k ≤ j → j < k + n → f j ≠ -1 → ∃ i, k ≤ i ∧ i ≤ j ∧ f i ≠ -1 ∧ firstF f n k = f i ∧ ∀ i', k ≤ i' → i' < i → f i' = -1
  | 0, _, _, h1, h2, _ => absurd h2 (by omega)
  | n + 1, k, j, h1, h2, h3 => by
    by_cases e : f k = -1
    · have hjk : ¬ j = k := fun z => h3 (by rw [z]; exact e)
      obtain ⟨i, i1, i2, i3, i4, i5⟩ := firstF_least (f := f) (n := n) (k := k + 1) (j := j) (by omega) (by omega) h3
      refine ⟨i, by omega, i2, i3, by unfold firstF; rw [if_pos e]; exact i4, fun i' c1 c2 => ?_⟩
      by_cases e2 : i' = k
      · rw [e2]; exact e
      · exact i5 i' (by omega) c2
    · exact ⟨k, Nat.le_refl _, h1, e, by unfold firstF; rw [if_neg e], fun i' c1 c2 => absurd c1 (by omega)⟩
theorem firstF_none {f : Nat → Int} : ∀ {n k : Nat}, firstF f n k ≠ -1 → ∃ j, k ≤ j ∧ j < k + n ∧ f j ≠ -1
  | 0, _, h => absurd rfl h
  | n + 1, k, h => by
    by_cases e : f k = -1
    · unfold firstF at h
      rw [if_pos e] at h
      obtain ⟨j, j1, j2, j3⟩ := firstF_none h
      exact ⟨j, by omega, by omega, j3⟩
    · exact ⟨k, Nat.le_refl _, by omega, e⟩
/-- one step of the search for an order -/
def stO (B : q_Mem) (m done : Nat) (s w : Int) (p : Nat) : Int := if s.toNat.testBit p = true then -1 else if fstO B m (done + 1) (orb s p) (nxt B 3 w (toldV B 3 (B 3 11 + done) (orb s p))) = -1 then -1 else fstO B m (done + 1) (orb s p) (nxt B 3 w (toldV B 3 (B 3 11 + done) (orb s p))) * 8 + p
theorem fstO_stO (B : q_Mem) (m done : Nat) (s w : Int) : fstO B (m + 1) done s w = firstF (stO B m done s w) (B 3 4).toNat 0 := rfl
theorem stO_ne {B : q_Mem} {m done : Nat} {s w : Int} {p : Nat} (h4 : 0 ≤ B 3 4 ∧ B 3 4 ≤ 7) (h : stO B m done s w p ≠ -1) : ¬ s.toNat.testBit p = true ∧ fstO B m (done + 1) (orb s p) (nxt B 3 w (toldV B 3 (B 3 11 + done) (orb s p))) ≠ -1 ∧ stO B m done s w p = fstO B m (done + 1) (orb s p) (nxt B 3 w (toldV B 3 (B 3 11 + done) (orb s p))) * 8 + p := by
  unfold stO at h ⊢
  by_cases c : s.toNat.testBit p = true
  · rw [if_pos c] at h; exact absurd rfl h
  · rw [if_neg c] at h ⊢
    by_cases c2 : fstO B m (done + 1) (orb s p) (nxt B 3 w (toldV B 3 (B 3 11 + done) (orb s p))) = -1
    · rw [if_pos c2] at h; exact absurd rfl h
    · exact ⟨c, c2, by rw [if_neg c2]⟩
theorem finF_congr {B : q_Mem} : ∀ {m done : Nat} {s w : Int} {q q' : Nat → Nat}, (∀ i, i < m → q i = q' i) → finF B m done s w q = finF B m done s w q'
  | 0, _, _, _, _, _, _ => rfl
  | m + 1, done, s, w, q, q', h => by
    unfold finF
    rw [h 0 (by omega)]
    exact finF_congr (fun i hi => h (i + 1) (by omega))
theorem okF_congr {n : Nat} : ∀ {m : Nat} {s : Int} {q q' : Nat → Nat}, (∀ i, i < m → q i = q' i) → okF n m s q → okF n m s q'
  | 0, _, _, _, _, _ => trivial
  | m + 1, s, q, q', h, ho => by
    unfold okF at ho ⊢
    rw [← h 0 (by omega)]
    exact ⟨ho.1, okF_congr (fun i hi => h (i + 1) (by omega)) ho.2⟩
/-- what is found is an order -/
theorem fstO_snd {B : q_Mem} (h4 : 0 ≤ B 3 4 ∧ B 3 4 ≤ 7) : ∀ (m done : Nat) (s w : Int), fstO B m done s w ≠ -1 → okF (B 3 4).toNat m s (dgN (fstO B m done s w)) ∧ allD B (finF B m done s w (dgN (fstO B m done s w)))
  | 0, done, s, w, h => by
    refine ⟨trivial, ?_⟩
    unfold fstO at h
    by_cases c : allD B w
    · exact c
    · rw [if_neg c] at h; exact absurd rfl h
  | m + 1, done, s, w, h => by
    rw [fstO_stO] at h ⊢
    obtain ⟨j, -, j2, j3⟩ := firstF_none h
    obtain ⟨i, -, i2, i3, i4, -⟩ := firstF_least (Nat.zero_le j) j2 j3
    obtain ⟨c1, c2, c3⟩ := stO_ne h4 i3
    have ih := fstO_snd h4 m (done + 1) (orb s i) (nxt B 3 w (toldV B 3 (B 3 11 + done) (orb s i))) c2
    have rg := fstO_rng h4 m (done + 1) (orb s i) (nxt B 3 w (toldV B 3 (B 3 11 + done) (orb s i)))
    rw [i4, c3]
    generalize hr : fstO B m (done + 1) (orb s i) (nxt B 3 w (toldV B 3 (B 3 11 + done) (orb s i))) = r at *
    have hd : ∀ k, dgN (r * 8 + i) k = if k = 0 then i else dgN r (k - 1) := by
      intro k
      unfold dgN
      rw [g8_push (by omega) (by omega)]
      split
      · exact Int.toNat_natCast i
      · rfl
    have h0 : dgN (r * 8 + i) 0 = i := by rw [hd, if_pos rfl]
    have h1 : (fun k => dgN (r * 8 + i) (k + 1)) = dgN r := by
      funext k
      rw [hd, if_neg (by omega), show k + 1 - 1 = k by omega]
    unfold okF finF
    rw [h0, h1]
    exact ⟨⟨⟨by omega, c1⟩, ih.1⟩, ih.2⟩
/-- every order is found, or a lesser one -/
theorem fstO_min {B : q_Mem} (h4 : 0 ≤ B 3 4 ∧ B 3 4 ≤ 7) : ∀ (m done : Nat) (s w : Int) (q : Nat → Nat), okF (B 3 4).toNat m s q → allD B (finF B m done s w q) → fstO B m done s w ≠ -1 ∧ ∀ j, j < m → (∀ i, i < j → q i = dgN (fstO B m done s w) i) → dgN (fstO B m done s w) j ≤ q j
  | 0, done, s, w, q, _, ha => by
    refine ⟨?_, fun j hj => absurd hj (by omega)⟩
    have ha : allD B w := ha
    unfold fstO
    rw [if_pos ha]
    decide
  | m + 1, done, s, w, q, ho, ha => by
    unfold okF at ho
    unfold finF at ha
    obtain ⟨⟨o1, o2⟩, o3⟩ := ho
    obtain ⟨ih1, ih2⟩ := fstO_min h4 m (done + 1) (orb s (q 0)) (nxt B 3 w (toldV B 3 (B 3 11 + done) (orb s (q 0)))) (fun i => q (i + 1)) o3 ha
    have hst : stO B m done s w (q 0) = fstO B m (done + 1) (orb s (q 0)) (nxt B 3 w (toldV B 3 (B 3 11 + done) (orb s (q 0)))) * 8 + (q 0 : Nat) := by
      unfold stO
      rw [if_neg o2, if_neg ih1]
    have rg0 := fstO_rng h4 m (done + 1) (orb s (q 0)) (nxt B 3 w (toldV B 3 (B 3 11 + done) (orb s (q 0))))
    rw [fstO_stO]
    obtain ⟨i, -, i2, i3, i4, i5⟩ := firstF_least (f := stO B m done s w) (n := (B 3 4).toNat) (Nat.zero_le (q 0)) (by omega) (by rw [hst]; omega)
    obtain ⟨c1, c2, c3⟩ := stO_ne h4 i3
    have rg := fstO_rng h4 m (done + 1) (orb s i) (nxt B 3 w (toldV B 3 (B 3 11 + done) (orb s i)))
    rw [i4]
    refine ⟨i3, fun j hj hpre => ?_⟩
    rw [c3] at hpre ⊢
    have hd : ∀ k, dgN (fstO B m (done + 1) (orb s i) (nxt B 3 w (toldV B 3 (B 3 11 + done) (orb s i))) * 8 + i) k = if k = 0 then i else dgN (fstO B m (done + 1) (orb s i) (nxt B 3 w (toldV B 3 (B 3 11 + done) (orb s i)))) (k - 1) := by
      intro k
      unfold dgN
      rw [g8_push (by omega) (by omega)]
      split
      · exact Int.toNat_natCast i
      · rfl
    rw [hd]
    by_cases e : j = 0
    · rw [if_pos e, e]
      exact i2
    · rw [if_neg e]
      have e0 : q 0 = i := by
        have := hpre 0 (by omega)
        rw [hd, if_pos rfl] at this
        exact this
      have := ih2 (j - 1) (by omega) (fun k hk => by
        have := hpre (k + 1) (by omega)
        rw [hd, if_neg (by omega), show k + 1 - 1 = k by omega] at this
        rw [e0]
        exact this)
      rw [e0, show j - 1 + 1 = j by omega] at this
      exact this
/-! sequences from their ends -/
def setQ (q : Nat → Nat) : Nat → Int
  | 0 => 0
  | t + 1 => orb (setQ q t) (q t)
def sitQ (B : q_Mem) (q : Nat → Nat) : Nat → Int
  | 0 => B 3 12
  | t + 1 => nxt B 3 (sitQ B q t) (toldV B 3 (B 3 11 + t) (setQ q (t + 1)))
theorem finF_sit {B : q_Mem} {q : Nat → Nat} : ∀ (m t : Nat), finF B m t (setQ q t) (sitQ B q t) (fun i => q (t + i)) = sitQ B q (t + m)
  | 0, _ => rfl
  | m + 1, t => by
    have ih := finF_sit (B := B) (q := q) m (t + 1)
    unfold finF
    show finF B m (t + 1) (orb (setQ q t) (q (t + 0))) (nxt B 3 (sitQ B q t) (toldV B 3 (B 3 11 + t) (orb (setQ q t) (q (t + 0))))) (fun i => q (t + (i + 1))) = _
    rw [show t + 0 = t by omega, show (fun i => q (t + (i + 1))) = (fun i => q (t + 1 + i)) by funext i; congr 1; omega, show t + (m + 1) = t + 1 + m by omega]
    exact ih
theorem setQ_bit (q : Nat → Nat) : ∀ t j, (setQ q t).toNat.testBit j = true ↔ ∃ i, i < t ∧ q i = j
  | 0, j => by
    constructor
    · intro h; simp [setQ] at h
    · rintro ⟨i, hi, -⟩; exact absurd hi (by omega)
  | t + 1, j => by
    show (orb (setQ q t) (q t)).toNat.testBit j = true ↔ _
    rw [orb_bit, Bool.or_eq_true, setQ_bit q t j, decide_eq_true_iff]
    constructor
    · rintro (⟨i, hi, e⟩ | e)
      · exact ⟨i, by omega, e⟩
      · exact ⟨t, by omega, e⟩
    · rintro ⟨i, hi, e⟩
      by_cases c : i = t
      · exact Or.inr (by rw [← c]; exact e)
      · exact Or.inl ⟨i, by omega, e⟩
theorem okF_iff {n : Nat} {q : Nat → Nat} : ∀ (m t : Nat), okF n m (setQ q t) (fun i => q (t + i)) ↔ ∀ i, t ≤ i → i < t + m → q i < n ∧ ∀ i', i' < i → ¬ q i' = q i
  | 0, t => ⟨fun _ i h1 h2 => absurd h1 (by omega), fun _ => trivial⟩
  | m + 1, t => by
    have ih := okF_iff (n := n) (q := q) m (t + 1)
    have e : (fun i => q (t + (i + 1))) = (fun i => q (t + 1 + i)) := by funext i; congr 1; omega
    show ((q (t + 0) < n ∧ ¬ (setQ q t).toNat.testBit (q (t + 0)) = true) ∧ okF n m (orb (setQ q t) (q (t + 0))) (fun i => q (t + (i + 1)))) ↔ _
    rw [show t + 0 = t by omega, e, show orb (setQ q t) (q t) = setQ q (t + 1) from rfl, ih, setQ_bit]
    constructor
    · rintro ⟨⟨a1, a2⟩, a3⟩ i c1 c2
      by_cases c : i = t
      · rw [c]
        exact ⟨a1, fun i' hi' z => a2 ⟨i', hi', z⟩⟩
      · exact a3 i (by omega) (by omega)
    · intro h
      refine ⟨⟨(h t (by omega) (by omega)).1, ?_⟩, fun i c1 c2 => h i (by omega) (by omega)⟩
      rintro ⟨i, hi, e⟩
      exact (h t (by omega) (by omega)).2 i hi e
theorem okQ {n m : Nat} {q : Nat → Nat} : okF n m 0 q ↔ ∀ i, i < m → q i < n ∧ ∀ i', i' < i → ¬ q i' = q i := by
  have := okF_iff (n := n) (q := q) m 0
  rw [show (fun i => q (0 + i)) = q by funext i; congr 1; omega] at this
  rw [show okF n m 0 q ↔ okF n m (setQ q 0) q from Iff.rfl, this]
  exact ⟨fun h i hi => h i (by omega) (by omega), fun h i _ hi => h i (by omega)⟩
theorem finQ {B : q_Mem} {m : Nat} {q : Nat → Nat} : finF B m 0 0 (B 3 12) q = sitQ B q m := by
  have := finF_sit (B := B) (q := q) m 0
  rw [show (fun i => q (0 + i)) = q by funext i; congr 1; omega, Nat.zero_add] at this
  exact this


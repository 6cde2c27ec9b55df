/-! one state on both sides: rules that are read alike, loops that are one -/
theorem skip_fun {f g : Nat → Int} {n : Nat} (h : ∀ j, j < n → f j = g j) : skip f n = skip g n := funext (skip_congr h)
theorem valP_congr {f g : Nat → Int} {n : Nat} (h : ∀ j, j < n → f j = g j) : valP f n = valP g n := by
  funext p c E
  unfold valP
  simp only [skip_congr h, bytA_fun h, numF_congr h, numK_congr h, numV_congr h, findW_congr h, lets_congr h]
theorem tmP_congr {f g : Nat → Int} {n : Nat} (h : ∀ j, j < n → f j = g j) : ∀ m p c E, tmP f n m p c E = tmP g n m p c E
  | 0, _, _, _ => rfl
  | m + 1, p, c, E => by
    rw [tmP_s, tmP_s, skip_congr h, bytA_fun h, valP_congr h]
    split
    · cases valP g n (skip g n p + 1) c E with
      | error F => rfl
      | ok r => exact tmP_congr h m _ _ _
    · rfl
theorem teP_congr {f g : Nat → Int} {n : Nat} (h : ∀ j, j < n → f j = g j) : teP f n = teP g n := by
  funext p c E
  unfold teP
  rw [valP_congr h]
  cases valP g n p c E with
  | error F => rfl
  | ok r => exact tmP_congr h _ _ _ _
theorem smP_congr {f g : Nat → Int} {n : Nat} (h : ∀ j, j < n → f j = g j) : ∀ m p c E, smP f n m p c E = smP g n m p c E
  | 0, _, _, _ => rfl
  | m + 1, p, c, E => by
    rw [smP_s, smP_s, skip_congr h, bytA_fun h, teP_congr h]
    split
    · cases teP g n (skip g n p + 1) c E with
      | error F => rfl
      | ok r => exact smP_congr h m _ _ _
    · rfl
theorem sumP_congr {f g : Nat → Int} {n : Nat} (h : ∀ j, j < n → f j = g j) : sumP f n = sumP g n := by
  funext p c E
  unfold sumP
  rw [teP_congr h]
  cases teP g n p c E with
  | error F => rfl
  | ok r => exact smP_congr h _ _ _ _
theorem cmpP_congr {f g : Nat → Int} {n : Nat} (h : ∀ j, j < n → f j = g j) : cmpP f n = cmpP g n := by
  funext p c E
  unfold cmpP
  rw [sumP_congr h, bytA_fun h]
theorem tstP_congr {f g : Nat → Int} {n : Nat} (h : ∀ j, j < n → f j = g j) : ∀ m w p c K E, tstP f n m w p c K E = tstP g n m w p c K E
  | 0, _, _, _, _, _ => rfl
  | m + 1, true, p, c, K, E => by
    rw [tstP_t, tstP_t, skip_congr h, bytA_fun h, cmpP_congr h, isWd_congr h]
    split
    · split
      · rfl
      · exact tstP_congr h m _ _ _ _ _
    · split
      · split
        · rfl
        · exact tstP_congr h m _ _ _ _ _
      · cases cmpP g n (skip g n p) c E with
        | error F => rfl
        | ok r => exact tstP_congr h m _ _ _ _ _
  | m + 1, false, p, c, K, E => by
    rw [tstP_f, tstP_f, skip_congr h, bytA_fun h, isWd_congr h, isWd_congr h]
    split
    · exact tstP_congr h m _ _ _ _ _
    · split
      · exact tstP_congr h m _ _ _ _ _
      · cases (stl 1 K E).1 with
        | nil => rfl
        | cons y K2 =>
          dsimp only
          split
          · exact tstP_congr h m _ _ _ _ _
          · rfl
theorem clP_congr {f g : Nat → Int} {n : Nat} (h : ∀ j, j < n → f j = g j) (k p c : Nat) (E : List Int) : clP f n k p c E = clP g n k p c E := by
  unfold clP
  rw [sumP_congr h, skip_congr h, findW_congr h, lets_congr h]
  split
  · rfl
  · split
    · rfl
    · cases sumP g n (skip g n p + lets g n (skip g n p)) c E with
      | error F => rfl
      | ok r =>
        dsimp only
        rw [skip_congr h, isWd_congr h, tstP_congr h]
theorem ruP_congr {f g : Nat → Int} {n : Nat} (h : ∀ j, j < n → f j = g j) : ∀ m p c E L, ruP f n m p c E L = ruP g n m p c E L
  | 0, _, _, _, _ => rfl
  | m + 1, p, c, E, L => by
    rw [ruP_s, ruP_s, clP_congr h]
    cases clP g n L.length p c E with
    | error F => rfl
    | ok r =>
      dsimp only
      rw [skip_congr h, bytA_fun h]
      split
      · exact ruP_congr h m _ _ _ _
      · rfl
theorem ruT_congr {f g : Nat → Int} {n : Nat} (h : ∀ j, j < n → f j = g j) : ruT f n = ruT g n := ruP_congr h _ _ _ _ _
theorem mtch_one {S : Nat → Int} {h : Int} {k k2 n : Nat} (hk : k < k2) (h2 : k2 < n) (m1 : mtch S h k n) (m2 : mtch S h k2 n) : mtch S h k k2 := by
  obtain ⟨a, b⟩ := m1
  obtain ⟨c, d⟩ := m2
  refine ⟨?_, b.trans d.symm⟩
  have : ((k2 : Int) - k) = ((n : Int) - k) - ((n : Int) - k2) := by omega
  rw [this, Int.sub_emod, a, c]
  simp
theorem LoopR_one {S : Nat → Int} {h : Int} {np : Nat} {what r r2 : Int} (h1 : LoopR S h np what r) (h2 : LoopR S h np what r2) : r = r2 := by
  rcases h1 with ⟨n, k, a1, a2, a3, a4, a5⟩ | ⟨a1, a2⟩ <;> rcases h2 with ⟨n2, k2, b1, b2, b3, b4, b5⟩ | ⟨b1, b2⟩
  · have hn : n = n2 := by
      apply Decidable.byContradiction
      intro z
      by_cases c : n < n2
      · exact b4 n k a1 c a3
      · exact a4 n2 k2 b1 (by omega) b3
    subst hn
    have hk : k = k2 := by
      apply Decidable.byContradiction
      intro z
      by_cases c : k < k2
      · exact a4 k2 k c b1 (mtch_one c b1 a3 b3)
      · exact a4 k k2 (by omega) a1 (mtch_one (by omega) a1 b3 a3)
    subst hk
    rw [a5, b5]
  · exact absurd a3 (b1 n k a1 a2)
  · exact absurd b3 (a1 n2 k2 b1 b2)
  · rw [a2, b2]
theorem LoopA_one {B : q_Mem} {what r r2 : Int} (h1 : LoopA B what r) (h2 : LoopA B what r2) : r = r2 := by
  rcases h1 with ⟨a, b⟩ | ⟨a, b⟩ <;> rcases h2 with ⟨c, d⟩ | ⟨c, d⟩
  · rw [b, d]
  · exact absurd c a
  · exact absurd a c
  · exact LoopR_one b d
/-! one state on both sides: what holds all along -/
def wT (M : q_Mem) : Prop := ∃ n : Nat, M 1 1 = (n : Int) ∧ n ≤ 400 ∧ M 112 20 = (n : Int) ∧ tb M M n
def wR (M : q_Mem) : Prop := (0 ≤ M 0 6 ∧ M 0 6 ≤ 6) ∧ M 112 24 = M 0 6 ∧ ∀ k : Nat, (k : Int) < M 0 6 → RuC M (47 + 6 * k) ∧ RuR M M k
def wI (M : q_Mem) : Prop := (0 ≤ M 0 4 ∧ M 0 4 < 16) ∧ ∀ k, k < 4 → (M 166 k = 0 ∨ M 166 k = 1) ∧ ((M 0 4).toNat.testBit k = true ↔ M 166 k = 1) ∧ (M (18 + 7 * k) 0 = 0 ∨ M (18 + 7 * k) 0 = 1) ∧ (M 166 k = 1 → FullR (hB M (18 + 7 * k)) (imV M k))
def wH (M : q_Mem) : Prop := Hz M 10 ∧ ∀ k, k < 4 → Hz M (18 + 7 * k)
def wS (M : q_Mem) : Prop := (∀ j, M 15 j = 0) ∧ (∀ j, M 16 j = 0) ∧ M 112 29 = 11 ∧ VW M
def WI (M : q_Mem) : Prop := FullR M M ∧ Hz M 3 ∧ wH M ∧ wT M ∧ wR M ∧ wI M ∧ wS M
theorem wT.cg {M M2 : q_Mem} (h : wT M) (h1 : M2 1 1 = M 1 1) (h2 : M2 2 = M 2) (h3 : M2 112 20 = M 112 20) (h4 : M2 132 = M 132) : wT M2 := by
  obtain ⟨n, a, b, c, e⟩ := h
  exact ⟨n, h1.trans a, b, h3.trans c, fun j hj => by rw [h2, h4]; exact e j hj⟩
theorem RuC.cg {M M2 : q_Mem} {o : Nat} (h : RuC M o) (e : ∀ a, o ≤ a → a < o + 6 → M2 a = M a) : RuC M2 o := by
  unfold RuC at *
  rw [e o (by omega) (by omega), e (o + 1) (by omega) (by omega), e (o + 2) (by omega) (by omega), e (o + 3) (by omega) (by omega), e (o + 4) (by omega) (by omega), e (o + 5) (by omega) (by omega)]
  exact h
theorem RuR.cg {M M2 V V2 : q_Mem} {k : Nat} (h : RuR M V k) (e : ∀ a, 47 + 6 * k ≤ a → a < 47 + 6 * k + 6 → M2 a = M a) (e2 : ∀ a, a ∈ [133, 134, 135, 136, 137, 138, 140] → V2 a = V a) : RuR M2 V2 k := by
  unfold RuR at *
  rw [e (47 + 6 * k) (by omega) (by omega), e (47 + 6 * k + 1) (by omega) (by omega), e (47 + 6 * k + 2) (by omega) (by omega), e (47 + 6 * k + 3) (by omega) (by omega), e (47 + 6 * k + 4) (by omega) (by omega), e (47 + 6 * k + 5) (by omega) (by omega), e2 133 (by simp), e2 134 (by simp), e2 135 (by simp), e2 136 (by simp), e2 137 (by simp), e2 138 (by simp), e2 140 (by simp)]
  exact h
theorem wR.cg {M M2 : q_Mem} (h : wR M) (h1 : M2 0 6 = M 0 6) (h2 : M2 112 24 = M 112 24) (e : ∀ a, 47 ≤ a → a < 83 → M2 a = M a) (e2 : ∀ a, a ∈ [133, 134, 135, 136, 137, 138, 140] → M2 a = M a) : wR M2 := by
  obtain ⟨a, b, c⟩ := h
  refine ⟨by rw [h1]; exact a, by rw [h1, h2]; exact b, fun k hk => ?_⟩
  rw [h1] at hk
  have hc := c k hk
  exact ⟨hc.1.cg (fun a h1 h2 => e a (by omega) (by omega)), hc.2.cg (fun a h1 h2 => e a (by omega) (by omega)) e2⟩
theorem ofR_le (a : Nat) : (ofR a).1 + (ofR a).2 ≤ 1373 ∧ (0 < (ofR a).2 → 113 ≤ a) := by
  rcases ofR_cs a with ⟨q, e⟩ | ⟨q, e⟩ | ⟨q, e⟩ | ⟨q, e⟩ | ⟨q, e⟩ | ⟨q, e⟩ | ⟨q, e⟩ | ⟨q, e⟩ | ⟨q, e⟩ | ⟨q, e⟩ | ⟨q, e⟩ | ⟨q, e⟩ | ⟨q, e⟩ | e
  all_goals rw [e]; simp
  all_goals omega
theorem wI.cg {M M2 : q_Mem} (h : wI M) (h1 : M2 0 4 = M 0 4) (e : ∀ a, 18 ≤ a → a < 46 → M2 a = M a) (e6 : M2 166 = M 166) (e5 : ∀ j, j < 6000 → M2 165 j = M 165 j) : wI M2 := by
  obtain ⟨a, b⟩ := h
  refine ⟨by rw [h1]; exact a, fun k hk => ?_⟩
  obtain ⟨b1, b2, b3, b4⟩ := b k hk
  rw [e6, h1, e (18 + 7 * k) (by omega) (by omega)]
  refine ⟨b1, b2, b3, fun z => ?_⟩
  have hF := b4 z
  have hF2 : FullR (hB M2 (18 + 7 * k)) (imV M k) := hF.home (fun r hr hr2 => by
    funext j
    unfold hB
    rw [e _ (by omega) (by omega)])
  refine hF2.qk (fun r j hj => ?_) ?_
  · unfold imV
    have c := ofR_le r
    by_cases hr : r = 112
    · rw [if_pos hr, if_pos hr, e5 _ (by omega)]
    · rw [if_neg hr, if_neg hr, e5 _ (by omega)]
  · unfold imV
    rw [if_pos rfl, if_pos rfl, e5 _ (by omega)]
theorem Hz.cg {M M2 : q_Mem} {a : Nat} (h : Hz M a) (e : ∀ b, a ≤ b → b < a + 7 → M2 b = M b) : Hz M2 a := by
  unfold Hz at *
  rw [e a (by omega) (by omega), e (a + 1) (by omega) (by omega), e (a + 2) (by omega) (by omega), e (a + 3) (by omega) (by omega), e (a + 4) (by omega) (by omega), e (a + 5) (by omega) (by omega), e (a + 6) (by omega) (by omega)]
  exact h
theorem wH.cg {M M2 : q_Mem} (h : wH M) (e : ∀ a, 10 ≤ a → a < 46 → ¬ a = 17 → M2 a = M a) : wH M2 := ⟨h.1.cg (fun b h1 h2 => e b (by omega) (by omega) (by omega)), fun k hk => (h.2 k hk).cg (fun b h1 h2 => e b (by omega) (by omega) (by omega))⟩
theorem wS.cg {M M2 : q_Mem} (h : wS M) (h15 : M2 15 = M 15) (h16 : M2 16 = M 16) (h85 : M2 85 = M 85) (h29 : M2 112 29 = M 112 29) : wS M2 := by
  unfold wS VW at *
  rw [h15, h16, h85, h29]
  exact h
/-- a question changes nothing of it -/
theorem WI.ques {M M1 M2 : q_Mem} (h : WI M) (h1 : ∀ a, a < 92 ∨ 112 ≤ a → M1 a = M a) (h2 : Qk M1 M2) : WI M2 := by
  obtain ⟨hF, hz, hh, ht, hr, hi, hs⟩ := h
  obtain ⟨q1, q2, q3, q4⟩ := h2
  have lo : ∀ a, a < 92 → M2 a = M a := fun a ha => by rw [q1 a (by simp [qX]; omega), h1 a (Or.inl ha)]
  have hi2 : ∀ a, 112 ≤ a → a ∉ qX → M2 a = M a := fun a ha hq => by rw [q1 a hq, h1 a (Or.inr ha)]
  have f112 : ∀ j, j ∈ [20, 24, 29, 45] → M2 112 j = M 112 j := fun j hj => by rw [q3 j hj, h1 112 (by omega)]
  refine ⟨?_, hz.cg (fun b _ _ => lo b (by omega)), hh.cg (fun a _ _ _ => lo a (by omega)), ht.cg (by rw [lo 1 (by decide)]) (lo 2 (by decide)) (f112 20 (by decide)) (hi2 132 (by decide) (by decide)), hr.cg (by rw [lo 0 (by decide)]) (f112 24 (by decide)) (fun a _ _ => lo a (by omega)) (fun a ha => hi2 a (by simp at ha; omega) (by simp [qX] at ha ⊢; omega)), hi.cg (by rw [lo 0 (by decide)]) (fun a _ _ => lo a (by omega)) (hi2 166 (by decide) (by decide)) (fun j hj => by rw [q4 j hj, h1 165 (by omega)]), hs.cg (lo 15 (by decide)) (lo 16 (by decide)) (lo 85 (by decide)) (f112 29 (by decide))⟩
  refine (hF.home (B1 := M2) (fun a _ _ => lo a (by omega))).qk (fun a j hj => ?_) (f112 45 (by decide))
  rw [q2 a j hj]
  by_cases h112 : 112 ≤ a
  · rw [h1 a (Or.inr h112)]
  · have c := (ofR_le a).2 (by omega)
    omega


/-! who must hush: the order that is the answer -/
theorem hushK_min {f : Nat → Int} : ∀ {n k j : Nat}, k ≤ j → j < (hushK f n k).1 → f j = -1
  | 0, k, j, h1, h2 => absurd (show j < k from h2) (by omega)
  | n + 1, k, j, h1, h2 => by
    unfold hushK at h2
    by_cases e : f k = -1
    · rw [if_pos e] at h2
      by_cases c : j = k
      · rw [c]; exact e
      · exact hushK_min (n := n) (k := k + 1) (by omega) h2
    · rw [if_neg e] at h2
      exact absurd (show j < k from h2) (by omega)
/-- how many are not among A, of n from k on -/
def cnA (A : Nat → Prop) [ha : DecidablePred A] (k : Nat) (n : Nat) : Int := cnt (fun i => ¬ A (k + i)) n
theorem hsum_hd (f : Nat → Int) : ∀ n, hsum f (n + 1) = f 0 + hsum (fun i => f (i + 1)) n
  | 0 => by simp [hsum]
  | n + 1 => by
    show hsum f (n + 1) + f (n + 1) = f 0 + (hsum (fun i => f (i + 1)) n + f (n + 1))
    rw [hsum_hd f n]
    omega
theorem cnA_hd (A : Nat → Prop) [ha : DecidablePred A] (k : Nat) (n : Nat) : cnA A k (n + 1) = (if A k then 0 else 1) + cnA A (k + 1) n := by
  unfold cnA cnt
  rw [hsum_hd]
  have e1 : (if ¬ A (k + 0) then 1 else 0 : Int) = if A k then 0 else 1 := by
    rw [Nat.add_zero]
    by_cases c : A k
    · simp [c]
    · simp [c]
  rw [e1]
  congr 1
  exact hsum_congr (fun q _ => by show (if ¬ A (k + (q + 1)) then 1 else 0 : Int) = if ¬ A (k + 1 + q) then 1 else 0; rw [show k + (q + 1) = k + 1 + q by omega])
theorem rst_spec (A : Nat → Prop) [ha : DecidablePred A] : ∀ (n k : Nat) (l : Int), 0 ≤ l → l < cnA A k n → ∃ v : Nat, rstF A n k l = (v : Nat) ∧ k ≤ v ∧ v < k + n ∧ ¬ A v ∧ cnA A k (v - k) = l
  | 0, k, l, h1, h2 => absurd h2 (by show ¬ l < 0; omega)
  | n + 1, k, l, h1, h2 => by
    rw [cnA_hd] at h2
    unfold rstF
    by_cases c : A k
    · rw [if_pos c] at h2 ⊢
      obtain ⟨v, v1, v2, v3, v4, v5⟩ := rst_spec A n (k + 1) l h1 (by omega)
      refine ⟨v, v1, by omega, by omega, v4, ?_⟩
      rw [show v - k = v - (k + 1) + 1 by omega, cnA_hd, if_pos c, v5]
      omega
    · rw [if_neg c] at h2 ⊢
      by_cases e : l = 0
      · rw [if_pos e]
        exact ⟨k, rfl, Nat.le_refl _, by omega, c, by rw [show k - k = 0 by omega, e]; rfl⟩
      · rw [if_neg e]
        obtain ⟨v, v1, v2, v3, v4, v5⟩ := rst_spec A n (k + 1) (l - 1) (by omega) (by omega)
        refine ⟨v, v1, by omega, by omega, v4, ?_⟩
        rw [show v - k = v - (k + 1) + 1 by omega, cnA_hd, if_neg c, v5]
        omega
theorem cnt_mono {P : Nat → Prop} [hd : DecidablePred P] {a : Nat} : ∀ {b : Nat}, a ≤ b → cnt P a ≤ cnt P b
  | 0, h => by rw [show a = 0 by omega]; exact Int.le_refl _
  | b + 1, h => by
    by_cases e : a = b + 1
    · rw [e]; exact Int.le_refl _
    · have := cnt_mono (P := P) (a := a) (b := b) (by omega)
      rw [cnt_succ]
      split <;> omega
theorem cnA_lt {A : Nat → Prop} [ha : DecidablePred A] {u v : Nat} (h : u < v) (hu : ¬ A u) : cnA A 0 u < cnA A 0 v := by
  have h1 := cnt_mono (P := fun i => ¬ A (0 + i)) (a := u + 1) (b := v) (by omega)
  rw [cnt_succ, if_pos (by rw [Nat.zero_add]; exact hu)] at h1
  show cnt _ u < cnt _ v
  omega
theorem cnt_or {P Q : Nat → Prop} [hp : DecidablePred P] [hq : DecidablePred Q] {a : Nat} (h : ∀ k, Q k → P k ∨ k = a) : ∀ n, cnt Q n ≤ cnt P n + 1 ∧ (n ≤ a → cnt Q n ≤ cnt P n)
  | 0 => ⟨by show (0 : Int) ≤ 0 + 1; omega, fun _ => Int.le_refl _⟩
  | n + 1 => by
    have ih := cnt_or h n
    rw [cnt_succ, cnt_succ]
    by_cases c : Q n
    · rcases h n c with c2 | c2
      · rw [if_pos c, if_pos c2]
        exact ⟨by omega, fun z => by have := ih.2 (by omega); omega⟩
      · rw [if_pos c]
        have := ih.2 (by omega)
        refine ⟨by split <;> omega, fun z => by omega⟩
    · rw [if_neg c]
      refine ⟨by split <;> omega, fun z => by have := ih.2 (by omega); split <;> omega⟩
theorem amg_cnt (o : Int) (n : Nat) : ∀ K : Nat, cnt (amg o K) n ≤ K
  | 0 => by
    have : cnt (amg o 0) n = 0 := hsum_0 (fun q _ => if_neg (fun ⟨k, hk, _⟩ => absurd hk (by omega)))
    omega
  | K + 1 => by
    have ih := amg_cnt o n K
    have := (cnt_or (P := amg o K) (Q := amg o (K + 1)) (a := dgN o K) (fun k ⟨i, hi, e⟩ => by
      by_cases c : i = K
      · refine Or.inr ?_
        unfold dgN
        rw [← c, e]
        exact (Int.toNat_natCast k).symm
      · exact Or.inl ⟨i, by omega, e⟩) n).1
    omega
theorem cnt_not {P : Nat → Prop} [hp : DecidablePred P] : ∀ n, cnt (fun i => ¬ P i) n = n - cnt P n
  | 0 => rfl
  | n + 1 => by
    have ih := cnt_not (P := P) n
    rw [cnt_succ, cnt_succ, ih]
    by_cases c : P n
    · rw [if_neg (fun z => z c), if_pos c]; omega
    · rw [if_pos c, if_neg c]; omega
/-- how many beats, and the order -/
def fK (B : q_Mem) : Nat := (hushK (fun k => fstO B k 0 0 (B 3 12)) (B 3 4).toNat 0).1
def fO (B : q_Mem) : Int := (hushK (fun k => fstO B k 0 0 (B 3 12)) (B 3 4).toNat 0).2
def fT (B : q_Mem) (j : Nat) : Nat := if j < fK B then dgN (fO B) j else (rstF (amg (fO B) (fK B)) (B 3 4).toNat 0 ((j : Int) - fK B)).toNat
/-- told ones, each once -/
def prmQ (n m : Nat) (q : Nat → Nat) : Prop := ∀ i, i < m → q i < n ∧ ∀ i', i' < i → ¬ q i' = q i
theorem fire_f {B : q_Mem} (hB : NowOk B) (hi : 2 ≤ B 3 3 → 1 ≤ B 4 1) : fO B = fstO B (fK B) 0 0 (B 3 12) ∧ fO B ≠ -1 ∧ fK B ≤ (B 3 4).toNat := by
  obtain ⟨h0, h1, h2, h3, h4, -⟩ := hB
  have hfs := hushK_spec (f := fun k => fstO B k 0 0 (B 3 12)) (n := (B 3 4).toNat) (k := 0) (by
    refine fstO_found h3 h4 hi _ _ _ _ ?_ ?_
    · rw [Nat.zero_add]
      have : ∀ n : Nat, cnt (fun p => (0 : Int).toNat.testBit p = false) n = n := by
        intro n
        induction n with
        | zero => rfl
        | succ n ih => rw [cnt_succ, ih, if_pos (by simp)]; omega
      exact this _
    · intro hz q hq
      omega)
  refine ⟨hfs.1, ?_, by have := hfs.2.2.2; show (hushK _ _ _).1 ≤ _; omega⟩
  show (hushK (fun k => fstO B k 0 0 (B 3 12)) (B 3 4).toNat 0).2 ≠ -1
  rw [hfs.1]
  exact hfs.2.1
theorem fire_none {B : q_Mem} (hB : NowOk B) {t : Nat} {q : Nat → Nat} (ht : t < fK B) (hq : prmQ (B 3 4).toNat t q) : ¬ allD B (sitQ B q t) := by
  obtain ⟨h0, h1, h2, h3, h4, -⟩ := hB
  intro ha
  have hm := hushK_min (f := fun k => fstO B k 0 0 (B 3 12)) (n := (B 3 4).toNat) (Nat.zero_le t) ht
  have := (fstO_min h4 t 0 0 (B 3 12) q (okQ.2 hq) (by rw [finQ]; exact ha)).1
  exact this hm
theorem fire_rest {B : q_Mem} (hB : NowOk B) (hi : 2 ≤ B 3 3 → 1 ≤ B 4 1) {j : Nat} (h1 : fK B ≤ j) (h2 : j < (B 3 4).toNat) : fT B j < (B 3 4).toNat ∧ ¬ amg (fO B) (fK B) (fT B j) ∧ cnA (amg (fO B) (fK B)) 0 (fT B j) = (j : Int) - fK B := by
  have hc : (j : Int) - fK B < cnA (amg (fO B) (fK B)) 0 (B 3 4).toNat := by
    have e : cnA (amg (fO B) (fK B)) 0 (B 3 4).toNat = cnt (fun i => ¬ amg (fO B) (fK B) i) (B 3 4).toNat := cnt_cg (fun q _ => by rw [Nat.zero_add])
    rw [e, cnt_not]
    have := amg_cnt (fO B) (B 3 4).toNat (fK B)
    omega
  obtain ⟨v, v1, v2, v3, v4, v5⟩ := rst_spec (amg (fO B) (fK B)) (B 3 4).toNat 0 ((j : Int) - fK B) (by omega) hc
  have e : fT B j = v := by
    unfold fT
    rw [if_neg (by omega), v1, Int.toNat_natCast]
  rw [e]
  exact ⟨by omega, v4, by rw [← v5, Nat.sub_zero]⟩
theorem fire_T {B : q_Mem} (hB : NowOk B) (hi : 2 ≤ B 3 3 → 1 ≤ B 4 1) : prmQ (B 3 4).toNat (B 3 4).toNat (fT B) ∧ allD B (sitQ B (fT B) (fK B)) := by
  obtain ⟨f1, f2, f3⟩ := fire_f hB hi
  have h4 := hB.2.2.2.2.1
  have hs := fstO_snd h4 (fK B) 0 0 (B 3 12) (by rw [← f1]; exact f2)
  rw [← f1] at hs
  have hdg : ∀ i, i < fK B → dgN (fO B) i = fT B i := fun i hi => (if_pos hi).symm
  have hok := okQ.1 (okF_congr hdg hs.1)
  have ha := hs.2
  rw [finF_congr hdg, finQ] at ha
  refine ⟨fun i hi2 => ?_, ha⟩
  by_cases c : i < fK B
  · exact hok i c
  · have hr := fire_rest hB hi (show fK B ≤ i by omega) hi2
    refine ⟨hr.1, fun i' hi' e => ?_⟩
    by_cases c2 : i' < fK B
    · refine hr.2.1 ⟨i', c2, ?_⟩
      rw [← e, ← hdg i' c2]
      unfold dgN
      have := g8_lt (fO B) i'
      omega
    · have hr' := fire_rest hB hi (show fK B ≤ i' by omega) (by omega)
      rw [e, hr.2.2] at hr'
      have := hr'.2.2
      omega
theorem fire_least {B : q_Mem} (hB : NowOk B) (hi : 2 ≤ B 3 3 → 1 ≤ B 4 1) {q : Nat → Nat} (hq : prmQ (B 3 4).toNat (B 3 4).toNat q) (ha : allD B (sitQ B q (fK B))) {j : Nat} (hj : j < (B 3 4).toNat) (hp : ∀ i, i < j → q i = fT B i) : fT B j ≤ q j := by
  obtain ⟨f1, f2, f3⟩ := fire_f hB hi
  have h4 := hB.2.2.2.2.1
  have hdg : ∀ i, i < fK B → dgN (fO B) i = fT B i := fun i hi => (if_pos hi).symm
  by_cases c : j < fK B
  · have := (fstO_min h4 (fK B) 0 0 (B 3 12) q (okQ.2 (fun i hi => hq i (by omega))) (by rw [finQ]; exact ha)).2 j c
    rw [← f1] at this
    rw [← hdg j c]
    exact this (fun i hi => by rw [hdg i (by omega)]; exact hp i hi)
  · by_cases c2 : fT B j ≤ q j
    · exact c2
    · exfalso
      have hr := fire_rest hB hi (show fK B ≤ j by omega) hj
      have hqj := hq j hj
      have hnA : ¬ amg (fO B) (fK B) (q j) := by
        rintro ⟨i, hi2, e⟩
        refine hqj.2 i (by omega) ?_
        rw [hp i (by omega), ← hdg i hi2]
        unfold dgN
        omega
      have hl := cnA_lt (A := amg (fO B) (fK B)) (show q j < fT B j by omega) hnA
      rw [hr.2.2] at hl
      have h0 := (cnt_rng (fun i => ¬ amg (fO B) (fK B) (0 + i)) (q j)).1
      have h0 : 0 ≤ cnA (amg (fO B) (fK B)) 0 (q j) := h0
      obtain ⟨u, hu⟩ : ∃ u : Nat, cnA (amg (fO B) (fK B)) 0 (q j) = u := ⟨(cnA (amg (fO B) (fK B)) 0 (q j)).toNat, by omega⟩
      have hr2 := fire_rest hB hi (j := fK B + u) (by omega) (by omega)
      have e : fT B (fK B + u) = q j := by
        have h5 : cnA (amg (fO B) (fK B)) 0 (fT B (fK B + u)) = cnA (amg (fO B) (fK B)) 0 (q j) := by rw [hr2.2.2, hu]; omega
        rcases Nat.lt_trichotomy (fT B (fK B + u)) (q j) with z | z | z
        · have := cnA_lt (A := amg (fO B) (fK B)) z hr2.2.1
          omega
        · exact z
        · have := cnA_lt (A := amg (fO B) (fK B)) z hnA
          omega
      exact hqj.2 (fK B + u) (by omega) (by rw [hp _ (by omega)]; exact e)
/-- each once, all of them -/
theorem prm_cnt {n : Nat} {q : Nat → Nat} : ∀ {t : Nat}, prmQ n t q → cnt (fun k => ∃ i, i < t ∧ q i = k) n = t
  | 0, _ => hsum_0 (fun k _ => if_neg (fun ⟨i, hi, _⟩ => absurd hi (by omega)))
  | t + 1, h => by
    have ih := prm_cnt (n := n) (q := q) (t := t) (fun i hi => h i (by omega))
    have ht := h t (by omega)
    have hr := cnt_rm (P := fun k => ∃ i, i < t + 1 ∧ q i = k) (p := q t) ⟨t, by omega, rfl⟩ ht.1
    rw [cnt_cg (Q := fun k => ∃ i, i < t ∧ q i = k) (fun k _ => by
      constructor
      · rintro ⟨⟨i, hi, e⟩, hne⟩
        refine ⟨i, ?_, e⟩
        by_cases c : i = t
        · exact absurd (by rw [← e, c]) hne
        · omega
      · rintro ⟨i, hi, e⟩
        exact ⟨⟨i, by omega, e⟩, fun z => ht.2 i hi (by rw [e, z])⟩), ih] at hr
    omega
theorem prm_onto {n : Nat} {q : Nat → Nat} (h : prmQ n n q) (o : Nat) (ho : o < n) : ∃ i, i < n ∧ q i = o := by
  by_cases c : ∃ i, i < n ∧ q i = o
  · exact c
  · exfalso
    have h1 := prm_cnt h
    have h2 := cnt_not (P := fun k => ∃ i, i < n ∧ q i = k) n
    rw [h1, Int.sub_self] at h2
    exact cnt_no h2 o ho c


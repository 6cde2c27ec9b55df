/-! what is told of a house keeps its bounds -/
def upR (f : Nat → Int) (i : Nat) (z : Int) : Nat → Int := fun j => if j = i then z else f j
theorem q_upR {M : q_Mem} {a i : Nat} {z : Int} : q_up M a i z a = upR (M a) i z := by
  funext j
  simp [q_up, upR]
def HIr (c : Nat) (h b k w v : Nat → Int) : Prop :=
  ((0 ≤ h 1 ∧ h 1 ≤ 4) ∧ (0 ≤ h 2 ∧ h 2 ≤ 6) ∧ (0 ≤ h 3 ∧ h 3 ≤ 8) ∧ (0 ≤ h 4 ∧ h 4 ≤ 7) ∧ (0 ≤ h 5 ∧ h 5 ≤ 3) ∧ (0 ≤ h 6 ∧ h 6 < 128) ∧ (0 ≤ h 13 ∧ h 13 < 1048576)) ∧
  (h 0 = 0 ∧ h 11 = 0 ∧ h 12 = 0 ∧ h 15 = 0 ∧ h 17 = 0 ∧ h 18 = 0) ∧
  (c = 0 → h 1 = 0 ∧ h 2 = 0 ∧ h 3 = 0 ∧ h 4 = 0 ∧ h 5 = 0 ∧ h 6 = 0 ∧ h 13 = 0) ∧
  (¬ c = 0 → 1 ≤ h 1 ∧ 1 ≤ h 2 ∧ 1 ≤ h 3) ∧
  (∀ j, j ∉ hFs → h j = 0) ∧
  ((∀ j, 0 ≤ b j ∧ b j ≤ 40 * h 3) ∧ b 0 = 0 ∧ (∀ j : Nat, h 3 ≤ j → b j = 0) ∧ (2 ≤ h 3 → 1 ≤ b 1)) ∧
  ((∀ j, 0 ≤ k j ∧ k j ≤ 99) ∧ (∀ j : Nat, h 4 ≤ j → k j = 0)) ∧
  ((∀ j, 0 ≤ w j ∧ w j ≤ 60) ∧ (∀ j : Nat, h 5 ≤ j → w j = 0)) ∧
  ((∀ j, 0 ≤ v j ∧ v j ≤ 30) ∧ ∀ j, 42 ≤ j → v j = 0)
def HI (c : Nat) (M : q_Mem) : Prop := HIr c (M 10) (M 11) (M 12) (M 13) (M 14)
theorem HI.hp {c : Nat} {M : q_Mem} (h : HI c M) : HP M := h.1
theorem upR_fs {h : Nat → Int} {i : Nat} {z : Int} (hh : ∀ j, j ∉ hFs → h j = 0) (hi : i ∈ hFs) : ∀ j, j ∉ hFs → upR h i z j = 0 := by
  intro j hj
  unfold upR
  by_cases e : j = i
  · exact absurd hi (e ▸ hj)
  · rw [if_neg e]
    exact hh j hj
theorem HIr.w0 {h b k w v : Nat → Int} {x y : Int} (H : HIr 0 h b k w v) (hx : 1 ≤ x ∧ x ≤ 4) (hy : 1 ≤ y ∧ y ≤ 6) : HIr 1 (upR (upR (upR h 1 x) 2 y) 3 1) b k w v := by
  obtain ⟨a1, a2, a3, a4, a5, ⟨a6, a7, a8, a9⟩, ⟨b1, b2⟩, ⟨b3, b4⟩, b5, b6⟩ := H
  have a3' := a3 rfl
  refine ⟨?_, ?_, ?_, ?_, upR_fs (upR_fs (upR_fs a5 (by decide)) (by decide)) (by decide), ⟨?_, a7, ?_, ?_⟩, ⟨b1, ?_⟩, ⟨b3, ?_⟩, b5, b6⟩
  · simp [upR]
    omega
  · simp [upR]
    omega
  · omega
  · simp [upR]
    omega
  · intro j
    have := a6 j
    have e := a8 j (by omega)
    simp [upR]
    omega
  · intro j _
    exact a8 j (by omega)
  · simp [upR]
  · intro j hj
    simp [upR] at hj
    exact b2 j hj
  · intro j hj
    simp [upR] at hj
    exact b4 j hj
theorem HIr.w1 {c : Nat} {h b k w v : Nat → Int} {x : Int} {s : Nat} (H : HIr c h b k w v) (hc : ¬ c = 0) (hs : h 3 = (s : Int)) (h8 : s < 8) (hx : 1 ≤ x ∧ x ≤ 40) : HIr (c + 1) (upR h 3 ((s : Int) + 1)) (upR b s (b (s - 1) + x)) k w v := by
  obtain ⟨a1, a2, a3, a4, a5, ⟨a6, a7, a8, a9⟩, ⟨b1, b2⟩, ⟨b3, b4⟩, b5, b6⟩ := H
  have a4' := a4 hc
  refine ⟨?_, ?_, ?_, ?_, upR_fs a5 (by decide), ⟨?_, ?_, ?_, ?_⟩, ⟨b1, ?_⟩, ⟨b3, ?_⟩, b5, b6⟩
  · simp [upR]
    omega
  · simp [upR]
    omega
  · omega
  · simp [upR]
    omega
  · intro j
    have h1 := a6 j
    have h2 := a6 (s - 1)
    simp only [upR, if_pos]
    split <;> omega
  · simp only [upR]
    rw [if_neg (by omega)]
    exact a7
  · intro j hj
    simp only [upR, if_pos] at hj ⊢
    rw [if_neg (by omega)]
    exact a8 j (by omega)
  · intro _
    simp only [upR]
    by_cases e : 1 = s
    · rw [if_pos e, ← e]
      have := a6 (1 - 1)
      omega
    · rw [if_neg e]
      exact a9 (by omega)
  · intro j hj
    simp [upR] at hj
    exact b2 j hj
  · intro j hj
    simp [upR] at hj
    exact b4 j hj
theorem HIr.w2 {c : Nat} {h b k w v v2 : Nat → Int} {x : Int} {q : Nat} (H : HIr c h b k w v) (hc : ¬ c = 0) (hq : h 4 = (q : Int)) (h7 : q < 7) (hx : 0 ≤ x ∧ x < 4) (hv : (∀ j, 0 ≤ v2 j ∧ v2 j ≤ 30) ∧ ∀ j, 42 ≤ j → v2 j = 0) : HIr (c + 1) (upR (upR h 13 (w4 (h 13) q x)) 4 ((q : Int) + 1)) b k w v2 := by
  obtain ⟨a1, a2, a3, a4, a5, ⟨a6, a7, a8, a9⟩, ⟨b1, b2⟩, ⟨b3, b4⟩, b5, b6⟩ := H
  have a4' := a4 hc
  have hw := w4_lt (s := h 13) (v := x) (k := q) (by omega) (by omega) hx
  refine ⟨?_, ?_, ?_, ?_, upR_fs (upR_fs a5 (by decide)) (by decide), ⟨?_, a7, ?_, ?_⟩, ⟨b1, ?_⟩, ⟨b3, ?_⟩, hv⟩
  · simp [upR]
    omega
  · simp [upR]
    omega
  · omega
  · simp [upR]
    omega
  · simpa [upR] using a6
  · simpa [upR] using a8
  · simpa [upR] using a9
  · intro j hj
    simp [upR] at hj
    exact b2 j (by omega)
  · simpa [upR] using b4
theorem HIr.w3 {c : Nat} {h b k w v : Nat → Int} {q : Nat} (H : HIr c h b k w v) (hc : ¬ c = 0) (h7 : q < 7) : HIr (c + 1) (upR h 6 (orb (h 6) q)) b k w v := by
  obtain ⟨a1, a2, a3, a4, a5, ⟨a6, a7, a8, a9⟩, ⟨b1, b2⟩, ⟨b3, b4⟩, b5, b6⟩ := H
  have a4' := a4 hc
  have hw := orb_rng (s := h 6) (p := q) (by omega) h7
  refine ⟨?_, ?_, ?_, ?_, upR_fs a5 (by decide), ⟨?_, a7, ?_, ?_⟩, ⟨b1, ?_⟩, ⟨b3, ?_⟩, b5, b6⟩
  · simp [upR]
    omega
  · simp [upR]
    omega
  · omega
  · simp [upR]
    omega
  · simpa [upR] using a6
  · simpa [upR] using a8
  · simpa [upR] using a9
  · simpa [upR] using b2
  · simpa [upR] using b4
theorem HIr.w4 {c : Nat} {h b k w v : Nat → Int} {x y : Int} {t : Nat} (H : HIr c h b k w v) (hc : ¬ c = 0) (ht : h 5 = (t : Int)) (h3 : t < 3) (hx : 0 ≤ x ∧ x < 4) (hy : 0 ≤ y ∧ y ≤ 60) : HIr (c + 1) (upR (upR h 13 (w4 (h 13) (7 + t) x)) 5 ((t : Int) + 1)) b k (upR w t y) v := by
  obtain ⟨a1, a2, a3, a4, a5, ⟨a6, a7, a8, a9⟩, ⟨b1, b2⟩, ⟨b3, b4⟩, b5, b6⟩ := H
  have a4' := a4 hc
  have hw := w4_lt (s := h 13) (v := x) (k := 7 + t) (by omega) (by omega) hx
  refine ⟨?_, ?_, ?_, ?_, upR_fs (upR_fs a5 (by decide)) (by decide), ⟨?_, a7, ?_, ?_⟩, ⟨b1, ?_⟩, ⟨?_, ?_⟩, b5, b6⟩
  · simp [upR]
    omega
  · simp [upR]
    omega
  · omega
  · simp [upR]
    omega
  · simpa [upR] using a6
  · simpa [upR] using a8
  · simpa [upR] using a9
  · simpa [upR] using b2
  · intro j
    have := b3 j
    simp only [upR]
    split <;> omega
  · intro j hj
    simp only [upR, if_pos] at hj ⊢
    rw [if_neg (by omega)]
    exact b4 j (by omega)
theorem HIr.w5 {c : Nat} {h b k w v : Nat → Int} {x : Int} {q : Nat} (H : HIr c h b k w v) (hc : ¬ c = 0) (hq : (q : Int) < h 4) (hx : 0 ≤ x ∧ x ≤ 99) : HIr (c + 1) h b (upR k q x) w v := by
  obtain ⟨a1, a2, a3, a4, a5, a6, ⟨b1, b2⟩, b3, b5⟩ := H
  have a4' := a4 hc
  refine ⟨a1, a2, by omega, fun _ => a4', a5, a6, ⟨?_, ?_⟩, b3, b5⟩
  · intro j
    have := b1 j
    simp only [upR]
    split <;> omega
  · intro j hj
    simp only [upR]
    rw [if_neg (by omega)]
    exact b2 j hj
theorem hVo_ok {n q : Nat} (hq : q < 7) : ∀ (m h : Nat) (M M2 : q_Mem), h + m ≤ 6 → (∃ p, TP M n p) → hVo n q m h M = .ok M2 → Exc [1, 14] M M2 ∧ (∃ p, TP M2 n p) ∧ (((∀ j, 0 ≤ M 14 j ∧ M 14 j ≤ 30) ∧ ∀ j, 42 ≤ j → M 14 j = 0) → (∀ j, 0 ≤ M2 14 j ∧ M2 14 j ≤ 30) ∧ ∀ j, 42 ≤ j → M2 14 j = 0)
  | 0, h, M, M2, _, hT, e => by
    unfold hVo at e
    cases e
    exact ⟨Exc.rf, hT, fun z => z⟩
  | m + 1, h, M, M2, hm, ⟨p, hT⟩, e => by
    unfold hVo at e
    cases hr : rd M n 0 30 with
    | error F => rw [hr] at e; cases e
    | ok r =>
      obtain ⟨v, M1⟩ := r
      rw [hr] at e
      obtain ⟨k1, ⟨p2, k2⟩, k3, -⟩ := rd_ok hT hr
      obtain ⟨i1, i2, i3⟩ := hVo_ok hq m (h + 1) _ M2 (by omega) ⟨p2, k2.exc (Exc.up (L := [14]) (by simp)) (by simp)⟩ e
      refine ⟨((k1.sub (by simp)).tr (Exc.up (by simp))).tr i1, i2, fun z => i3 ⟨?_, ?_⟩⟩
      · intro j
        have := z.1 j
        rw [q_upR, k1 14 (by simp)]
        unfold upR
        split <;> omega
      · intro j hj
        have := z.2 j hj
        rw [q_upR, k1 14 (by simp)]
        unfold upR
        rw [if_neg (by omega)]
        exact this
theorem hCl_ok {n p c : Nat} {M M2 : q_Mem} (hT : TP M n p) (H : HI c M) (e : hCl n c M = .ok M2) : Exc [1, 10, 11, 12, 13, 14] M M2 ∧ (∃ p, TP M2 n p) ∧ HI (c + 1) M2 ∧ c < 40 := by
  have hs := skip_le (M 2) n p
  have hl := lets_le (M 2) n (skip (M 2) n p)
  have hp : (M 1 2).toNat = p := by have := hT.2.2.1; omega
  unfold hCl at e
  rw [hp] at e
  have hT1 : TP (q_up M 1 2 ((skip (M 2) n p + lets (M 2) n (skip (M 2) n p) : Nat) : Int)) n (skip (M 2) n p + lets (M 2) n (skip (M 2) n p)) := hT.up (by have := hT.2.2.2.1; omega)
  have hE1 : Exc [1] M (q_up M 1 2 ((skip (M 2) n p + lets (M 2) n (skip (M 2) n p) : Nat) : Int)) := Exc.up (by simp)
  have hH1 : HI c (q_up M 1 2 ((skip (M 2) n p + lets (M 2) n (skip (M 2) n p) : Nat) : Int)) := by
    unfold HI at *
    rw [hE1 10 (by simp), hE1 11 (by simp), hE1 12 (by simp), hE1 13 (by simp), hE1 14 (by simp)]
    exact H
  split at e
  · cases e
  split at e
  · cases e
  rename_i c1 c2
  have hfr := findW_rng (M 2) n (skip (M 2) n p) wsH 0 (by omega)
  rw [show wsH.length = 6 from rfl] at hfr
  generalize findW (M 2) n (skip (M 2) n p) wsH 0 = w at *
  have hA := mt (hAm_iff (M := M) (w := w) (c := c)).2 c2
  have e10 : (q_up M 1 2 ((skip (M 2) n p + lets (M 2) n (skip (M 2) n p) : Nat) : Int)) 10 = M 10 := hE1 10 (by simp)
  rw [← e10] at hA
  generalize hM1 : q_up M 1 2 ((skip (M 2) n p + lets (M 2) n (skip (M 2) n p) : Nat) : Int) = M1 at *
  generalize skip (M 2) n p + lets (M 2) n (skip (M 2) n p) = p1 at *
  have hP := hH1.hp
  obtain ⟨⟨r1, r2⟩, ⟨r3, r4⟩, ⟨r5, r6⟩, ⟨r7, r8⟩, ⟨r9, r10⟩, r11, r12⟩ := hP
  have hc40 : c < 40 := by omega
  suffices h : Exc [1, 10, 11, 12, 13, 14] M1 M2 ∧ (∃ p, TP M2 n p) ∧ HI (c + 1) M2 from ⟨(hE1.sub (by simp)).tr h.1, h.2.1, h.2.2, hc40⟩
  have hc : w = 0 ∨ w = 1 ∨ w = 2 ∨ w = 3 ∨ w = 4 ∨ w = 5 := by omega
  unfold hRest at e
  rcases hc with rfl | rfl | rfl | rfl | rfl | rfl
  · rw [if_pos rfl] at e
    have c0 : c = 0 := by omega
    subst c0
    cases hr : rd M1 n 1 4 with
    | error F => rw [hr] at e; cases e
    | ok r =>
      obtain ⟨v, M3⟩ := r
      rw [hr] at e
      obtain ⟨k1, ⟨p2, k2⟩, k3, -⟩ := rd_ok hT1 hr
      have hT3 : TP (q_up M3 10 1 v) n p2 := k2.exc (Exc.up (L := [10]) (by simp)) (by simp)
      cases hr2 : rd (q_up M3 10 1 v) n 1 6 with
      | error F => simp only [hr2] at e; cases e
      | ok r =>
        obtain ⟨v2, M4⟩ := r
        simp only [hr2] at e
        cases e
        obtain ⟨j1, ⟨p3, j2⟩, j3, -⟩ := rd_ok hT3 hr2
        refine ⟨((k1.sub (by simp)).tr (Exc.up (by simp))).tr ((j1.sub (by simp)).tr ((Exc.up (by simp)).tr (Exc.up (by simp)))), ⟨p3, (j2.exc (Exc.up (L := [10]) (by simp)) (by simp)).exc (Exc.up (L := [10]) (by simp)) (by simp)⟩, ?_⟩
        have := HIr.w0 (x := v) (y := v2) hH1 k3 j3
        unfold HI
        rw [q_upR, q_upR, j1 10 (by simp), q_upR, k1 10 (by simp), q_up_ne (by decide), q_up_ne (by decide), j1 11 (by simp), q_up_ne (by decide), k1 11 (by simp), q_up_ne (by decide), q_up_ne (by decide), j1 12 (by simp), q_up_ne (by decide), k1 12 (by simp), q_up_ne (by decide), q_up_ne (by decide), j1 13 (by simp), q_up_ne (by decide), k1 13 (by simp), q_up_ne (by decide), q_up_ne (by decide), j1 14 (by simp), q_up_ne (by decide), k1 14 (by simp)]
        exact this
  · rw [if_neg (by decide), if_pos rfl] at e
    have c0 : ¬ c = 0 := by omega
    cases hr : rd M1 n 1 40 with
    | error F => rw [hr] at e; cases e
    | ok r =>
      obtain ⟨v, M3⟩ := r
      rw [hr] at e
      cases e
      obtain ⟨k1, ⟨p2, k2⟩, k3, -⟩ := rd_ok hT1 hr
      refine ⟨(k1.sub (by simp)).tr ((Exc.up (by simp)).tr (Exc.up (by simp))), ⟨p2, (k2.exc (Exc.up (L := [11]) (by simp)) (by simp)).exc (Exc.up (L := [10]) (by simp)) (by simp)⟩, ?_⟩
      obtain ⟨s, hs⟩ : ∃ s : Nat, M1 10 3 = (s : Int) := ⟨(M1 10 3).toNat, by omega⟩
      have := HIr.w1 (x := v) hH1 c0 hs (by omega) k3
      unfold HI
      rw [hs, Int.toNat_natCast]
      rw [q_upR, q_up_ne (by decide), k1 10 (by simp), q_up_ne (by decide), q_upR, k1 11 (by simp), q_up_ne (by decide), q_up_ne (by decide), k1 12 (by simp), q_up_ne (by decide), q_up_ne (by decide), k1 13 (by simp), q_up_ne (by decide), q_up_ne (by decide), k1 14 (by simp)]
      exact this
  · rw [if_neg (by decide), if_neg (by decide), if_pos rfl] at e
    have c0 : ¬ c = 0 := by omega
    cases hr : rd M1 n 0 (M1 10 1 - 1) with
    | error F => rw [hr] at e; cases e
    | ok r =>
      obtain ⟨v, M3⟩ := r
      simp only [hr] at e
      obtain ⟨k1, ⟨p2, k2⟩, k3, -⟩ := rd_ok hT1 hr
      obtain ⟨q, hq⟩ : ∃ q : Nat, M1 10 4 = (q : Int) := ⟨(M1 10 4).toNat, by omega⟩
      rw [hq, Int.toNat_natCast] at e
      cases hv : hVo n q (M1 10 2).toNat 0 (q_up M3 10 13 (w4 (M1 10 13) q v)) with
      | error F => rw [hv] at e; cases e
      | ok M4 =>
        rw [hv] at e
        cases e
        obtain ⟨i1, ⟨p3, i2⟩, i3⟩ := hVo_ok (by omega) _ _ _ _ (by omega) ⟨p2, k2.exc (Exc.up (L := [10]) (by simp)) (by simp)⟩ hv
        rw [q_up_ne (by decide), k1 14 (by simp)] at i3
        have hv2 := i3 hH1.2.2.2.2.2.2.2.2
        refine ⟨((k1.sub (by simp)).tr (Exc.up (by simp))).tr ((i1.sub (by simp)).tr (Exc.up (by simp))), ⟨p3, i2.exc (Exc.up (L := [10]) (by simp)) (by simp)⟩, ?_⟩
        have := HIr.w2 (x := v) hH1 c0 hq (by omega) (by omega) hv2
        unfold HI
        rw [q_upR, i1 10 (by simp), q_upR, k1 10 (by simp), q_up_ne (by decide), i1 11 (by simp), q_up_ne (by decide), k1 11 (by simp), q_up_ne (by decide), i1 12 (by simp), q_up_ne (by decide), k1 12 (by simp), q_up_ne (by decide), i1 13 (by simp), q_up_ne (by decide), k1 13 (by simp), q_up_ne (by decide)]
        exact this
  · rw [if_neg (by decide), if_neg (by decide), if_neg (by decide), if_pos rfl] at e
    have c0 : ¬ c = 0 := by omega
    cases hr : rd M1 n 0 (M1 10 4 - 1) with
    | error F => rw [hr] at e; cases e
    | ok r =>
      obtain ⟨v, M3⟩ := r
      rw [hr] at e
      cases e
      obtain ⟨k1, ⟨p2, k2⟩, k3, -⟩ := rd_ok hT1 hr
      refine ⟨(k1.sub (by simp)).tr (Exc.up (by simp)), ⟨p2, k2.exc (Exc.up (L := [10]) (by simp)) (by simp)⟩, ?_⟩
      have := HIr.w3 (q := v.toNat) hH1 c0 (by omega)
      unfold HI
      rw [q_upR, k1 10 (by simp), q_up_ne (by decide), k1 11 (by simp), q_up_ne (by decide), k1 12 (by simp), q_up_ne (by decide), k1 13 (by simp), q_up_ne (by decide), k1 14 (by simp)]
      exact this
  · rw [if_neg (by decide), if_neg (by decide), if_neg (by decide), if_neg (by decide), if_pos rfl] at e
    have c0 : ¬ c = 0 := by omega
    cases hr : rd M1 n 0 (M1 10 1 - 1) with
    | error F => rw [hr] at e; cases e
    | ok r =>
      obtain ⟨v, M3⟩ := r
      simp only [hr] at e
      obtain ⟨k1, ⟨p2, k2⟩, k3, -⟩ := rd_ok hT1 hr
      obtain ⟨t, ht⟩ : ∃ t : Nat, M1 10 5 = (t : Int) := ⟨(M1 10 5).toNat, by omega⟩
      rw [ht, Int.toNat_natCast] at e
      have hT3 : TP (q_up M3 10 13 (w4 (M1 10 13) (7 + t) v)) n p2 := k2.exc (Exc.up (L := [10]) (by simp)) (by simp)
      cases hr2 : rd (q_up M3 10 13 (w4 (M1 10 13) (7 + t) v)) n 0 60 with
      | error F => rw [hr2] at e; cases e
      | ok r =>
        obtain ⟨v2, M4⟩ := r
        rw [hr2] at e
        cases e
        obtain ⟨j1, ⟨p3, j2⟩, j3, -⟩ := rd_ok hT3 hr2
        refine ⟨((k1.sub (by simp)).tr (Exc.up (by simp))).tr ((j1.sub (by simp)).tr ((Exc.up (by simp)).tr (Exc.up (by simp)))), ⟨p3, (j2.exc (Exc.up (L := [13]) (by simp)) (by simp)).exc (Exc.up (L := [10]) (by simp)) (by simp)⟩, ?_⟩
        have := HIr.w4 (x := v) (y := v2) hH1 c0 ht (by omega) (by omega) (by omega)
        unfold HI
        rw [q_upR, q_up_ne (by decide), j1 10 (by simp), q_upR, k1 10 (by simp), q_up_ne (by decide), q_up_ne (by decide), j1 11 (by simp), q_up_ne (by decide), k1 11 (by simp), q_up_ne (by decide), q_up_ne (by decide), j1 12 (by simp), q_up_ne (by decide), k1 12 (by simp), q_up_ne (by decide), q_upR, j1 13 (by simp), q_up_ne (by decide), k1 13 (by simp), q_up_ne (by decide), q_up_ne (by decide), j1 14 (by simp), q_up_ne (by decide), k1 14 (by simp)]
        exact this
  · rw [if_neg (by decide), if_neg (by decide), if_neg (by decide), if_neg (by decide), if_neg (by decide)] at e
    have c0 : ¬ c = 0 := by omega
    cases hr : rd M1 n 0 (M1 10 4 - 1) with
    | error F => rw [hr] at e; cases e
    | ok r =>
      obtain ⟨v, M3⟩ := r
      simp only [hr] at e
      obtain ⟨k1, ⟨p2, k2⟩, k3, -⟩ := rd_ok hT1 hr
      cases hr2 : rd M3 n 0 99 with
      | error F => rw [hr2] at e; cases e
      | ok r =>
        obtain ⟨v2, M4⟩ := r
        rw [hr2] at e
        cases e
        obtain ⟨j1, ⟨p3, j2⟩, j3, -⟩ := rd_ok k2 hr2
        refine ⟨(k1.sub (by simp)).tr ((j1.sub (by simp)).tr (Exc.up (by simp))), ⟨p3, j2.exc (Exc.up (L := [12]) (by simp)) (by simp)⟩, ?_⟩
        have := HIr.w5 (x := v2) (q := v.toNat) hH1 c0 (by omega) (by omega)
        unfold HI
        rw [q_up_ne (by decide), j1 10 (by simp), k1 10 (by simp), q_up_ne (by decide), j1 11 (by simp), k1 11 (by simp), q_upR, j1 12 (by simp), k1 12 (by simp), q_up_ne (by decide), j1 13 (by simp), k1 13 (by simp), q_up_ne (by decide), j1 14 (by simp), k1 14 (by simp)]
        exact this


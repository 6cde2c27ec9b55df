/-! one state on both sides: the tape, images -/
theorem byS_rng (x : Int32) (k : Int) : -128 ≤ byS x k ∧ byS x k ≤ 127 := by
  unfold byS
  rw [Int8.toInt_toInt32]
  have h1 := Int8.toInt_lt (x >>> (zi k &&& 31)).toInt8
  have h2 := Int8.le_toInt (x >>> (zi k &&& 31)).toInt8
  omega
theorem tpF_rng {f : Nat → Int} {n : Nat} {x : Int32} (h : ∀ j, j < n → -128 ≤ f j ∧ f j ≤ 127) : ∀ j, j < n + 4 → -128 ≤ tpF f n x j ∧ tpF f n x j ≤ 127 := by
  intro j hj
  unfold tpF
  split
  · exact byS_rng _ _
  · split
    · exact byS_rng _ _
    · split
      · exact byS_rng _ _
      · split
        · exact byS_rng _ _
        · exact h j (by omega)
theorem fdF_rng {f : Nat → Int} {n : Nat} {a b c d e : Int32} (h : ∀ j, j < n → -128 ≤ f j ∧ f j ≤ 127) : ∀ j, j < n + 20 → -128 ≤ fdF f n a b c d e j ∧ fdF f n a b c d e j ≤ 127 := tpF_rng (tpF_rng (tpF_rng (tpF_rng (tpF_rng h))))
theorem WI.tape {M M2 : q_Mem} (h : WI M) (e : ∀ a, a ∉ [1, 2, 112, 132] → M2 a = M a) (h112 : ∀ j, ¬ j = 20 → M2 112 j = M 112 j) (hT : wT M2) : WI M2 := by
  obtain ⟨hF, hz, hh, -, hr, hi, hs⟩ := h
  refine ⟨?_, hz.cg (fun b _ _ => e b (by simp; omega)), hh.cg (fun a _ _ _ => e a (by simp; omega)), hT, hr.cg (by rw [e 0 (by decide)]) (h112 24 (by decide)) (fun a _ _ => e a (by simp; omega)) (fun a ha => e a (by simp at ha ⊢; omega)), hi.cg (by rw [e 0 (by decide)]) (fun a _ _ => e a (by simp; omega)) (e 166 (by decide)) (fun j _ => by rw [e 165 (by decide)]), hs.cg (e 15 (by decide)) (e 16 (by decide)) (e 85 (by decide)) (h112 29 (by decide))⟩
  exact (hF.home (B1 := M2) (fun a _ _ => e a (by simp; omega))).rest (X := [1, 2, 112, 132]) (fun a ha => e a ha) (by decide) (h112 45 (by decide))
theorem P_feed {G : q_G} {d : Nat} {M : q_Mem} {N : q_MemL} {a b c k f : Int} (hd : 20 ≤ d) (hW : WI M) : PR G d m_X10_feed m_X11_feed [I a, I b, I c, I k, I f] M N := by
  obtain ⟨-, -, -, ⟨n, t1, t2, t3, t4⟩, -⟩ := id hW
  refine (C_feed (by omega) t1 t2).cv (fun x M1 N1 hx => ?_)
  obtain ⟨rfl, hx⟩ := hx
  rcases hx with ⟨h0, rfl, rfl⟩ | ⟨h0, rfl, hE, h1, h2, h3⟩
  · refine ⟨_, rfl, (C_rfeed (by omega) t3 t2).cv (fun y M2 N2 hy => ?_)⟩
    obtain ⟨-, hy⟩ := hy
    rcases hy with ⟨-, rfl, e⟩ | ⟨h4, -⟩
    · exact ⟨rfl, hW.same e⟩
    · exact absurd h4 h0
  · refine ⟨_, rfl, (C_rfeed (n := n) (by omega) (by rw [hE 112 (by decide)]; exact t3) t2).cv (fun y M2 N2 hy => ?_)⟩
    obtain ⟨-, hy⟩ := hy
    rcases hy with ⟨h4, -⟩ | ⟨-, rfl, hE2, g1, g2, g3⟩
    · exact absurd h0 h4
    · have t5 : ∀ j, j < n → M 2 j = M 132 j := fun j hj => (t4 j hj).1.symm
      refine ⟨rfl, hW.tape (fun a ha => by rw [hE2 a (by simp at ha ⊢; omega), hE a (by simp at ha ⊢; omega)]) (fun j hj => by rw [g2 j hj, hE 112 (by decide)]) ⟨n + 20, by rw [hE2 1 (by decide)]; exact h1, h0, g1, fun j hj => ?_⟩⟩
      rw [g3, hE2 2 (by decide), h3, hE 132 (by decide)]
      exact ⟨(fdF_congr t5 j hj).symm, fdF_rng (fun j hj => (t4 j hj).2) j hj⟩
theorem P_end {G : q_G} {d : Nat} {M : q_Mem} {N : q_MemL} {v : Int} (hW : WI M) (hv : i32 v) : PR G d m_X10_end m_X11_end [I v] M N := by
  obtain ⟨-, -, -, ⟨n, t1, t2, t3, t4⟩, -⟩ := id hW
  refine (C_end t1 t2 hv).cv (fun x M1 N1 hx => ?_)
  obtain ⟨rfl, hx⟩ := hx
  rcases hx with ⟨h0, rfl, rfl⟩ | ⟨h0, rfl, hM1⟩
  · refine ⟨_, rfl, (C_rend t3 t2 hv).cv (fun y M2 N2 hy => ?_)⟩
    obtain ⟨-, hy⟩ := hy
    rcases hy with ⟨-, rfl, e⟩ | ⟨h4, -⟩
    · exact ⟨rfl, hW.same e⟩
    · exact absurd h4 h0
  · refine ⟨_, rfl, (C_rend (n := n) (by rw [hM1, q_up_ne (by decide)]; exact t3) t2 hv).cv (fun y M2 N2 hy => ?_)⟩
    obtain ⟨-, hy⟩ := hy
    rcases hy with ⟨h4, -⟩ | ⟨-, rfl, hM2⟩
    · exact absurd h0 h4
    · refine ⟨rfl, hW.tape (fun a ha => by simp at ha; rw [hM2, q_up_ne (by omega), hM1, q_up_ne (by omega)]) (fun j hj => by rw [hM2, hM1]; simp [q_up, hj]) ⟨v.toNat, by rw [hM2, hM1]; simp [q_up]; omega, by omega, by rw [hM2]; simp [q_up]; omega, fun j hj => ?_⟩⟩
      rw [hM2, hM1, q_up_ne (by decide), q_up_ne (by decide), q_up_ne (by decide), q_up_ne (by decide)]
      exact t4 j (by omega)
/-- a home that was copied -/
theorem Hz.copied {M : q_Mem} {a b : Nat} (h : Hz M b) : Hz (cpH M a b) a := by
  have e : ∀ i, i < 7 → cpH M a b (a + i) = M (b + i) := fun i hi => by
    funext j
    unfold cpH
    rw [if_pos (by omega), show a + i - a = i by omega]
  have e0 : cpH M a b a = M b := e 0 (by omega)
  unfold Hz at *
  rw [e0, e 1 (by omega), e 2 (by omega), e 3 (by omega), e 4 (by omega), e 5 (by omega), e 6 (by omega)]
  exact h
theorem cpH_ne {M : q_Mem} {a b r : Nat} (h : ¬ (a ≤ r ∧ r < a + 7)) : cpH M a b r = M r := by
  funext j
  unfold cpH
  rw [if_neg h]
theorem cpH_at {M : q_Mem} {a b i : Nat} (h : i < 7) : cpH M a b (a + i) = M (b + i) := by
  funext j
  unfold cpH
  rw [if_pos (by omega), show a + i - a = i by omega]
theorem P_back {G : q_G} {d : Nat} {M : q_Mem} {N : q_MemL} {k : Int} (hd : 20 ≤ d) (hW : WI M) (hk : i32 k) : PR G d m_X10_back m_X11_back [I k] M N := by
  obtain ⟨hF, hz, hh, -, -, ⟨i1, i2⟩, -⟩ := id hW
  have him : 0 ≤ k → k < 4 → imR k = 18 + 7 * k.toNat ∧ k.toNat < 4 := fun h1 h2 => ⟨rfl, by omega⟩
  refine (C_back (by omega) hz (fun h => by rw [(him h.1 h.2).1]; exact ⟨hh.2 _ (by omega), (i2 k.toNat (by omega)).2.2.1⟩) (by omega) hk).cv (fun x M1 N1 hx => ?_)
  obtain ⟨rfl, hx⟩ := hx
  rcases hx with ⟨h0, rfl, rfl⟩ | ⟨⟨h0, hb⟩, rfl, hM1⟩
  · refine ⟨_, rfl, (C_rback (B := hB M1 (imR k)) (by omega) (fun h1 h2 => ⟨(i2 k.toNat (by omega)).1, fun z => (i2 k.toNat (by omega)).2.2.2 z⟩) hk).cv (fun y M2 N2 hy => ?_)⟩
    obtain ⟨-, hy⟩ := hy
    rcases hy with ⟨-, rfl, e⟩ | ⟨⟨h4, h5⟩, -⟩
    · exact ⟨rfl, hW.same e⟩
    · exact absurd ⟨h4, (i2 k.toNat (by omega)).2.1.2 h5⟩ h0
  · have hk4 : k.toNat < 4 := by omega
    obtain ⟨j1, j2, j3, j4⟩ := i2 k.toNat hk4
    have hone : M 166 k.toNat = 1 := j2.1 hb
    have e : ∀ a, ¬ (3 ≤ a ∧ a < 10) → M1 a = M a := fun a ha => by rw [hM1, cpH_ne (by omega)]
    have eB : ∀ a, 3 ≤ a → a < 10 → hB M (imR k) a = M1 a := fun a h3 h10 => by
      have := cpH_at (M := M) (a := 3) (b := imR k) (i := a - 3) (by omega)
      rw [show 3 + (a - 3) = a by omega] at this
      rw [hM1, this]
      rfl
    have hF1 : FullR (hB M (imR k)) (imV M1 k.toNat) := by
      have e2 : imV M1 k.toNat = imV M k.toNat := by
        unfold imV
        rw [e 165 (by omega)]
      rw [e2]
      exact j4 hone
    refine ⟨_, rfl, (C_rback (B := hB M (imR k)) (by omega) (fun h1 h2 => ⟨by rw [e 166 (by omega)]; exact j1, fun _ => hF1⟩) hk).cv (fun y M2 N2 hy => ?_)⟩
    obtain ⟨-, hy⟩ := hy
    rcases hy with ⟨h4, -⟩ | ⟨-, rfl, hBw, hF2⟩
    · exact absurd ⟨h0, by rw [e 166 (by omega)]; exact hone⟩ h4
    · have hE := hBw.exc
      refine ⟨rfl, hW.act (M1 := M1) (B := hB M (imR k)) (fun a _ hb => e a hb) (fun a ha => e a (by omega)) ?_ eB hF2 (fun a ha => hE a (fun z => ha (by simp [aX, bkX] at z ⊢; omega))) (fun j hj => hBw.2.2.1 j (by simp at hj; omega) (by simp at hj; omega) (by simp at hj; omega))⟩
      rw [hM1]
      exact (hh.2 k.toNat hk4).copied
theorem P_image {G : q_G} {d : Nat} {M : q_Mem} {N : q_MemL} {k : Int} (hd : 20 ≤ d) (hW : WI M) (hk : i32 k) : PR G d m_X10_image m_X11_image [I k] M N := by
  obtain ⟨hF, hz, hh, ht, hr, ⟨i1, i2⟩, hs⟩ := id hW
  refine (C_image (by omega) hF.1.1 hz (fun h => hh.2 k.toNat (by omega)) (by omega) hk).cv (fun x M1 N1 hx => ?_)
  obtain ⟨rfl, hx⟩ := hx
  rcases hx with ⟨h0, rfl, rfl⟩ | ⟨h0, rfl, hM1⟩
  · refine ⟨_, rfl, (C_rimage (by omega) hF hk).cv (fun y M2 N2 hy => ?_)⟩
    obtain ⟨-, hy⟩ := hy
    rcases hy with ⟨-, rfl, e⟩ | ⟨h4, -⟩
    · exact ⟨rfl, hW.same e⟩
    · exact absurd h4 h0
  · obtain ⟨q, rfl⟩ : ∃ q : Nat, k = q := ⟨k.toNat, by omega⟩
    have hq4 : q < 4 := by omega
    have him : imR (q : Int) = 18 + 7 * q := rfl
    rw [him, Int.toNat_natCast] at hM1
    have e : ∀ a, ¬ a = 0 → ¬ (18 + 7 * q ≤ a ∧ a < 18 + 7 * q + 7) → M1 a = M a := fun a h1 h2 => by rw [hM1, q_up_ne h1, cpH_ne (by omega)]
    have eI : ∀ i, i < 7 → M1 (18 + 7 * q + i) = M (3 + i) := fun i hi => by rw [hM1, q_up_ne (by omega), cpH_at hi]
    have e04 : M1 0 4 = orb (M 0 4) q := by rw [hM1]; simp [q_up]
    have e06 : M1 0 6 = M 0 6 := by
      rw [hM1]
      simp only [q_up]
      rw [if_neg (by omega), cpH_ne (by omega)]
    have hF1 : FullR M M1 := hF.f1 (fun a ha => e a (by omega) (by omega))
    refine ⟨_, rfl, (C_rimage (by omega) hF1 hk).cv (fun y M2 N2 hy => ?_)⟩
    obtain ⟨-, hy⟩ := hy
    rcases hy with ⟨h4, -⟩ | ⟨-, rfl, hFw, hF2⟩
    · exact absurd h0 h4
    · rw [Int.toNat_natCast] at hFw
      have hIm := hFw.im hF1
      obtain ⟨w1, w2, w3, w4, w5⟩ := hFw
      have g : ∀ a, ¬ a = 112 → ¬ a = 146 → ¬ a = 165 → ¬ a = 166 → M2 a = M1 a := fun a h1 h2 h3 h4 => by rw [w1 a (by simp; omega), q_up_ne h4]
      have lo : ∀ a, ¬ a = 0 → ¬ (18 + 7 * q ≤ a ∧ a < 18 + 7 * q + 7) → ¬ a = 112 → ¬ a = 146 → ¬ a = 165 → ¬ a = 166 → M2 a = M a := fun a h1 h2 h3 h4 h5 h6 => by rw [g a h3 h4 h5 h6, e a h1 h2]
      have f112 : ∀ j, ¬ j = 80 → ¬ j = 81 → M2 112 j = M 112 j := fun j h1 h2 => by rw [w2 j h1 h2, q_up_ne (by decide), e 112 (by omega) (by omega)]
      have z0 : ∀ a, a < 112 → M2 a = M1 a := fun a ha => g a (by omega) (by omega) (by omega) (by omega)
      refine ⟨rfl, hF2.home (fun a h3 h10 => lo a (by omega) (by omega) (by omega) (by omega) (by omega) (by omega)), hz.cg (fun b h3 h10 => lo b (by omega) (by omega) (by omega) (by omega) (by omega) (by omega)), ⟨hh.1.cg (fun b h3 h10 => lo b (by omega) (by omega) (by omega) (by omega) (by omega) (by omega)), fun k hk => ?_⟩, ht.cg (by rw [lo 1 (by omega) (by omega) (by omega) (by omega) (by omega) (by omega)]) (lo 2 (by omega) (by omega) (by omega) (by omega) (by omega) (by omega)) (f112 20 (by decide) (by decide)) (lo 132 (by omega) (by omega) (by omega) (by omega) (by omega) (by omega)), hr.cg (by rw [z0 0 (by omega), e06]) (f112 24 (by decide) (by decide)) (fun a _ _ => lo a (by omega) (by omega) (by omega) (by omega) (by omega) (by omega)) (fun a ha => by simp at ha; exact lo a (by omega) (by omega) (by omega) (by omega) (by omega) (by omega)), ⟨?_, fun k hk => ?_⟩, hs.cg (lo 15 (by omega) (by omega) (by omega) (by omega) (by omega) (by omega)) (lo 16 (by omega) (by omega) (by omega) (by omega) (by omega) (by omega)) (lo 85 (by omega) (by omega) (by omega) (by omega) (by omega) (by omega)) (f112 29 (by decide) (by decide))⟩
      · by_cases hkq : k = q
        · subst hkq
          have hc : Hz (cpH M (18 + 7 * k) 3) (18 + 7 * k) := hz.copied
          exact hc.cg (fun b h1 h2 => by rw [z0 b (by omega), hM1, q_up_ne (by omega)])
        · exact (hh.2 k hk).cg (fun b h1 h2 => lo b (by omega) (by omega) (by omega) (by omega) (by omega) (by omega))
      · rw [z0 0 (by omega), e04]
        unfold orb
        have : (M 0 4).toNat ||| 2 ^ q < 2 ^ 4 := Nat.or_lt_two_pow (by omega) (Nat.pow_lt_pow_right (by decide) (by omega))
        omega
      · rw [z0 0 (by omega), e04, orb_bit]
        obtain ⟨b1, b2, b3, b4⟩ := i2 k hk
        have hw166 : M2 166 k = if k = q then 1 else M 166 k := by
          rw [w1 166 (by decide)]
          simp only [q_up]
          by_cases hkq : k = q
          · rw [if_pos ⟨trivial, hkq⟩, if_pos hkq]
          · rw [if_neg (fun z => hkq z.2), if_neg hkq, e 166 (by omega) (by omega)]
        rw [hw166]
        by_cases hkq : k = q
        · subst hkq
          rw [if_pos rfl]
          refine ⟨Or.inr rfl, by simp, ?_, fun _ => hIm.home (fun a h3 h10 => ?_)⟩
          · rw [z0 _ (by omega)]
            have := eI 0 (by omega)
            rw [Nat.add_zero, Nat.add_zero] at this
            rw [this]
            exact hF.1.1.1
          · have := eI (a - 3) (by omega)
            rw [← z0 _ (by omega), show 3 + (a - 3) = a by omega] at this
            rw [← this]
            rfl
        · rw [if_neg hkq]
          refine ⟨b1, by simp [b2, show ¬ q = k by omega], by rw [lo _ (by omega) (by omega) (by omega) (by omega) (by omega) (by omega)]; exact b3, fun z => ?_⟩
          have e5 : ∀ j, 1500 * k ≤ j → j < 1500 * k + 1373 → M2 165 j = M 165 j := fun j h1 h2 => by
            rw [w5 j, if_neg (by omega), q_up_ne (by decide), e 165 (by omega) (by omega)]
          refine ((b4 z).home (fun r hr hr2 => ?_)).qk (fun r j hj => ?_) ?_
          · funext j
            unfold hB
            rw [lo _ (by omega) (by omega) (by omega) (by omega) (by omega) (by omega)]
          · have c := ofR_le r
            unfold imV
            by_cases hr : r = 112
            · rw [if_pos hr, if_pos hr, e5 _ (by omega) (by omega)]
            · rw [if_neg hr, if_neg hr, e5 _ (by omega) (by omega)]
          · unfold imV
            rw [if_pos rfl, if_pos rfl, e5 _ (by omega) (by omega)]


/-! one state on both sides: a house, a rule -/
theorem P_house {G : q_G} {d : Nat} {M : q_Mem} {N : q_MemL} (hd : 20 ≤ d) (hW : WI M) : PR G d m_X10_house m_X11_house [] M N := by
  obtain ⟨hF, hz, hh, ⟨n, t1, t2, t3, t4⟩, hr, hi, hs⟩ := id hW
  have h18 : 0 ≤ M 3 18 ∧ M 3 18 < 2147483648 := hF.1.1.2.2.2.2.2.2.2.2.2.2.2.2.1
  have h15 : ∀ k, -1 ≤ M 15 k ∧ M 15 k < 1073741824 := fun k => by rw [hs.1 k]; omega
  have h16 : ∀ k, -1 ≤ M 16 k ∧ M 16 k ≤ 100 := fun k => by rw [hs.2.1 k]; omega
  have hT0 : ∀ {M2 : q_Mem}, M2 1 1 = 0 → M2 112 20 = 0 → wT M2 := fun h1 h2 => ⟨0, h1, by omega, h2, fun j hj => by omega⟩
  refine (C_house (by omega) t1 t2 hh.1 hz).cv (fun x M1 N1 hx => ?_)
  obtain ⟨rfl, hx⟩ := hx
  rcases hx with ⟨B1, c, hrd, hI, hc0, hE, rfl, hM1⟩ | ⟨F, hrd, hF0, rfl, hE, h11⟩
  · have e : ∀ a, ¬ (3 ≤ a ∧ a < 10) → a ∉ [1, 10, 11, 12, 13, 14] → M1 a = M a := fun a h1 h2 => by
      simp at h2
      rw [hM1, cpH_ne (by omega), q_up_ne (by omega), q_up_ne (by omega), q_up_ne (by omega), hE a (by simp; omega)]
    have hT : Hz (q_up (q_up (q_up B1 10 0 1) 1 1 0) 10 18 (M 3 18)) 10 := by
      obtain ⟨z0, z1, z2, z3, z4⟩ := hI.zt
      have ne : ∀ b, ¬ b = 10 → ¬ b = 1 → q_up (q_up (q_up B1 10 0 1) 1 1 0) 10 18 (M 3 18) b = B1 b := fun b h1 h2 => by rw [q_up_ne h1, q_up_ne h2, q_up_ne h1]
      refine ⟨fun j hj => ?_, fun j hj => ?_, fun j hj => ?_, fun j hj => ?_, fun j hj => ?_, fun j hj => ?_, fun j hj => ?_⟩
      · simp [hFs] at hj
        have := z0 j (by omega)
        simp only [q_up]
        rw [if_neg (by omega), if_neg (by omega), if_neg (by omega)]
        exact this
      · rw [ne _ (by decide) (by decide)]
        exact z1 j hj
      · rw [ne _ (by decide) (by decide)]
        exact z2 j hj
      · rw [ne _ (by decide) (by decide)]
        exact z3 j hj
      · rw [ne _ (by decide) (by decide)]
        exact z4 j hj
      · rw [ne _ (by decide) (by decide), hE _ (by decide)]
        exact hs.1 j
      · rw [ne _ (by decide) (by decide), hE _ (by decide)]
        exact hs.2.1 j
    have z1 : M1 1 1 = 0 := by
      rw [hM1, cpH_ne (by decide)]
      simp [q_up]
    refine ⟨_, rfl, (C_rhouse (B := M) (n := n) (by omega) t1 t2 (by rw [e 112 (by decide) (by decide)]; exact t3) (fun j hj => by rw [e 132 (by decide) (by decide)]; exact t4 j hj) hh.1 h18 (by rw [e 113 (by decide) (by decide)]; exact hF.2.1) h15 h16).cv (fun y M2 N2 hy => ?_)⟩
    obtain ⟨-, hX, hf, h20, hy⟩ := hy
    rcases hy with ⟨B2, hrd2, rfl, hF2⟩ | ⟨F, hrd2, -⟩
    · rw [hrd] at hrd2
      cases hrd2
      have lo : ∀ a, a < 112 → M2 a = M1 a := fun a ha => hX a (by simp [hoX]; omega)
      have hi2 : ∀ a, 112 ≤ a → a ∉ hoX → M2 a = M a := fun a ha hq => by rw [hX a hq, e a (by omega) (by simp; omega)]
      have f112 : ∀ j, j ∈ [24, 29] → M2 112 j = M 112 j := fun j hj => by rw [hf j (by simp at hj ⊢; omega), e 112 (by decide) (by decide)]
      have l0 : ∀ a, a < 112 → ¬ (3 ≤ a ∧ a < 10) → a ∉ [1, 10, 11, 12, 13, 14] → M2 a = M a := fun a h0 h1 h2 => by rw [lo a h0, e a h1 h2]
      refine ⟨rfl, hF2.home (fun a h3 h10 => ?_), ?_, ⟨?_, fun k hk => (hh.2 k hk).cg (fun b h1 h2 => l0 b (by omega) (by omega) (by simp; omega))⟩, hT0 (by rw [lo 1 (by decide)]; exact z1) h20, hr.cg (by rw [l0 0 (by decide) (by decide) (by decide)]) (f112 24 (by decide)) (fun a _ _ => l0 a (by omega) (by omega) (by simp; omega)) (fun a ha => by simp at ha; exact hi2 a (by omega) (by simp [hoX]; omega)), hi.cg (by rw [l0 0 (by decide) (by decide) (by decide)]) (fun a _ _ => l0 a (by omega) (by omega) (by simp; omega)) (hi2 166 (by decide) (by decide)) (fun j _ => by rw [hi2 165 (by decide) (by decide)]), hs.cg (l0 15 (by decide) (by decide) (by decide)) (l0 16 (by decide) (by decide) (by decide)) (l0 85 (by decide) (by decide) (by decide)) (f112 29 (by decide))⟩
      · have := cpH_at (M := q_up (q_up (q_up B1 10 0 1) 1 1 0) 10 18 (M 3 18)) (a := 3) (b := 10) (i := a - 3) (by omega)
        rw [show 3 + (a - 3) = a by omega, ← hM1] at this
        rw [lo a (by omega), this]
        unfold hNew hB
        funext j
        simp only [q_up]
        by_cases h10' : 10 + (a - 3) = 10
        · simp only [h10', true_and]
          by_cases hj : j = 18
          · rw [if_pos hj, if_pos hj]
          · rw [if_neg hj, if_neg hj, if_neg (by omega)]
        · simp only [h10', false_and, if_false]
          rw [if_neg (by omega)]
      · refine (Hz.copied (a := 3) hT).cg (fun b h1 h2 => ?_)
        rw [lo b (by omega), hM1]
      · refine hT.cg (fun b h1 h2 => ?_)
        rw [lo b (by omega), hM1, cpH_ne (by omega)]
    · rw [hrd] at hrd2
      cases hrd2
  · obtain ⟨hE, hzT⟩ := hE
    have e : ∀ a, a ∉ [1, 10, 11, 12, 13, 14] → M1 a = M a := fun a h => hE a h
    refine ⟨_, rfl, (C_rhouse (B := M) (n := n) (by omega) t1 t2 (by rw [e 112 (by decide)]; exact t3) (fun j hj => by rw [e 132 (by decide)]; exact t4 j hj) hh.1 h18 (by rw [e 113 (by decide)]; exact hF.2.1) h15 h16).cv (fun y M2 N2 hy => ?_)⟩
    obtain ⟨-, -, hf, h20, hy⟩ := hy
    rcases hy with ⟨B2, hrd2, -⟩ | ⟨F2, hrd2, rfl, h45, hX⟩
    · rw [hrd] at hrd2
      cases hrd2
    · rw [hrd] at hrd2
      cases hrd2
      have lo : ∀ a, a < 112 → M2 a = M1 a := fun a ha => hX a (by simp; omega)
      have l0 : ∀ a, a < 112 → a ∉ [1, 10, 11, 12, 13, 14] → M2 a = M a := fun a h0 h2 => by rw [lo a h0, e a h2]
      have hi2 : ∀ a, 113 ≤ a → ¬ (125 ≤ a ∧ a ≤ 131) → M2 a = M a := fun a ha hq => by rw [hX a (by simp; omega), e a (by simp; omega)]
      have f112 : ∀ j, j ∈ [24, 29] → M2 112 j = M 112 j := fun j hj => by rw [hf j (by simp at hj ⊢; omega), e 112 (by decide)]
      have hzz := hzT (by
        obtain ⟨y0, y1, y2, y3, y4, -⟩ := hh.1
        exact ⟨fun j hj => y0 j (by simp [hFs]; omega), y1, y2, y3, y4⟩)
      refine ⟨rfl, ?_, hz.cg (fun b h3 h10 => l0 b (by omega) (by simp; omega)), ⟨?_, fun k hk => (hh.2 k hk).cg (fun b h1 h2 => l0 b (by omega) (by simp; omega))⟩, hT0 (by rw [lo 1 (by decide)]; exact h11) h20, hr.cg (by rw [l0 0 (by decide) (by decide)]) (f112 24 (by decide)) (fun a _ _ => l0 a (by omega) (by simp; omega)) (fun a ha => by simp at ha; exact hi2 a (by omega) (by omega)), hi.cg (by rw [l0 0 (by decide) (by decide)]) (fun a _ _ => l0 a (by omega) (by simp; omega)) (hi2 166 (by decide) (by decide)) (fun j _ => by rw [hi2 165 (by decide) (by decide)]), hs.cg (l0 15 (by decide) (by decide)) (l0 16 (by decide) (by decide)) (l0 85 (by decide) (by decide)) (f112 29 (by decide))⟩
      · have hF1 := hF.f1 (M1 := M1) (fun a ha => e a (by simp; omega))
        exact (hF1.home (B1 := M2) (fun a h3 h10 => l0 a (by omega) (by simp; omega))).rest hX (by decide) h45
      · obtain ⟨y0, y1, y2, y3, y4⟩ := hzz
        unfold Hz
        rw [lo 10 (by decide), lo (10 + 1) (by decide), lo (10 + 2) (by decide), lo (10 + 3) (by decide), lo (10 + 4) (by decide), l0 (10 + 5) (by decide) (by decide), l0 (10 + 6) (by decide) (by decide)]
        refine ⟨fun j hj => y0 j (by simp [hFs] at hj; omega), y1, y2, y3, y4, fun j _ => hs.1 j, fun j _ => hs.2.1 j⟩
theorem RuR.other {M V V1 : q_Mem} {k s : Nat} (hC : RuC M (47 + 6 * k)) (h : RuR M V k) (hk : ¬ k = s) (hR : RU1 s V V1) : RuR M V1 k := by
  obtain ⟨⟨-, -, r3⟩, rc, r5⟩ := hR
  obtain ⟨h6, hC⟩ := hC
  obtain ⟨h1, h2⟩ := h
  refine ⟨by rw [r5 k hk]; exact h1, fun c hc => ?_⟩
  obtain ⟨⟨a1, a2, a3, a4⟩, a5⟩ := h2 c hc
  obtain ⟨-, x, t, y, g1, g2, g3, g4, g5, g6, -⟩ := hC c hc
  obtain ⟨b1, b2, b3, b4⟩ := rc (12 * k + c) (by omega)
  refine ⟨⟨by rw [b4]; exact a1, by rw [b1]; exact a2, by rw [b2]; exact a3, by rw [b3]; exact a4⟩, fun i hi1 hi2 => ?_⟩
  obtain ⟨e1, e2⟩ := r3 (300 * k + i) (by omega)
  rw [e1, e2]
  exact a5 i hi1 hi2
theorem RuR.of {M V : q_Mem} {r : Nat} {E : List Int} {L : List CL} (hE : LRo (M (47 + 6 * r + 1)) E) (hL : KR (47 + 6 * r) M L) (h135 : V 135 r = (L.length : Int)) (hK : KRr r V L) (hEr : ERr r V E) (h : ∀ l, l ∈ L → LOk E l) : RuR M V r := by
  obtain ⟨h6, hr⟩ := hL
  refine ⟨by rw [h135, h6], fun c hc => ?_⟩
  have hcl : c < L.length := by omega
  obtain ⟨r1, r2, r3, r4⟩ := hr c hcl
  obtain ⟨k1, k2, k3, k4⟩ := hK c hcl
  have hm : L.getD c cl0 ∈ L := by
    rw [List.getD_eq_getElem?_getD, List.getElem?_eq_getElem hcl]
    exact List.getElem_mem hcl
  obtain ⟨-, A, s1, s2, R, g2, g3, g4, g5, -⟩ := h _ hm
  have hlen : E.length = A.length + (s1.length + (s2.length + R.length)) := by rw [g2]; simp
  refine ⟨⟨by rw [k1, r1], by rw [k2, r2], by rw [k3, r3], by rw [k4, r4]⟩, fun i hi1 hi2 => ?_⟩
  rw [r4] at hi2
  have hi3 : i < E.length := by omega
  rw [hE i hi3]
  exact hEr i hi3
theorem P_rule {G : q_G} {d : Nat} {M : q_Mem} {N : q_MemL} (hd : 20 ≤ d) (hW : WI M) : PR G d m_X10_rule m_X11_rule [] M N := by
  obtain ⟨hF, hz, hh, ⟨n, t1, t2, t3, t4⟩, ⟨w1, w2, w3⟩, hi, hs⟩ := id hW
  have hV : VW M := hs.2.2.2
  refine (C_srule (by omega) t1 t2 hV w1).cv (fun x M1 N1 hx => ?_)
  obtain ⟨rfl, hV1, hx⟩ := hx
  obtain ⟨r, hr⟩ : ∃ r : Nat, M 0 6 = (r : Int) := ⟨(M 0 6).toNat, by omega⟩
  have hcg : ∀ j, j < n → M 132 j = M 2 j := fun j hj => (t4 j hj).1
  have hT0 : ∀ {M2 : q_Mem}, M2 1 1 = 0 → M2 112 20 = 0 → wT M2 := fun h1 h2 => ⟨0, h1, by omega, h2, fun j hj => by omega⟩
  rcases hx with ⟨h6, rfl, rfl⟩ | ⟨h6, h11, hX, h0, hx⟩
  · refine ⟨_, rfl, (C_rrule (f := M1 132) (n := n) (by omega) rfl (fun j hj => by rw [hcg j hj]; exact (t4 j hj).2) t3 t2 hs.2.2.1 (by omega)).cv (fun y M2 N2 hy => ?_)⟩
    obtain ⟨-, hy⟩ := hy
    rcases hy with ⟨-, rfl, e⟩ | ⟨h4, -⟩
    · exact ⟨rfl, hW.same e⟩
    · omega
  · rw [hr, Int.toNat_natCast] at hX hx
    have hr6 : r < 6 := by omega
    have e : ∀ a, a ∉ 0 :: rkX (47 + 6 * r) → M1 a = M a := fun a ha => hX a ha
    have e1 : ∀ a, ¬ a = 0 → ¬ a = 1 → ¬ a = 84 → ¬ a = 85 → ¬ (47 + 6 * r ≤ a ∧ a ≤ 52 + 6 * r) → M1 a = M a := fun a h1 h2 h3 h4 h5 => e a (by simp [rkX]; omega)
    have g112 : M1 112 = M 112 := e1 112 (by omega) (by omega) (by omega) (by omega) (by omega)
    have g132 : M1 132 = M 132 := e1 132 (by omega) (by omega) (by omega) (by omega) (by omega)
    have hR : ∀ {N1 : q_MemL}, _ := fun {N1 : q_MemL} => C_rrule (G := G) (d := d) (V := M1) (N := N1) (f := M 132) (n := n) (by omega) g132 (fun j hj => by rw [hcg j hj]; exact (t4 j hj).2) (by rw [g112]; exact t3) t2 (by rw [g112]; exact hs.2.2.1) (by rw [g112]; omega)
    have h24 : M1 112 24 = (r : Int) := by rw [g112, w2, hr]
    -- what goes on in both cases
    have key : ∀ (M2 : q_Mem), RU1 r M1 M2 → M2 112 20 = 0 → wR M2 → WI M2 := by
      intro M2 hU h20 hwR
      obtain ⟨⟨u1, u2, u3⟩, -, -⟩ := hU
      have lo : ∀ a, a < 112 → M2 a = M1 a := fun a ha => u1 a (by simp; omega)
      have l0 : ∀ a, a < 112 → ¬ a = 0 → ¬ a = 1 → ¬ a = 84 → ¬ a = 85 → ¬ (47 + 6 * r ≤ a ∧ a ≤ 52 + 6 * r) → M2 a = M a := fun a h0 h1 h2 h3 h4 h5 => by rw [lo a h0, e1 a h1 h2 h3 h4 h5]
      have hi2 : ∀ a, 113 ≤ a → ¬ (133 ≤ a ∧ a ≤ 140) → M2 a = M a := fun a ha hq => by rw [u1 a (by simp; omega), e1 a (by omega) (by omega) (by omega) (by omega) (by omega)]
      have f112 : ∀ j, j ∈ [29, 45] → M2 112 j = M 112 j := fun j hj => by rw [u2 j (by simp at hj ⊢; omega), g112]
      refine ⟨?_, hz.cg (fun b h3 h10 => l0 b (by omega) (by omega) (by omega) (by omega) (by omega) (by omega)), hh.cg (fun a _ _ _ => l0 a (by omega) (by omega) (by omega) (by omega) (by omega) (by omega)), hT0 (by rw [lo 1 (by decide)]; exact h11) h20, hwR, hi.cg (by rw [lo 0 (by decide), h0 4 (by decide)]) (fun a _ _ => l0 a (by omega) (by omega) (by omega) (by omega) (by omega) (by omega)) (hi2 166 (by decide) (by decide)) (fun j _ => by rw [hi2 165 (by decide) (by decide)]), ?_⟩
      · refine ((hF.home (B1 := M2) (fun a h3 h10 => l0 a (by omega) (by omega) (by omega) (by omega) (by omega) (by omega))).qk (fun a j hj => ?_) (f112 45 (by decide)))
        have c := (ofR_le a).2 (by omega)
        rw [hi2 a c]
        intro z
        have hz0 : (ofR a).2 = 0 := by
          have hc : a = 133 ∨ a = 134 ∨ a = 135 ∨ a = 136 ∨ a = 137 ∨ a = 138 ∨ a = 139 ∨ a = 140 := by omega
          rcases hc with rfl | rfl | rfl | rfl | rfl | rfl | rfl | rfl <;> rfl
        omega
      · unfold wS
        rw [l0 15 (by omega) (by omega) (by omega) (by omega) (by omega) (by omega), l0 16 (by omega) (by omega) (by omega) (by omega) (by omega) (by omega), f112 29 (by decide)]
        refine ⟨hs.1, hs.2.1, hs.2.2.1, ?_⟩
        unfold VW
        rw [lo 85 (by decide)]
        exact hV1
    -- the rules that were there
    have old : ∀ (M2 : q_Mem), RU1 r M1 M2 → ∀ k : Nat, k < r → RuC M2 (47 + 6 * k) ∧ RuR M2 M2 k := by
      intro M2 hU k hk
      have hM : ∀ a, 47 + 6 * k ≤ a → a < 47 + 6 * k + 6 → M2 a = M a := fun a h1 h2 => by rw [hU.1.1 a (by simp; omega), e1 a (by omega) (by omega) (by omega) (by omega) (by omega)]
      obtain ⟨c1, c2⟩ := w3 k (by omega)
      have c3 : RuR M M1 k := c2.cg (fun _ _ _ => rfl) (fun a ha => by simp at ha; exact e1 a (by omega) (by omega) (by omega) (by omega) (by omega))
      exact ⟨c1.cg hM, (c3.other c1 (by omega) hU).cg hM (fun _ _ => rfl)⟩
    rcases hx with ⟨E, L, k1, rfl, k2, k3, k4⟩ | ⟨F, k1, rfl, k2⟩
    · refine ⟨_, rfl, hR.cv (fun y M2 N2 hy => ?_)⟩
      obtain ⟨-, hy⟩ := hy
      rcases hy with ⟨h4, -⟩ | ⟨-, hQ⟩
      · omega
      · rw [h24, Int.toNat_natCast] at hQ
        obtain ⟨hU, h20, hq⟩ := hQ
        rcases hq with ⟨E2, L2, j1, rfl, j2, j3, j4, j5⟩ | ⟨F, j1, -⟩
        · rw [ruT_congr hcg, k1] at j1
          cases j1
          obtain ⟨p1, p2, p3, p4⟩ := ruP_ok _ _ _ _ _ _ _ (by omega) (by omega) (by simp) (fun l hl => by simp at hl) k1
          have lo : ∀ a, a < 112 → M2 a = M1 a := fun a ha => hU.1.1 a (by simp; omega)
          have q3 : LRo (M2 (47 + 6 * r + 1)) E := by rw [lo _ (by omega)]; exact k3
          have q4 : KR (47 + 6 * r) M2 L := by
            unfold KR at *
            rw [lo _ (by omega), lo _ (by omega), lo _ (by omega), lo _ (by omega), lo _ (by omega)]
            exact k4
          refine ⟨rfl, key M2 hU h20 ⟨?_, ?_, fun k hk => ?_⟩⟩
          · rw [lo 0 (by decide), k2]
            omega
          · rw [lo 0 (by decide), k2, j2]
          · rw [lo 0 (by decide), k2] at hk
            by_cases hkr : k = r
            · subst hkr
              exact ⟨RuC.of q3 q4 p4 (by omega) p1, RuR.of q3 q4 j3 j4 j5 p1⟩
            · exact old M2 hU k (by omega)
        · rw [ruT_congr hcg, k1] at j1
          cases j1
    · refine ⟨_, rfl, hR.cv (fun y M2 N2 hy => ?_)⟩
      obtain ⟨-, hy⟩ := hy
      rcases hy with ⟨h4, -⟩ | ⟨-, hQ⟩
      · omega
      · rw [h24, Int.toNat_natCast] at hQ
        obtain ⟨hU, h20, hq⟩ := hQ
        rcases hq with ⟨E2, L2, j1, -⟩ | ⟨F2, j1, rfl, j2⟩
        · rw [ruT_congr hcg, k1] at j1
          cases j1
        · rw [ruT_congr hcg, k1] at j1
          cases j1
          have lo : ∀ a, a < 112 → M2 a = M1 a := fun a ha => hU.1.1 a (by simp; omega)
          refine ⟨rfl, key M2 hU h20 ⟨?_, ?_, fun k hk => ?_⟩⟩
          · rw [lo 0 (by decide), k2]
            omega
          · rw [lo 0 (by decide), k2, j2]
          · rw [lo 0 (by decide), k2] at hk
            exact old M2 hU k (by omega)


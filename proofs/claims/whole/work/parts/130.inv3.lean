/-! one state on both sides: acts -/
theorem Hz.up {M : q_Mem} {a i : Nat} {z : Int} (h : Hz M 3) (hi : (a = 3 ∧ i ∈ hFs) ∨ (a = 7 ∧ i < 42) ∨ (a = 8 ∧ i < 100) ∨ (a = 9 ∧ i < 24) ∨ a < 3 ∨ 9 < a) : Hz (q_up M a i z) 3 := by
  obtain ⟨h0, h1, h2, h3, h4, h5, h6⟩ := h
  have off : ∀ b j, ¬ (b = a ∧ j = i) → q_up M a i z b j = M b j := fun b j hb => by
    unfold q_up
    rw [if_neg hb]
  refine ⟨fun j hj => ?_, fun j hj => ?_, fun j hj => ?_, fun j hj => ?_, fun j hj => ?_, fun j hj => ?_, fun j hj => ?_⟩
  · rw [off 3 j (fun z => ?_)]
    · exact h0 j hj
    · rcases hi with ⟨h1, h2⟩ | hi
      · exact hj (by rw [z.2]; exact h2)
      · omega
  · rw [off (3 + 1) j (by omega)]
    exact h1 j hj
  · rw [off (3 + 2) j (by omega)]
    exact h2 j hj
  · rw [off (3 + 3) j (by omega)]
    exact h3 j hj
  · rw [off (3 + 4) j (by omega)]
    exact h4 j hj
  · rw [off (3 + 5) j (by omega)]
    exact h5 j hj
  · rw [off (3 + 6) j (by omega)]
    exact h6 j hj
theorem Hz.shift {M : q_Mem} (h : Hz M 3) : Hz (q_cp M 8 8 5 0 95) 3 := by
  obtain ⟨h0, h1, h2, h3, h4, h5, h6⟩ := h
  have e : ∀ b, ¬ b = 8 → q_cp M 8 8 5 0 95 b = M b := fun b hb => by funext j; unfold q_cp; rw [if_neg hb]
  unfold Hz
  rw [e 3 (by decide), e (3 + 1) (by decide), e (3 + 2) (by decide), e (3 + 3) (by decide), e (3 + 4) (by decide), e (3 + 6) (by decide)]
  refine ⟨h0, h1, h2, h3, h4, fun j hj => ?_, h6⟩
  show q_cp M 8 8 5 0 95 8 j = 0
  unfold q_cp
  rw [if_pos rfl, if_neg (by omega)]
  exact h5 j hj
theorem Hz.keep {M : q_Mem} {vp : Int} (h : Hz M 3) (hB : NowOk M) : Hz (keepM M vp) 3 := by
  have h15 : 0 ≤ M 3 15 ∧ M 3 15 ≤ 20 := hB.2.2.2.2.2.2.2.2.2.2.1
  have hA : Hz (remA M 3) 3 ∧ 0 ≤ remA M 3 3 15 ∧ remA M 3 3 15 ≤ 19 := by
    unfold remA
    split
    · exact ⟨h.shift.up (Or.inl ⟨rfl, by decide⟩), by simp [q_up]⟩
    · exact ⟨h, by omega⟩
  obtain ⟨a, b, c⟩ := hA
  unfold keepM remB
  generalize remA M 3 = R at *
  refine (((((a.up ?_).up ?_).up ?_).up ?_).up ?_).up (Or.inl ⟨rfl, by decide⟩)
  all_goals exact Or.inr (Or.inr (Or.inl ⟨rfl, by omega⟩))
def aX : List Nat := [112, 113, 114, 115, 116, 117, 118, 119, 120, 121, 122, 123, 124, 143, 144, 145, 146, 147]
/-- an act keeps it -/
theorem WI.act {M M1 M2 B : q_Mem} (h : WI M) (h1 : ∀ a, a < 86 → ¬ (3 ≤ a ∧ a < 10) → M1 a = M a) (h1' : ∀ a, 112 ≤ a → M1 a = M a) (hz : Hz M1 3) (hB : ∀ a, 3 ≤ a → a < 10 → B a = M1 a) (hR : FullR B M2) (h2 : ∀ a, a ∉ aX → M2 a = M1 a) (h112 : ∀ j, j ∈ [20, 24, 29] → M2 112 j = M1 112 j) : WI M2 := by
  obtain ⟨hF, -, hh, ht, hr, hi, hs⟩ := h
  have lo : ∀ a, a < 86 → ¬ (3 ≤ a ∧ a < 10) → M2 a = M a := fun a ha hb => by rw [h2 a (by simp [aX]; omega), h1 a ha hb]
  have hi2 : ∀ a, 112 ≤ a → a ∉ aX → M2 a = M a := fun a ha hq => by rw [h2 a hq, h1' a ha]
  have f112 : ∀ j, j ∈ [20, 24, 29] → M2 112 j = M 112 j := fun j hj => by rw [h112 j hj, h1' 112 (by omega)]
  refine ⟨hR.home (fun a h3 h10 => by rw [hB a h3 h10, h2 a (by simp [aX]; omega)]), hz.cg (fun b h3 h10 => h2 b (by simp [aX]; omega)), hh.cg (fun a _ _ _ => lo a (by omega) (by omega)), ht.cg (by rw [lo 1 (by decide) (by decide)]) (lo 2 (by decide) (by decide)) (f112 20 (by decide)) (hi2 132 (by decide) (by decide)), hr.cg (by rw [lo 0 (by decide) (by decide)]) (f112 24 (by decide)) (fun a _ _ => lo a (by omega) (by omega)) (fun a ha => hi2 a (by simp at ha; omega) (by simp [aX] at ha ⊢; omega)), hi.cg (by rw [lo 0 (by decide) (by decide)]) (fun a _ _ => lo a (by omega) (by omega)) (hi2 166 (by decide) (by decide)) (fun j hj => by rw [hi2 165 (by decide) (by decide)]), hs.cg (lo 15 (by decide) (by decide)) (lo 16 (by decide) (by decide)) (lo 85 (by decide) (by decide)) (f112 29 (by decide))⟩
/-- nothing happened -/
theorem WI.same {M M2 : q_Mem} (h : WI M) (e : M2 = M) : WI M2 := e ▸ h
theorem AcE.a {M M1 : q_Mem} (h : AcE M M1) : (∀ a, a ∉ aX → M1 a = M a) ∧ ∀ j, j ∈ [20, 24, 29] → M1 112 j = M 112 j := ⟨fun a ha => h.1 a (fun z => ha (by simp [acX, aX] at z ⊢; omega)), fun j hj => h.2 j (by simp at hj; omega) (by simp at hj; omega) (by simp at hj; omega)⟩
theorem sang_row {M : q_Mem} {z : Int} {a : Nat} (h3 : ¬ a = 3) (h8 : ¬ a = 8) : sangM M z a = M a := by
  unfold sangM
  rw [q_up_ne h3, q_up_ne h3, keepM_row h3 h8]
theorem Hz.sang {M : q_Mem} {z : Int} (h : Hz M 3) (hB : NowOk M) : Hz (sangM M z) 3 := ((h.keep hB).up (Or.inl ⟨rfl, by decide⟩)).up (Or.inl ⟨rfl, by decide⟩)
theorem WI.sang {M M1 M2 : q_Mem} {z : Int} (h : WI M) (hE : Exc [111] (sangM M z) M1) (hA : AcE M1 M2) (hF : FullR (sangM M z) M2) : WI M2 := by
  have hz : Hz (sangM M z) 3 := h.2.1.sang h.1.1.1
  refine h.act (M1 := M1) (B := sangM M z) (fun a ha hb => ?_) (fun a ha => ?_) (hz.cg (fun b h1 h2 => hE b (by simp; omega))) (fun a h3 h10 => (hE a (by simp; omega)).symm) hF hA.a.1 hA.a.2
  · rw [hE a (by simp; omega), sang_row (by omega) (by omega)]
  · rw [hE a (by simp; omega), sang_row (by omega) (by omega)]
theorem P_beat {G : q_G} {d : Nat} {M : q_Mem} {N : q_MemL} (hd : 20 ≤ d) (hW : WI M) : PR G d m_X10_beat m_X11_beat [] M N := by
  have hF := hW.1
  refine (C_beat (by omega) hF.1.1).cv (fun x M1 N1 hx => ?_)
  obtain ⟨rfl, hx⟩ := hx
  rcases hx with ⟨h0, rfl, rfl⟩ | ⟨h0, rfl, hE⟩
  · refine ⟨_, rfl, (C_rbeat (by omega) hF).cv (fun y M2 N2 hy => ?_)⟩
    obtain ⟨-, hy⟩ := hy
    rcases hy with ⟨-, rfl, e⟩ | ⟨h2, -⟩
    · exact ⟨rfl, hW.same e⟩
    · exact absurd h2 h0
  · have e : ∀ a, 112 ≤ a → M1 a = M a := fun a ha => by rw [hE a (by simp; omega), sang_row (by omega) (by omega)]
    refine ⟨_, rfl, (C_rbeat (by omega) (hF.f1 e)).cv (fun y M2 N2 hy => ?_)⟩
    obtain ⟨-, hy⟩ := hy
    rcases hy with ⟨h2, -⟩ | ⟨-, rfl, hA, hF2⟩
    · exact absurd h0 h2
    · exact ⟨rfl, hW.sang hE hA hF2⟩
theorem P_sing {G : q_G} {d : Nat} {M : q_Mem} {N : q_MemL} {p v : Int} (hd : 20 ≤ d) (hW : WI M) (hp : i32 p) (hv : i32 v) : PR G d m_X10_sing m_X11_sing [I p, I v] M N := by
  have hF := hW.1
  refine (C_sing (by omega) hF.1.1 hp hv).cv (fun x M1 N1 hx => ?_)
  obtain ⟨rfl, hx⟩ := hx
  rcases hx with ⟨h0, rfl, rfl⟩ | ⟨h0, rfl, hE⟩
  · refine ⟨_, rfl, (C_rsing (by omega) hF hp hv).cv (fun y M2 N2 hy => ?_)⟩
    obtain ⟨-, hy⟩ := hy
    rcases hy with ⟨-, rfl, e⟩ | ⟨h2, -⟩
    · exact ⟨rfl, hW.same e⟩
    · exact absurd h2 h0
  · have e : ∀ a, 112 ≤ a → M1 a = M a := fun a ha => by rw [hE a (by simp; omega), sang_row (by omega) (by omega)]
    refine ⟨_, rfl, (C_rsing (by omega) (hF.f1 e) hp hv).cv (fun y M2 N2 hy => ?_)⟩
    obtain ⟨-, hy⟩ := hy
    rcases hy with ⟨h2, -⟩ | ⟨-, rfl, hA, hF2⟩
    · exact absurd h0 h2
    · exact ⟨rfl, hW.sang hE hA hF2⟩
/-- an act that the system ends with these rows -/
theorem WI.row {M M1 M2 : q_Mem} (h : WI M) (hr : ∀ a, ¬ (3 ≤ a ∧ a < 10) → M1 a = M a) (hz : Hz M1 3) (hA : AcE M1 M2) (hF : FullR M1 M2) : WI M2 := h.act (M1 := M1) (B := M1) (fun a _ hb => hr a hb) (fun a ha => hr a (by omega)) hz (fun _ _ _ => rfl) hF hA.a.1 hA.a.2
theorem P_tune {G : q_G} {d : Nat} {M : q_Mem} {N : q_MemL} {p h v : Int} (hd : 20 ≤ d) (hW : WI M) (hp : i32 p) (hh : i32 h) (hv : i32 v) : PR G d m_X10_tune m_X11_tune [I p, I h, I v] M N := by
  have hF := hW.1
  refine (C_tune (by omega) hF.1.1 hp hh hv).cv (fun x M1 N1 hx => ?_)
  obtain ⟨rfl, hx⟩ := hx
  rcases hx with ⟨h0, rfl, rfl⟩ | ⟨h0, rfl, hM1⟩
  · refine ⟨_, rfl, (C_rtune (by omega) hF hp hh hv).cv (fun y M2 N2 hy => ?_)⟩
    obtain ⟨-, hy⟩ := hy
    rcases hy with ⟨-, rfl, e⟩ | ⟨h2, -⟩
    · exact ⟨rfl, hW.same e⟩
    · exact absurd h2 h0
  · have hr : ∀ a, ¬ (3 ≤ a ∧ a < 10) → M1 a = M a := fun a ha => by rw [hM1, q_up_ne (by omega), keepM_row (by omega) (by omega)]
    have hB := hF.1.1
    refine ⟨_, rfl, (C_rtune (by omega) (hF.f1 (fun a ha => hr a (by omega))) hp hh hv).cv (fun y M2 N2 hy => ?_)⟩
    obtain ⟨-, hy⟩ := hy
    rcases hy with ⟨h2, -⟩ | ⟨-, rfl, hA, hF2⟩
    · exact absurd h0 h2
    · rw [← hM1] at hF2
      refine ⟨rfl, hW.row hr ?_ hA hF2⟩
      rw [hM1]
      obtain ⟨⟨a1, a2⟩, ⟨b1, b2⟩, c1, c2⟩ := h0
      obtain ⟨-, -, h2, -, h4, -⟩ := hB
      exact (hW.2.1.keep hF.1.1).up (Or.inr (Or.inl ⟨rfl, by omega⟩))
theorem go_row {M : q_Mem} {k a : Nat} {w : Int} (h : ¬ (3 ≤ a ∧ a < 10)) : goM M k w a = M a := by
  unfold goM
  rw [q_up_ne (by omega), keepM_row (by omega) (by omega)]
theorem Hz.go {M : q_Mem} {k : Nat} {w : Int} (h : Hz M 3) (hB : NowOk M) : Hz (goM M k w) 3 := (h.keep hB).up (Or.inl ⟨rfl, by decide⟩)
theorem P_walk {G : q_G} {d : Nat} {M : q_Mem} {N : q_MemL} {p w : Int} (hd : 20 ≤ d) (hW : WI M) (hp : i32 p) (hw : i32 w) : PR G d m_X10_walk m_X11_walk [I p, I w] M N := by
  have hF := hW.1
  refine (C_walk (by omega) hF.1.1 hp hw).cv (fun x M1 N1 hx => ?_)
  have hc : (¬ walkOk M p w ∧ x = I (-1) ∧ M1 = M) ∨ (walkOk M p w ∧ x = I (g4 (M 3 13) p.toNat + w) ∧ M1 = goM M p.toNat w) := by
    unfold WalkR at hx
    by_cases h : 0 ≤ p ∧ p < M 3 4
    · rw [if_pos h] at hx
      obtain ⟨-, hx⟩ := hx
      rcases hx with ⟨h0, h1, h2⟩ | ⟨h0, h1, h2⟩
      · exact Or.inl ⟨fun z => h0 z.2, h1, h2⟩
      · exact Or.inr ⟨⟨h, h0⟩, h1, h2⟩
    · rw [if_neg h] at hx
      exact Or.inl ⟨fun z => h z.1, hx.1, hx.2.1⟩
  rcases hc with ⟨h0, rfl, rfl⟩ | ⟨h0, rfl, hM1⟩
  · refine ⟨_, rfl, (C_rwalk (by omega) hF hp hw).cv (fun y M2 N2 hy => ?_)⟩
    obtain ⟨-, hy⟩ := hy
    rcases hy with ⟨-, rfl, e⟩ | ⟨h2, -⟩
    · exact ⟨rfl, hW.same e⟩
    · exact absurd h2 h0
  · have hr : ∀ a, ¬ (3 ≤ a ∧ a < 10) → M1 a = M a := fun a ha => by rw [hM1, go_row ha]
    refine ⟨_, rfl, (C_rwalk (by omega) (hF.f1 (fun a ha => hr a (by omega))) hp hw).cv (fun y M2 N2 hy => ?_)⟩
    obtain ⟨-, hy⟩ := hy
    rcases hy with ⟨h2, -⟩ | ⟨-, rfl, hA, hF2⟩
    · exact absurd h0 h2
    · rw [← hM1] at hF2
      exact ⟨rfl, hW.row hr (by rw [hM1]; exact hW.2.1.go hF.1.1) hA hF2⟩
theorem P_push {G : q_G} {d : Nat} {M : q_Mem} {N : q_MemL} {t w : Int} (hd : 20 ≤ d) (hW : WI M) (ht : i32 t) (hw : i32 w) : PR G d m_X10_push m_X11_push [I t, I w] M N := by
  have hF := hW.1
  refine (C_push (by omega) hF.1.1 ht hw).cv (fun x M1 N1 hx => ?_)
  have hc : (¬ pushOk M t w ∧ x = I (-1) ∧ M1 = M) ∨ (pushOk M t w ∧ x = I (g4 (M 3 13) (7 + t.toNat) + w) ∧ M1 = goM M (7 + t.toNat) w) := by
    unfold PushR at hx
    by_cases h : (0 ≤ t ∧ t < M 3 5) ∧ 0 < cnt (fun k => g4 (M 3 13) k = g4 (M 3 13) (7 + t.toNat) ∧ g8 (M 3 12) k = g8 (M 3 12) (7 + t.toNat)) (M 3 4).toNat
    · rw [if_pos h] at hx
      obtain ⟨-, hx⟩ := hx
      rcases hx with ⟨h0, h1, h2⟩ | ⟨h0, h1, h2⟩
      · exact Or.inl ⟨fun z => h0 z.2, h1, h2⟩
      · exact Or.inr ⟨⟨h, h0⟩, h1, h2⟩
    · rw [if_neg h] at hx
      exact Or.inl ⟨fun z => h z.1, hx.1, hx.2.1⟩
  rcases hc with ⟨h0, rfl, rfl⟩ | ⟨h0, rfl, hM1⟩
  · refine ⟨_, rfl, (C_rpush (by omega) hF ht hw).cv (fun y M2 N2 hy => ?_)⟩
    obtain ⟨-, hy⟩ := hy
    rcases hy with ⟨-, rfl, e⟩ | ⟨h2, -⟩
    · exact ⟨rfl, hW.same e⟩
    · exact absurd h2 h0
  · have hr : ∀ a, ¬ (3 ≤ a ∧ a < 10) → M1 a = M a := fun a ha => by rw [hM1, go_row ha]
    refine ⟨_, rfl, (C_rpush (by omega) (hF.f1 (fun a ha => hr a (by omega))) ht hw).cv (fun y M2 N2 hy => ?_)⟩
    obtain ⟨-, hy⟩ := hy
    rcases hy with ⟨h2, -⟩ | ⟨-, rfl, hA, hF2⟩
    · exact absurd h0 h2
    · rw [← hM1] at hF2
      exact ⟨rfl, hW.row hr (by rw [hM1]; exact hW.2.1.go hF.1.1) hA hF2⟩
theorem Hz.tb {M : q_Mem} (h : Hz M 3) : Hz (tbM M 3) 3 := by
  unfold tbM
  dsimp only
  have h4 := (((h.up (a := 3) (i := 15) (z := M 3 15 - 1) (Or.inl ⟨rfl, by decide⟩)).up (a := 3) (i := 11) (z := M (3 + 5) ((M 3 15 - 1) * 5).toNat) (Or.inl ⟨rfl, by decide⟩)).up (a := 3) (i := 12) (z := M (3 + 5) ((M 3 15 - 1) * 5 + 1).toNat) (Or.inl ⟨rfl, by decide⟩)).up (a := 3) (i := 13) (z := M (3 + 5) ((M 3 15 - 1) * 5 + 2).toNat) (Or.inl ⟨rfl, by decide⟩)
  split
  · exact h4.up (Or.inr (Or.inl ⟨rfl, by omega⟩))
  · exact h4
theorem tb_row {M : q_Mem} {a : Nat} (h : ¬ (3 ≤ a ∧ a < 10)) : tbM M 3 a = M a := by
  unfold tbM
  split
  · rw [q_up_ne (by omega), q_up_ne (by omega), q_up_ne (by omega), q_up_ne (by omega), q_up_ne (by omega)]
  · rw [q_up_ne (by omega), q_up_ne (by omega), q_up_ne (by omega), q_up_ne (by omega)]
theorem P_undo {G : q_G} {d : Nat} {M : q_Mem} {N : q_MemL} (hd : 20 ≤ d) (hW : WI M) : PR G d m_X10_undo m_X11_undo [] M N := by
  have hF := hW.1
  have h15 : 0 ≤ M 3 15 ∧ M 3 15 ≤ 20 := hF.1.1.2.2.2.2.2.2.2.2.2.2.1
  refine (C_undo (by omega) hF.1.1).cv (fun x M1 N1 hx => ?_)
  obtain ⟨rfl, hM1, rfl⟩ := hx
  unfold U_undo at hM1
  have hr : ∀ a, ¬ (3 ≤ a ∧ a < 10) → M1 a = M a := fun a ha => by
    rw [hM1]
    split
    · rfl
    · exact tb_row ha
  refine ⟨_, rfl, (C_rundo (by omega) (hF.f1 (fun a ha => hr a (by omega)))).cv (fun y M2 N2 hy => ?_)⟩
  obtain ⟨-, rfl, hy⟩ := hy
  refine ⟨rfl, ?_⟩
  rcases hy with ⟨h0, e⟩ | ⟨h0, hA, hF2⟩
  · rw [if_pos (by omega)] at hM1
    exact hW.same (e.trans hM1)
  · rw [if_neg (by omega)] at hM1
    rw [← hM1] at hF2
    exact hW.row hr (by rw [hM1]; exact hW.2.1.tb) hA hF2
theorem Hz.ru {R M : q_Mem} {o : Nat} (h : Hz M 3) : ∀ n : Nat, Hz (ruN R o M n) 3
  | 0 => h
  | n + 1 => by
    rw [show ruN R o M (n + 1) = ruM R o (ruN R o M n) from rfl]
    unfold ruM strM
    exact (((Hz.ru h n).up (Or.inl ⟨rfl, by decide⟩)).up (Or.inl ⟨rfl, by decide⟩)).up (Or.inl ⟨rfl, by decide⟩)
theorem P_run {G : q_G} {d : Nat} {M : q_Mem} {N : q_MemL} {r n : Int} (hd : 20 ≤ d) (hW : WI M) (hr : i32 r) (hn : i32 n) : PR G d m_X10_run m_X11_run [I r, I n] M N := by
  have hF := hW.1
  obtain ⟨-, hz, -, -, ⟨w1, w2, w3⟩, -⟩ := id hW
  refine (C_run (by omega) hF.1.1 w1 (fun k hk => (w3 k hk).1) hr hn).cv (fun x M1 N1 hx => ?_)
  obtain ⟨-, hx⟩ := hx
  rcases hx with ⟨h0, rfl, rfl⟩ | ⟨h0, rfl, hE, -⟩
  · refine ⟨_, rfl, (C_rrun (by omega) hF w2 w1 w3 hr hn).cv (fun y M2 N2 hy => ?_)⟩
    obtain ⟨-, hy⟩ := hy
    rcases hy with ⟨-, rfl, e⟩ | ⟨h2, -⟩
    · exact ⟨rfl, hW.same e⟩
    · exact absurd h2 h0
  · have e : ∀ a, ¬ a = 3 → ¬ (86 ≤ a ∧ a ≤ 88) → M1 a = M a := fun a ha hb => by rw [hE a (by simp; omega), q_up_ne ha, ruN_row ha]
    refine ⟨_, rfl, (C_rrun (by omega) (hF.f1 (fun a ha => e a (by omega) (by omega))) (by rw [e 112 (by omega) (by omega)]; exact w2) w1 (fun k hk => ⟨(w3 k hk).1, (w3 k hk).2.cg (fun _ _ _ => rfl) (fun a ha => e a (by simp at ha; omega) (by simp at ha; omega))⟩) hr hn).cv (fun y M2 N2 hy => ?_)⟩
    obtain ⟨-, hy⟩ := hy
    rcases hy with ⟨h2, -⟩ | ⟨-, rfl, hF2, hA, hB, -⟩
    · exact absurd h0 h2
    · refine ⟨rfl, hW.act (M1 := M1) (fun a ha hb => e a (by omega) (by omega)) (fun a ha => e a (by omega) (by omega)) ?_ (fun a h3 h10 => (hE a (by simp; omega)).symm) hF2 (fun a ha => hA a (fun z => ha (by simp [aX] at z ⊢; omega))) (fun j hj => hB j (by simp at hj; omega))⟩
      exact ((hz.ru _).up (a := 3) (i := 15) (z := 0) (Or.inl ⟨rfl, by decide⟩)).cg (fun b h1 h2 => hE b (by simp; omega))
theorem P_ear {G : q_G} {d : Nat} {M : q_Mem} {N : q_MemL} {r s v : Int} (hd : 20 ≤ d) (hW : WI M) (hr : i32 r) (hs : i32 s) (hv : i32 v) : PR G d m_X10_ear m_X11_ear [I r, I s, I v] M N := by
  have hF := hW.1
  have h17 : 0 ≤ M 3 17 ∧ M 3 17 ≤ 8 := hF.1.1.2.2.2.2.2.2.2.2.2.2.2.1
  have fin : ∀ (M1 M2 : q_Mem), (∀ a, ¬ (3 ≤ a ∧ a < 10) → M1 a = M a) → Hz M1 3 → Exc [113, 122, 123, 124] M1 M2 → FullR M1 M2 → WI M2 := fun M1 M2 e hz hE hF2 => hW.act (M1 := M1) (B := M1) (fun a _ hb => e a hb) (fun a ha => e a (by omega)) hz (fun _ _ _ => rfl) hF2 (fun a ha => hE a (fun z => ha (by simp [aX] at z ⊢; omega))) (fun j _ => by rw [hE 112 (by decide)])
  refine (C_ear (by omega) hF.1.1 hr hs hv).cv (fun x M1 N1 hx => ?_)
  obtain ⟨rfl, hx⟩ := hx
  have e : ∀ a, ¬ (3 ≤ a ∧ a < 10) → M1 a = M a := fun a ha => by
    rcases hx with ⟨-, -, h⟩ | ⟨-, -, -, h⟩ | ⟨-, -, -, h⟩
    · rw [h, q_up_ne (by omega)]
    · rw [h]
    · rw [h]
      unfold U_ear
      rw [q_up_ne (by omega), q_up_ne (by omega), q_up_ne (by omega), q_up_ne (by omega)]
  have hR := fun {N1 : q_MemL} => C_rear (G := G) (d := d) (N := N1) (by omega) (hF.f1 (fun a ha => e a (by omega))) hr hs hv
  rcases hx with ⟨h0, rfl, hM1⟩ | ⟨h0, h1, rfl, hM1⟩ | ⟨h0, h1, rfl, hM1⟩
  · refine ⟨_, rfl, hR.cv (fun y M2 N2 hy => ?_)⟩
    obtain ⟨-, hy⟩ := hy
    rcases hy with ⟨-, rfl, hE, hF2⟩ | ⟨h2, -⟩ | ⟨h2, -⟩
    · rw [← hM1] at hF2
      exact ⟨rfl, fin M1 M2 e (by rw [hM1]; exact hW.2.1.up (Or.inl ⟨rfl, by decide⟩)) hE hF2⟩
    · exact absurd h0 h2
    · exact absurd h0 h2
  · refine ⟨_, rfl, hR.cv (fun y M2 N2 hy => ?_)⟩
    obtain ⟨-, hy⟩ := hy
    rcases hy with ⟨h2, -⟩ | ⟨-, -, rfl, h3⟩ | ⟨-, h2, -⟩
    · exact absurd h2 h0
    · exact ⟨rfl, hW.same (h3.trans hM1)⟩
    · exact absurd h2 h1
  · refine ⟨_, rfl, hR.cv (fun y M2 N2 hy => ?_)⟩
    obtain ⟨-, hy⟩ := hy
    rcases hy with ⟨h2, -⟩ | ⟨-, h2, -⟩ | ⟨-, -, rfl, hE, hF2⟩
    · exact absurd h2 h0
    · exact absurd h1 h2
    · rw [← hM1] at hF2
      refine ⟨rfl, fin M1 M2 e ?_ hE hF2⟩
      have h8 : M 3 17 < 8 := h1.1
      rw [hM1]
      unfold U_ear
      exact (((hW.2.1.up (Or.inr (Or.inr (Or.inr (Or.inl ⟨rfl, by omega⟩))))).up (Or.inr (Or.inr (Or.inr (Or.inl ⟨rfl, by omega⟩))))).up (Or.inr (Or.inr (Or.inr (Or.inl ⟨rfl, by omega⟩))))).up (Or.inl ⟨rfl, by decide⟩)
theorem P_seed {G : q_G} {d : Nat} {M : q_Mem} {N : q_MemL} {x : Int} (hd : 20 ≤ d) (hW : WI M) (hx : i32 x) : PR G d m_X10_seed m_X11_seed [I x] M N := by
  have hF := hW.1
  have hx0 := hx
  unfold i32 at hx0
  refine (C_seed hx).cv (fun y M1 N1 hy => ?_)
  obtain ⟨rfl, rfl, hM1⟩ := hy
  refine ⟨_, rfl, (C_rseed hx).cv (fun y M2 N2 hy => ?_)⟩
  obtain ⟨rfl, -, hM2⟩ := hy
  unfold A_seed
  by_cases h : x < 0
  · rw [if_pos h] at hM1 hM2
    rw [if_pos h, if_pos h]
    exact ⟨rfl, hW.same (hM2.trans hM1)⟩
  · rw [if_neg h] at hM1 hM2
    rw [if_neg h, if_neg h]
    have e : ∀ a, ¬ a = 3 → M1 a = M a := fun a ha => by rw [hM1, q_up_ne ha]
    refine ⟨by rw [e 113 (by decide), hF.2.1], hW.act (M1 := M1) (B := q_up M 3 18 x) (fun a _ hb => e a (by omega)) (fun a ha => e a (by omega)) (by rw [hM1]; exact hW.2.1.up (Or.inl ⟨rfl, by decide⟩)) (fun a _ _ => by rw [hM1]) ?_ (fun a ha => by rw [hM2, q_up_ne (fun z => ha (by rw [z]; decide))]) (fun j _ => by rw [hM2, q_up_ne (by decide)])⟩
    have := full_seed (z := x) (hF.f1 (fun a ha => e a (by omega))) (by omega)
    rw [← hM2] at this
    exact this


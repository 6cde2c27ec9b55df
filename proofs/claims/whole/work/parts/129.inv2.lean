/-! one state on both sides: questions -/
theorem AC0.cv {G : q_G} {d : Nat} {μ : q_M} {as : List Value} {M : q_Mem} {N : q_MemL} {P P2 : Value → q_Mem → q_MemL → Prop} (hC : AC0 G d μ as M N (CV P)) (h : ∀ x M1 N1, P x M1 N1 → P2 x M1 N1) : AC0 G d μ as M N (CV P2) := by
  refine AC.mono (fun v S1 M1 N1 hq => ?_) hC
  obtain ⟨hS, x, hv, hx⟩ := hq
  exact ⟨hS, x, hv, h x M1 N1 hx⟩
/-- both sides answer alike, and all holds on -/
def PR (G : q_G) (d : Nat) (μ ν : q_M) (as : List Value) (M : q_Mem) (N : q_MemL) : Prop := AC0 G d μ (.ref 0 :: as) M N (CV (fun x M1 N1 => ∃ v : Int32, x = .int v ∧ AC0 G d ν (.ref 112 :: as) M1 N1 (CV (fun y M2 _ => y = .int v ∧ WI M2))))
theorem FullR.f1 {M M1 : q_Mem} (h : FullR M M) (e : ∀ a, 112 ≤ a → M1 a = M a) : FullR M M1 := h.qk (fun a j hj => by rw [e a (by have := (ofR_le a).2 (by omega); omega)]) (by rw [e 112 (by omega)])
theorem PR.q {G : q_G} {d : Nat} {μ ν : q_M} {as : List Value} {M : q_Mem} {N : q_MemL} {X : List Nat} {z : Int} (hW : WI M) (hX : ∀ a, a ∈ X → 92 ≤ a ∧ a < 112) (hS : AC0 G d μ (.ref 0 :: as) M N (CV (fun x M1 _ => x = I z ∧ Exc X M M1))) (hR : ∀ M1 N1, (∀ a, a < 92 ∨ 112 ≤ a → M1 a = M a) → FullR M M1 → AC0 G d ν (.ref 112 :: as) M1 N1 (CV (fun y M2 _ => y = I z ∧ Qk M1 M2))) : PR G d μ ν as M N := by
  refine hS.cv (fun x M1 N1 hx => ?_)
  obtain ⟨rfl, hE⟩ := hx
  have e : ∀ a, a < 92 ∨ 112 ≤ a → M1 a = M a := fun a ha => hE a (fun z => by have := hX a z; omega)
  refine ⟨_, rfl, (hR M1 N1 e (hW.1.f1 (fun a ha => e a (Or.inr ha)))).cv (fun y M2 N2 hy => ?_)⟩
  obtain ⟨rfl, hq⟩ := hy
  exact ⟨rfl, hW.ques e hq⟩
theorem Qk.s143 {M M1 : q_Mem} (h : Exc [143] M M1) : Qk M M1 := Qk.sc h (by decide)
theorem P_person {G : q_G} {d : Nat} {M : q_Mem} {N : q_MemL} {p what : Int} (hd : 20 ≤ d) (hW : WI M) (hp : i32 p) (hwhat : i32 what) : PR G d m_X10_person m_X11_person [I p, I what] M N := by
  have hF := hW.1
  refine PR.q (X := [111]) (z := A_person M p what) hW (by decide) ((C_person (by omega) hF.1.1 hp hwhat).cv (fun x M1 N1 hx => ⟨hx.1, hx.2.2⟩)) (fun M1 N1 e hR => ?_)
  · exact (C_rperson (by omega) hR.1 hp hwhat).cv (fun x M2 N2 hx => ⟨hx.1, Qk.s143 hx.2.2⟩)
theorem P_thing {G : q_G} {d : Nat} {M : q_Mem} {N : q_MemL} {t what : Int} (hd : 20 ≤ d) (hW : WI M) (ht : i32 t) (hwhat : i32 what) : PR G d m_X10_thing m_X11_thing [I t, I what] M N := by
  have hF := hW.1
  refine PR.q (X := [111]) (z := A_thing M t what) hW (by decide) ((C_thing (by omega) hF.1.1 ht hwhat).cv (fun x M1 N1 hx => ⟨hx.1, hx.2.2⟩)) (fun M1 N1 e hR => ?_)
  · exact (C_rthing (by omega) hR.1 ht hwhat).cv (fun x M2 N2 hx => ⟨hx.1, Qk.s143 hx.2.2⟩)
theorem P_storey {G : q_G} {d : Nat} {M : q_Mem} {N : q_MemL} {l : Int} (hd : 20 ≤ d) (hW : WI M) (hl : i32 l) : PR G d m_X10_storey m_X11_storey [I l] M N := by
  have hF := hW.1
  refine PR.q (X := []) (z := A_storey M l) hW (by simp) ((C_storey (by omega) hF.1.1 hl).cv (fun x M1 N1 hx => ?_)) (fun M1 N1 e hR => ?_)
  · obtain ⟨rfl, rfl, rfl⟩ := hx
    exact ⟨rfl, Exc.rf⟩
  · refine (C_rstorey (by omega) hR.1 hl).cv (fun x M2 N2 hx => ?_)
    obtain ⟨rfl, rfl, rfl⟩ := hx
    exact ⟨rfl, Qk.rf⟩
theorem P_at {G : q_G} {d : Nat} {M : q_Mem} {N : q_MemL} {r s : Int} (hd : 20 ≤ d) (hW : WI M) (hr : i32 r) (hs : i32 s) : PR G d m_X10_at m_X11_at [I r, I s] M N := by
  have hF := hW.1
  refine PR.q (X := []) (z := A_at M r s) hW (by simp) ((C_at (by omega) hF.1.1 hr hs).cv (fun x M1 N1 hx => ?_)) (fun M1 N1 e hR => ?_)
  · obtain ⟨rfl, rfl, rfl⟩ := hx
    exact ⟨rfl, Exc.rf⟩
  · refine (C_rat (by omega) hR.1 hr hs).cv (fun x M2 N2 hx => ?_)
    obtain ⟨rfl, rfl, rfl⟩ := hx
    exact ⟨rfl, Qk.rf⟩
theorem P_ahead {G : q_G} {d : Nat} {M : q_Mem} {N : q_MemL} {p n : Int} (hd : 20 ≤ d) (hW : WI M) (hp : i32 p) (hn : i32 n) : PR G d m_X10_ahead m_X11_ahead [I p, I n] M N := by
  have hF := hW.1
  refine PR.q (X := [92]) (z := A_ahead M p n) hW (by decide) ((C_ahead (by omega) hF.1.1 hp hn).cv (fun x M1 N1 hx => ⟨hx.1, hx.2.2⟩)) (fun M1 N1 e hR => ?_)
  · exact (C_rahead (by omega) hR.1 hp hn).cv (fun x M2 N2 hx => ⟨hx.1, hx.2.2⟩)
theorem P_carry {G : q_G} {d : Nat} {M : q_Mem} {N : q_MemL} {t s what : Int} (hd : 20 ≤ d) (hW : WI M) (ht : i32 t) (hs : i32 s) (hwhat : i32 what) : PR G d m_X10_carry m_X11_carry [I t, I s, I what] M N := by
  have hF := hW.1
  refine PR.q (X := caX) (z := A_carry M t s what) hW (by decide) ((C_carry (by omega) hF.1.1 ht hs hwhat).cv (fun x M1 N1 hx => ⟨hx.1, hx.2.2⟩)) (fun M1 N1 e hR => ?_)
  · exact (C_rcarry (by omega) hR.1 hF.2.2.1 ht hs hwhat).cv (fun x M2 N2 hx => ⟨hx.1, hx.2⟩)
theorem P_lifted {G : q_G} {d : Nat} {M : q_Mem} {N : q_MemL} {p : Int} (hd : 20 ≤ d) (hW : WI M) (hp : i32 p) : PR G d m_X10_lifted m_X11_lifted [I p] M N := by
  have hF := hW.1
  refine PR.q (X := [104]) (z := A_lifted M p) hW (by decide) ((C_lifted (by omega) hF.1.1 hp).cv (fun x M1 N1 hx => ⟨hx.1, hx.2.2⟩)) (fun M1 N1 e hR => ?_)
  · exact (C_rlifted (by omega) hR.1 hp).cv (fun x M2 N2 hx => ⟨hx.1, Qk.s143 hx.2.2⟩)
theorem P_each {G : q_G} {d : Nat} {M : q_Mem} {N : q_MemL} {p s : Int} (hd : 20 ≤ d) (hW : WI M) (hp : i32 p) (hs : i32 s) : PR G d m_X10_each m_X11_each [I p, I s] M N := by
  have hF := hW.1
  refine PR.q (X := [104]) (z := A_each M p s) hW (by decide) ((C_each (by omega) hF.1.1 hp hs).cv (fun x M1 N1 hx => ⟨hx.1, hx.2.2⟩)) (fun M1 N1 e hR => ?_)
  · exact (C_reach (by omega) hR.1 hp hs).cv (fun x M2 N2 hx => ⟨hx.1, Qk.s143 hx.2.2⟩)
theorem P_beds {G : q_G} {d : Nat} {M : q_Mem} {N : q_MemL} {s h what : Int} (hd : 20 ≤ d) (hW : WI M) (hs : i32 s) (hh : i32 h) (hwhat : i32 what) : PR G d m_X10_beds m_X11_beds [I s, I h, I what] M N := by
  have hF := hW.1
  refine PR.q (X := [104]) (z := A_beds M s h what) hW (by decide) ((C_beds (by omega) hF.1.1 hs hh hwhat).cv (fun x M1 N1 hx => ⟨hx.1, hx.2.2⟩)) (fun M1 N1 e hR => ?_)
  · exact (C_rbeds (by omega) hR.1 hs hh hwhat).cv (fun x M2 N2 hx => ⟨hx.1, hx.2.2⟩)
theorem P_quiet {G : q_G} {d : Nat} {M : q_Mem} {N : q_MemL} {p what : Int} (hd : 20 ≤ d) (hW : WI M) (hp : i32 p) (hwhat : i32 what) : PR G d m_X10_quiet m_X11_quiet [I p, I what] M N := by
  have hF := hW.1
  refine PR.q (X := [104]) (z := A_quiet M p what) hW (by decide) ((C_quiet (by omega) hF.1.1 hp hwhat).cv (fun x M1 N1 hx => ⟨hx.1, hx.2.2⟩)) (fun M1 N1 e hR => ?_)
  · exact (C_rquiet (by omega) hR.1 hp hwhat).cv (fun x M2 N2 hx => ⟨hx.1, Qk.s143 hx.2.2⟩)
theorem P_thief {G : q_G} {d : Nat} {M : q_Mem} {N : q_MemL} {what : Int} (hd : 20 ≤ d) (hW : WI M) (hwhat : i32 what) : PR G d m_X10_thief m_X11_thief [I what] M N := by
  have hF := hW.1
  refine PR.q (X := thX2) (z := A_thief M what) hW (by decide) ((C_thief (by omega) hF.1.1 hwhat).cv (fun x M1 N1 hx => ⟨hx.1, hx.2.2⟩)) (fun M1 N1 e hR => ?_)
  · exact (C_rthief (by omega) hR.1 hwhat).cv (fun x M2 N2 hx => ⟨hx.1, hx.2.2⟩)
theorem P_nextEar {G : q_G} {d : Nat} {M : q_Mem} {N : q_MemL} {what : Int} (hd : 20 ≤ d) (hW : WI M) (hwhat : i32 what) : PR G d m_X10_nextEar m_X11_nextEar [I what] M N := by
  have hF := hW.1
  refine PR.q (X := thX2) (z := A_nextEar M what) hW (by decide) ((C_nextEar (by omega) hF.1.1 hwhat).cv (fun x M1 N1 hx => ⟨hx.1, hx.2.2⟩)) (fun M1 N1 e hR => ?_)
  · exact (C_rnextEar (by omega) hR.1 hwhat).cv (fun x M2 N2 hx => ⟨hx.1, hx.2.2⟩)
theorem P_fire {G : q_G} {d : Nat} {M : q_Mem} {N : q_MemL} {what : Int} (hd : 20 ≤ d) (hW : WI M) (hwhat : i32 what) : PR G d m_X10_fire m_X11_fire [I what] M N := by
  have hF := hW.1
  refine PR.q (X := [92]) (z := A_fire M what) hW (by decide) ((C_fire (by omega) hF.1.1 hF.2.2.2.1 hwhat).cv (fun x M1 N1 hx => ⟨hx.1, hx.2.2⟩)) (fun M1 N1 e hR => ?_)
  · exact (C_rfire (by omega) hR.1 hF.2.2.2.1 hwhat).cv (fun x M2 N2 hx => ⟨hx.1, hx.2.2⟩)
theorem P_rent {G : q_G} {d : Nat} {M : q_Mem} {N : q_MemL} {s : Int} (hd : 20 ≤ d) (hW : WI M) (hs : i32 s) : PR G d m_X10_rent m_X11_rent [I s] M N := by
  have hF := hW.1
  refine PR.q (X := []) (z := A_rent M s) hW (by simp) ((C_rent (by omega) hF.1.1 hs).cv (fun x M1 N1 hx => ?_)) (fun M1 N1 e hR => ?_)
  · obtain ⟨rfl, rfl, rfl⟩ := hx
    exact ⟨rfl, Exc.rf⟩
  · refine (C_rrent (by omega) hR.1 hs).cv (fun x M2 N2 hx => ?_)
    obtain ⟨rfl, rfl, rfl⟩ := hx
    exact ⟨rfl, Qk.rf⟩
theorem P_highest {G : q_G} {d : Nat} {M : q_Mem} {N : q_MemL} (hd : 20 ≤ d) (hW : WI M)  : PR G d m_X10_highest m_X11_highest [] M N := by
  have hF := hW.1
  refine PR.q (X := []) (z := A_highest M) hW (by simp) ((C_highest (by omega) hF.1.1 ).cv (fun x M1 N1 hx => ?_)) (fun M1 N1 e hR => ?_)
  · obtain ⟨rfl, rfl, rfl⟩ := hx
    exact ⟨rfl, Exc.rf⟩
  · refine (C_rhighest (by omega) hR.1 ).cv (fun x M2 N2 hx => ?_)
    obtain ⟨rfl, rfl, rfl⟩ := hx
    exact ⟨rfl, Qk.rf⟩
theorem P_drawn {G : q_G} {d : Nat} {M : q_Mem} {N : q_MemL} {m n what : Int} (hd : 20 ≤ d) (hW : WI M) (hm : i32 m) (hn : i32 n) (hwhat : i32 what) : PR G d m_X10_drawn m_X11_drawn [I m, I n, I what] M N := by
  have hF := hW.1
  refine PR.q (X := [92]) (z := A_drawn M m n what) hW (by decide) ((C_drawn (by omega) hF.1.1 hm hn hwhat).cv (fun x M1 N1 hx => ⟨hx.1, hx.2.2⟩)) (fun M1 N1 e hR => ?_)
  · exact (C_rdrawn (by omega) hR.1 hR.2.1 hm hn hwhat).cv (fun x M2 N2 hx => ⟨hx.1, hx.2.2⟩)
theorem P_count {G : q_G} {d : Nat} {M : q_Mem} {N : q_MemL} {x : Int} (hd : 20 ≤ d) (hW : WI M) (hx : i32 x) : PR G d m_X10_count m_X11_count [I x] M N := by
  have hF := hW.1
  refine PR.q (X := []) (z := A_count M x) hW (by simp) ((C_count hF.1.1 hx).cv (fun x M1 N1 hx => ?_)) (fun M1 N1 e hR => ?_)
  · obtain ⟨rfl, rfl, rfl⟩ := hx
    exact ⟨rfl, Exc.rf⟩
  · refine (C_rcount (by omega) hR (by obtain ⟨-, -, -, ⟨n, a, b, c, -⟩, -⟩ := hW; rw [e 112 (by omega), c, a]) (by obtain ⟨-, -, -, -, ⟨-, a, -⟩, -⟩ := hW; rw [e 112 (by omega), a]) hx).cv (fun x M2 N2 hx => ?_)
    obtain ⟨rfl, rfl, rfl⟩ := hx
    exact ⟨rfl, Qk.rf⟩
theorem P_loop {G : q_G} {d : Nat} {M : q_Mem} {N : q_MemL} {what : Int} (hd : 20 ≤ d) (hW : WI M) (hw : i32 what) : PR G d m_X10_loop m_X11_loop [I what] M N := by
  have hF := hW.1
  refine (C_loop (by omega) hF.1.1 hw).cv (fun x M1 N1 hx => ?_)
  obtain ⟨rfl, hE, r, rfl, hr⟩ := hx
  have e : ∀ a, a < 92 ∨ 112 ≤ a → M1 a = M a := fun a ha => hE a (by simp; omega)
  refine ⟨_, rfl, (C_rloop (by omega) (hF.f1 (fun a ha => e a (Or.inr ha))).1 hF.2.2.1 hw).cv (fun y M2 N2 hy => ?_)⟩
  obtain ⟨hq, r2, rfl, hr2⟩ := hy
  rw [LoopA_one (show LoopA M what r from hr) hr2]
  exact ⟨rfl, hW.ques e hq⟩
theorem P_meet {G : q_G} {d : Nat} {M : q_Mem} {N : q_MemL} {s st what : Int} (hd : 20 ≤ d) (hW : WI M) (hs : i32 s) (hst : i32 st) (hw : i32 what) : PR G d m_X10_meet m_X11_meet [I s, I st, I what] M N := by
  have hF := hW.1
  refine (C_meet (by omega) hF.1.1 hs hst hw).cv (fun x M1 N1 hx => ?_)
  obtain ⟨rfl, hE, r, rfl, hr⟩ := hx
  have e : ∀ a, a < 92 ∨ 112 ≤ a → M1 a = M a := fun a ha => hE a (by simp; omega)
  refine ⟨_, rfl, (C_rmeet (by omega) (hF.f1 (fun a ha => e a (Or.inr ha))).1 hs hst hw (show MeetQ M s st what r from hr)).cv (fun y M2 N2 hy => ?_)⟩
  obtain ⟨rfl, -, hq⟩ := hy
  exact ⟨rfl, hW.ques e hq⟩


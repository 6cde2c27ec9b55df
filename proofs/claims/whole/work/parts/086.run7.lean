/-! the reference: clauses of a rule -/
/-- a rule on both sides -/
def RuR (B M : q_Mem) (r : Nat) : Prop := M 135 r = B (47 + 6 * r) 6 ∧ ∀ c, c < (B (47 + 6 * r) 6).toNat → (M 140 (12 * r + c) = B (47 + 6 * r + 2) c ∧ M 136 (12 * r + c) = B (47 + 6 * r + 3) c ∧ M 137 (12 * r + c) = B (47 + 6 * r + 4) c ∧ M 138 (12 * r + c) = B (47 + 6 * r + 5) c) ∧ ∀ i : Nat, B (47 + 6 * r + 3) c ≤ i → (i : Int) < B (47 + 6 * r + 5) c → cR (B (47 + 6 * r + 1) i) (M 133 (300 * r + i)) (M 134 (300 * r + i))
theorem RuR.exc {X : List Nat} {B M M1 : q_Mem} {r : Nat} (h : RuR B M r) (hE : Exc X M M1) (hX : ∀ a, a ∈ X → a ∉ [133, 134, 135, 136, 137, 138, 140]) : RuR B M1 r := by
  have f : ∀ a, a ∈ [133, 134, 135, 136, 137, 138, 140] → M1 a = M a := fun a ha => hE a (fun z => hX a z ha)
  unfold RuR at *
  rw [f 133 (by decide), f 134 (by decide), f 135 (by decide), f 136 (by decide), f 137 (by decide), f 138 (by decide), f 140 (by decide)]
  exact h
theorem C_clauseOf {G : q_G} {d : Nat} {B M : q_Mem} {N : q_MemL} {r : Nat} {k : Int} {w : Nat → Int64} (hd : 3 ≤ d) (hr : r < 6) (hC : RuC B (47 + 6 * r)) (hR : RuR B M r) (hk : k = 0 ∨ k = 1) (hw : ∀ j, j < 11 → N 141 j = w j) : AC0 G d m_X11_clauseOf [.ref 112, I r, I k] M N (CV (fun x M' N' => x = I (if firC B (47 + 6 * r) w k (B (47 + 6 * r) 6).toNat 0 = -1 then -1 else 12 * r + firC B (47 + 6 * r) w k (B (47 + 6 * r) 6).toNat 0) ∧ M' = M ∧ ∀ a, ¬ a = 142 → N' a = N a)) := by
  obtain ⟨h6, hC⟩ := hC
  obtain ⟨hR0, hR1⟩ := hR
  refine AC.of (L0 := [_, _, _, none]) pn_X11 (Nat.le_of_ble_eq_true rfl) rfl ?_
  refine st_bipush dX11_clauseOf_0 (by decide) ?_
  refine st_iload_n dX11_clauseOf_2 rfl ?_
  refine st_imul dX11_clauseOf_3 ?_
  refine st_istore_n (L' := [_, _, _, _]) dX11_clauseOf_4 (by decide) rfl rfl ?_
  have loop : ∀ (m c : Nat) (N1 : q_MemL), c + m = (B (47 + 6 * r) 6).toNat → (∀ a, ¬ a = 142 → N1 a = N a) → firC B (47 + 6 * r) w k m c = firC B (47 + 6 * r) w k (B (47 + 6 * r) 6).toNat 0 → AW0 G d m_X11_clauseOf 5 [some (.ref 112), some (I r), some (I k), some (I ((12 * r + c : Nat) : Int))] [] M N1 (CV (fun x M' N' => x = I (if firC B (47 + 6 * r) w k (B (47 + 6 * r) 6).toNat 0 = -1 then -1 else 12 * r + firC B (47 + 6 * r) w k (B (47 + 6 * r) 6).toNat 0) ∧ M' = M ∧ ∀ a, ¬ a = 142 → N' a = N a)) := by
    intro m
    induction m with
    | zero =>
      intro c N1 hc hN hf
      refine st_iload_n dX11_clauseOf_5 rfl ?_
      refine st_bipush dX11_clauseOf_6 (by decide) ?_
      refine st_iload_n dX11_clauseOf_8 rfl ?_
      refine st_imul dX11_clauseOf_9 ?_
      refine st_aload_n dX11_clauseOf_10 rfl ?_
      refine st_getfr dX11_clauseOf_11 f_X11_81 (by first | with_reducible assumption | rfl) (by rfl) ?_
      refine st_iload_n dX11_clauseOf_14 rfl ?_
      first | refine st_ialdK (k' := _) dX11_clauseOf_15 (by first | with_reducible assumption | rfl) rfl (by omega) (hn := by first | decide | omega) ?_ | refine st_iald dX11_clauseOf_15 (by first | with_reducible assumption | rfl) (by omega) (by omega) (hn := by first | decide | omega) ?_
      rw [hR0]
      refine st_iadd dX11_clauseOf_16 ?_
      refine st_icmp_ge (tgt := 75) dX11_clauseOf_17 (by omega) (by omega) rfl (fun h => ?_) (fun h => ?_)
      · refine st_iconst dX11_clauseOf_75 ?_
        refine r_i dX11_clauseOf_76 rfl ⟨?_, rfl, hN⟩
        rw [← hf]
        rfl
      · skip
        omega
    | succ m ih =>
      intro c N1 hc hN hf
      rw [firC_s] at hf
      obtain ⟨hkc, s, t, e, es, et, ee, hst, hte, he, -, hty⟩ := hC c (by omega)
      obtain ⟨⟨r2, r3, r4, r5⟩, hcR⟩ := hR1 c (by omega)
      have nx : (∀ N2 : q_MemL, (∀ a, ¬ a = 142 → N2 a = N a) → ¬ (B (47 + 6 * r + 2) c = k ∧ holdsC B (47 + 6 * r) w c) → AW0 G d m_X11_clauseOf 69 [some (.ref 112), some (I r), some (I k), some (I ((12 * r + c : Nat) : Int))] [] M N2 (CV (fun x M' N' => x = I (if firC B (47 + 6 * r) w k (B (47 + 6 * r) 6).toNat 0 = -1 then -1 else 12 * r + firC B (47 + 6 * r) w k (B (47 + 6 * r) 6).toNat 0) ∧ M' = M ∧ ∀ a, ¬ a = 142 → N' a = N a))) := by
        intro N2 hN2 hn
        rw [if_neg hn] at hf
        refine st_iinc (L' := [_, _, _, _]) dX11_clauseOf_69 rfl (by decide) rfl rfl ?_
        refine st_goto (tgt := 5) dX11_clauseOf_72 rfl ?_
        exact AW.to (ih (c + 1) N2 (by omega) hN2 hf) (h2 := by simp; exact congrArg zi (by omega))
      have yes : (∀ N2 : q_MemL, (∀ a, ¬ a = 142 → N2 a = N a) → (B (47 + 6 * r + 2) c = k ∧ holdsC B (47 + 6 * r) w c) → AW0 G d m_X11_clauseOf 67 [some (.ref 112), some (I r), some (I k), some (I ((12 * r + c : Nat) : Int))] [] M N2 (CV (fun x M' N' => x = I (if firC B (47 + 6 * r) w k (B (47 + 6 * r) 6).toNat 0 = -1 then -1 else 12 * r + firC B (47 + 6 * r) w k (B (47 + 6 * r) 6).toNat 0) ∧ M' = M ∧ ∀ a, ¬ a = 142 → N' a = N a))) := by
        intro N2 hN2 hn
        rw [if_pos hn] at hf
        refine st_iload_n dX11_clauseOf_67 rfl ?_
        refine r_i dX11_clauseOf_68 rfl ⟨?_, rfl, hN2⟩
        rw [← hf, if_neg (by omega)]
        congr 1
      refine st_iload_n dX11_clauseOf_5 rfl ?_
      refine st_bipush dX11_clauseOf_6 (by decide) ?_
      refine st_iload_n dX11_clauseOf_8 rfl ?_
      refine st_imul dX11_clauseOf_9 ?_
      refine st_aload_n dX11_clauseOf_10 rfl ?_
      refine st_getfr dX11_clauseOf_11 f_X11_81 (by first | with_reducible assumption | rfl) (by rfl) ?_
      refine st_iload_n dX11_clauseOf_14 rfl ?_
      first | refine st_ialdK (k' := _) dX11_clauseOf_15 (by first | with_reducible assumption | rfl) rfl (by omega) (hn := by first | decide | omega) ?_ | refine st_iald dX11_clauseOf_15 (by first | with_reducible assumption | rfl) (by omega) (by omega) (hn := by first | decide | omega) ?_
      rw [hR0]
      refine st_iadd dX11_clauseOf_16 ?_
      refine st_icmp_ge (tgt := 75) dX11_clauseOf_17 (by omega) (by omega) rfl (fun h => ?_) (fun h => ?_)
      · skip
        omega
      · refine st_aload_n dX11_clauseOf_20 rfl ?_
        refine st_getfr dX11_clauseOf_21 f_X11_96 (by first | with_reducible assumption | rfl) (by rfl) ?_
        refine st_iload_n dX11_clauseOf_24 rfl ?_
        refine st_zald dX11_clauseOf_25 sh_140 (by omega) (by omega) ?_ (by decide)
        rw [show ((12 * r + c : Nat) : Int).toNat = 12 * r + c from Int.toNat_natCast _, r2]
        refine st_iload_n dX11_clauseOf_26 rfl ?_
        refine st_icmp_ne (tgt := 69) dX11_clauseOf_27 (by omega) (by omega) rfl (fun h2 => ?_) (fun h2 => ?_)
        · skip
          exact nx N1 hN (fun z => h2 z.1)
        · refine st_aload_n dX11_clauseOf_30 rfl ?_
          refine st_getfr dX11_clauseOf_31 f_X11_87 (by first | with_reducible assumption | rfl) (by rfl) ?_
          refine st_iload_n dX11_clauseOf_34 rfl ?_
          refine st_ialdK (k' := 12 * r + c) dX11_clauseOf_35 sh_137 (by omega) (by omega) (hn := by decide) ?_
          rw [r4, et]
          refine st_aload_n dX11_clauseOf_36 rfl ?_
          refine st_getfr dX11_clauseOf_37 f_X11_90 (by first | with_reducible assumption | rfl) (by rfl) ?_
          refine st_iload_n dX11_clauseOf_40 rfl ?_
          refine st_ialdK (k' := 12 * r + c) dX11_clauseOf_41 sh_138 (by omega) (by omega) (hn := by decide) ?_
          rw [r5, ee]
          refine st_icmp_eq (tgt := 67) dX11_clauseOf_42 (by omega) (by omega) rfl (fun h3 => ?_) (fun h3 => ?_)
          · skip
            exact yes N1 hN ⟨by omega, holdsC_iff.2 (Or.inl (by omega))⟩
          · refine st_aload_n dX11_clauseOf_45 rfl ?_
            refine st_iload_n dX11_clauseOf_46 rfl ?_
            refine st_aload_n dX11_clauseOf_47 rfl ?_
            refine st_getfr dX11_clauseOf_48 f_X11_87 (by first | with_reducible assumption | rfl) (by rfl) ?_
            refine st_iload_n dX11_clauseOf_51 rfl ?_
            refine st_ialdK (k' := 12 * r + c) dX11_clauseOf_52 sh_137 (by omega) (by omega) (hn := by decide) ?_
            rw [r4, et]
            refine st_aload_n dX11_clauseOf_53 rfl ?_
            refine st_getfr dX11_clauseOf_54 f_X11_90 (by first | with_reducible assumption | rfl) (by rfl) ?_
            refine st_iload_n dX11_clauseOf_57 rfl ?_
            refine st_ialdK (k' := 12 * r + c) dX11_clauseOf_58 sh_138 (by omega) (by omega) (hn := by decide) ?_
            rw [r5, ee, show (e : Int) = ((t + (e - t) : Nat) : Int) by omega]
            refine c_V3i (d' := d - 1) dX11_clauseOf_59 l_X11_378 k_X11_answer i_X11_answer (Or.inl ⟨_, _, _, _, _, (by first | with_reducible assumption | rfl), by rfl⟩) (by omega) (Nat.le_of_ble_eq_true rfl) (C_ranswer (f := B (47 + 6 * r + 1)) (t := true) (w := w) (by omega) hr (by omega) (fun j hj => by rw [hN 141 (by decide)]; exact hw j hj) (fun i i1 i2 => hcR i (by omega) (by omega)) (hty.resolve_left (by omega))) (fun x M2 N2 hx => ?_)
            obtain ⟨y, hy, hv, rfl, rfl, hN2⟩ := hx
            have hN3 : ∀ a, ¬ a = 142 → N2 a = N a := fun a ha => (hN2 a ha).trans (hN a ha)
            have hy2 : holdsC B (47 + 6 * r) w c ↔ y = 1 := by
              rw [holdsC_iff, et, ee, Int.toNat_natCast, Int.toNat_natCast, hy]
              constructor
              · rintro (z | z)
                · omega
                · exact (List.cons.inj z).1
              · rintro rfl
                exact Or.inr rfl
            have hcr := cmpL_rng y 1
            refine st_lc1K dX11_clauseOf_62 ?_
            refine AW.topv (show _ = Value.long 1 from rfl) ?_
            refine st_lcmpL dX11_clauseOf_63 ?_
            refine st_if_ne (tgt := 69) dX11_clauseOf_64 (by omega) rfl (fun h4 => ?_) (fun h4 => ?_)
            · skip
              refine nx N2 hN3 (fun z => h4 ?_)
              rw [hy2.1 z.2]
              exact cmpL_rf 1
            · skip
              refine yes N2 hN3 ⟨by omega, ?_⟩
              rcases hv.1 rfl with rfl | rfl
              · exact absurd h4 (by decide)
              · exact hy2.2 rfl
  exact AW.to (loop (B (47 + 6 * r) 6).toNat 0 N (by omega) (fun _ _ => rfl) rfl) (h2 := by simp)
theorem RN.room {H M : q_Mem} {q : Nat} {z : Int} (h : RN H M) (hq : q < (H 3 4).toNat) (hz : 0 ≤ z ∧ z < 4) : RN (q_up H 3 13 (w4 (H 3 13) q z)) (q_up M 115 q z) := by
  obtain ⟨hB, hT, hP, hW, hb6⟩ := h
  obtain ⟨h0, h1, h2, h3, h4, h5, h6, h11, h12, h13, -⟩ := id hB
  have f : ∀ j, ¬ j = 13 → q_up H 3 13 (w4 (H 3 13) q z) 3 j = H 3 j := fun j hj => by simp [q_up, hj]
  have r : ∀ a, a ≠ 3 → q_up H 3 13 (w4 (H 3 13) q z) a = H a := fun a ha => q_up_ne ha
  have hE : Exc [115] M (q_up M 115 q z) := Exc.up (by decide)
  refine ⟨hB.f13 (w4_lt h13 (by omega) hz), ?_, ⟨fun q' hq' => ?_, fun t ht => ?_⟩, ?_, ?_⟩
  · refine RT.to hT (fun j hj => f j ?_) (r 4 (by decide)) (r 5 (by decide)) (r 6 (by decide)) (r 9 (by decide)) hE (fun j _ _ => by rw [hE 113 (by decide)]) (by decide) (fun q' h' hq' hh' => ?_)
    · intro e; subst e; simp at hj
    · rw [r 7 (by decide), hE 117 (by decide)]
      exact (hT.2.2.1 q' hq').1 h' hh'
  · rw [f 4 (by decide)] at hq'
    rw [show q_up H 3 13 (w4 (H 3 13) q z) 3 13 = w4 (H 3 13) q z by simp [q_up], g4_w4 h13 (by omega) hz]
    by_cases e : q' = q
    · rw [if_pos e, e]; simp [q_up]
    · rw [if_neg e, ← hP.1 q' hq']; simp [q_up, e]
  · rw [f 5 (by decide)] at ht
    rw [show q_up H 3 13 (w4 (H 3 13) q z) 3 13 = w4 (H 3 13) q z by simp [q_up], g4_w4 h13 (by omega) hz, if_neg (by omega), hE 119 (by decide)]
    exact hP.2 t ht
  · rw [f 12 (by decide)]
    exact (hW.exc hE (by decide) (by decide)).home ⟨f 4 (by decide), f 5 (by decide)⟩
  · rw [hE 113 (by decide), f 11 (by decide)]
    exact hb6


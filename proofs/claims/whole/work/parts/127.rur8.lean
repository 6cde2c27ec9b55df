/-! the reference reads a rule: all of it -/
theorem C_goE2 {G : q_G} {d : Nat} {V : q_Mem} {N : q_MemL} {n : Nat} {F : Int} (hd : 2 ≤ d) (h : RE2 V n F) : AC0 G d m_X11_goesOn [.ref 112] V N (CV (fun x V1 N1 => N1 = N ∧ x = I 0 ∧ Exc [112] V V1 ∧ fx V V1 ∧ V1 112 22 = F)) := by
  obtain ⟨a, b, c, e, f, g⟩ := h
  obtain ⟨p, hp⟩ : ∃ p : Nat, V 112 21 = (p : Int) := ⟨(V 112 21).toNat, by omega⟩
  refine AC.mono (fun v S' M' N' hq => ?_) (C_goesOn0 hd a b hp (by omega) (by rw [e]; exact f) (by rw [e]; unfold i32; omega))
  obtain ⟨hS, x, hv, hN, hx, hM⟩ := hq
  exact ⟨hS, x, hv, hN, hx, by rw [hM]; exact Exc.up (by simp), by rw [hM]; exact fx.up (by simp), by rw [hM]; simp [q_up, e]⟩
/-- the clauses told so far, at the reference -/
def KRr (s : Nat) (V : q_Mem) (L : List CL) : Prop := ∀ j, j < L.length → V 140 (12 * s + j) = (L.getD j cl0).1 ∧ V 136 (12 * s + j) = ((L.getD j cl0).2.1 : Nat) ∧ V 137 (12 * s + j) = ((L.getD j cl0).2.2.1 : Nat) ∧ V 138 (12 * s + j) = ((L.getD j cl0).2.2.2 : Nat)
theorem KRr.push {s : Nat} {V V1 : q_Mem} {L : List CL} {l : CL} (h : KRr s V L) (hl : rcL s L.length V V1 l) : KRr s V1 (L ++ [l]) := by
  obtain ⟨h1, h2, h3, h4⟩ := hl
  intro j hj
  rw [List.length_append] at hj
  simp only [List.length_cons, List.length_nil] at hj
  rw [h1, h2, h3, h4]
  unfold upR
  by_cases e : j = L.length
  · rw [if_pos (by omega), if_pos (by omega), if_pos (by omega), if_pos (by omega), e]
    simp [List.getD_eq_getElem?_getD]
  · rw [if_neg (by omega), if_neg (by omega), if_neg (by omega), if_neg (by omega)]
    have := h j (by omega)
    rw [show (L ++ [l]).getD j cl0 = L.getD j cl0 by rw [List.getD_eq_getElem?_getD, List.getD_eq_getElem?_getD, List.getElem?_append_left (by omega)]]
    exact this
theorem KRr.exc {s : Nat} {X : List Nat} {V V1 : q_Mem} {L : List CL} (h : KRr s V L) (hE : Exc X V V1) (hX : 136 ∉ X ∧ 137 ∉ X ∧ 138 ∉ X ∧ 140 ∉ X) : KRr s V1 L := by
  unfold KRr at *
  rw [hE 136 hX.1, hE 137 hX.2.1, hE 138 hX.2.2.1, hE 140 hX.2.2.2]
  exact h
/-- entries at the reference -/
def ERr (s : Nat) (V : q_Mem) (E : List Int) : Prop := ∀ i, i < E.length → cR (E.getD i 0) (V 133 (300 * s + i)) (V 134 (300 * s + i))
/-- what the reading of a rule changes at the reference -/
def RU1 (s : Nat) (V V1 : q_Mem) : Prop := RFk s [112, 133, 134, 135, 136, 137, 138, 139, 140] [20, 21, 22, 23, 24, 25, 26, 27, 28] V V1 ∧ rcR s V V1 ∧ ∀ j, ¬ j = s → V1 135 j = V 135 j
theorem RCk.ru {s : Nat} {V V1 : q_Mem} (h : RCk s V V1) : RU1 s V V1 := ⟨RFk.sub h.1 (by decide) (by decide), h.2, fun j _ => by rw [h.1.1 135 (by decide)]⟩
theorem RU1.tr {s : Nat} {V V1 V2 : q_Mem} (h : RU1 s V V1) (h2 : RU1 s V1 V2) : RU1 s V V2 := ⟨h.1.tr h2.1, fun j hj => by
  obtain ⟨a, b, c, e⟩ := h.2.1 j hj
  obtain ⟨a2, b2, c2, e2⟩ := h2.2.1 j hj
  exact ⟨a2.trans a, b2.trans b, c2.trans c, e2.trans e⟩, fun j hj => (h2.2.2 j hj).trans (h.2.2 j hj)⟩
theorem RU1.up {s i : Nat} {V : q_Mem} {z : Int} (hi : i ∈ [20, 21, 22, 23, 24, 25, 26, 27, 28]) : RU1 s V (q_up V 112 i z) := ⟨RFk.up (by simp) hi, fun j _ => by
  rw [q_up_ne (by decide), q_up_ne (by decide), q_up_ne (by decide), q_up_ne (by decide)]
  exact ⟨rfl, rfl, rfl, rfl⟩, fun j _ => by rw [q_up_ne (by decide)]⟩
theorem RU1.cl {s : Nat} {V : q_Mem} {z : Int} : RU1 s V (q_up V 135 s z) := ⟨RFk.upr (by simp) (by decide), fun j _ => by
  rw [q_up_ne (by decide), q_up_ne (by decide), q_up_ne (by decide), q_up_ne (by decide)]
  exact ⟨rfl, rfl, rfl, rfl⟩, fun j hj => by
  simp only [q_up]
  rw [if_neg (by omega)]⟩
theorem RU1.fx {s : Nat} {V V1 : q_Mem} (hf : fx V V1) (hE : Exc [112] V V1) : RU1 s V V1 := (RS2.rc (RS1.to (hf.rs hE))).ru
def rrQ (s n : Nat) (f : Nat → Int) (V : q_Mem) (x : Value) (V1 : q_Mem) : Prop := RU1 s V V1 ∧ V1 112 20 = 0 ∧ ((∃ E L, ruT f n = .ok (E, L) ∧ x = I s ∧ V1 112 24 = (s : Int) + 1 ∧ V1 135 s = (L.length : Int) ∧ KRr s V1 L ∧ ERr s V1 E) ∨ ∃ F, ruT f n = .error F ∧ x = I (-2 - F) ∧ V1 112 24 = (s : Int))
theorem C_rrule {G : q_G} {d : Nat} {V : q_Mem} {N : q_MemL} {f : Nat → Int} {n : Nat} (hd : 12 ≤ d) (hf : V 132 = f) (hb : tyB f n) (hn : V 112 20 = (n : Int)) (hn2 : n ≤ 400) (h29 : V 112 29 = 11) (h6 : 0 ≤ V 112 24 ∧ V 112 24 ≤ 6) : AC0 G d m_X11_rule [.ref 112] V N (CV (fun x V1 N1 => N1 = N ∧ ((V 112 24 = 6 ∧ x = I (-1) ∧ V1 = V) ∨ (V 112 24 < 6 ∧ rrQ (V 112 24).toNat n f V x V1)))) := by
  obtain ⟨s, hs⟩ : ∃ s : Nat, V 112 24 = (s : Int) := ⟨(V 112 24).toNat, by omega⟩
  rw [hs, Int.toNat_natCast]
  refine AC.of (L0 := [_, none, none]) pn_X11 (Nat.le_of_ble_eq_true rfl) rfl ?_
  refine st_aload_n dX11_rule_0 rfl ?_
  refine st_getfi dX11_rule_1 f_X11_372 (by first | with_reducible assumption | rfl) (by rfl) ?_
  rw [hs]
  refine st_bipush dX11_rule_4 (by decide) ?_
  refine st_icmp_ne (tgt := 11) dX11_rule_6 (by omega) (by omega) rfl (fun c1 => ?_) (fun c1 => ?_)
  · refine st_aload_n dX11_rule_11 rfl ?_
    refine st_aload_n dX11_rule_12 rfl ?_
    refine st_getfi dX11_rule_13 f_X11_372 (by first | with_reducible assumption | rfl) (by rfl) ?_
    have hs5 : s ≤ 5 := by omega
    rw [hs]
    refine st_putfi dX11_rule_16 w_X11_250 (by first | with_reducible assumption | rfl) (by rfl) rfl rfl ?_
    refine st_aload_n dX11_rule_19 rfl ?_
    refine c_V0v (d' := d - 1) dX11_rule_20 l_X11_341 k_X11_starts i_X11_starts (Or.inl ⟨_, _, _, _, _, (by first | with_reducible assumption | rfl), by rfl⟩) (by omega) (Nat.le_of_ble_eq_true rfl) (C_starts) (fun V1 N1 hx => ?_)
    obtain ⟨rfl, hV1⟩ := hx
    have R1 : RU1 s V V1 := by
      rw [hV1]
      exact (((((RU1.up (by simp)).tr (RU1.up (by simp))).tr (RU1.up (by simp))).tr (RU1.up (by simp))).tr (RU1.up (by simp))).tr (RU1.up (by simp))
    have hfV : ∀ {V2 : q_Mem}, RU1 s V V2 → V2 132 = f := fun h => by
      rw [h.1.1 132 (by decide)]
      exact hf
    have P1 : RP1 V1 n 0 := by
      rw [hV1]
      exact ⟨by simp [q_up, hn], hn2, by simp [q_up], by omega, by simp [q_up]⟩
    have W1 : VR s 0 [] V1 := by
      rw [hV1]
      exact ⟨by simp [q_up], by simp [q_up], by simp [q_up], by simp [q_up, h29], fun i hi => by simp at hi⟩
    have z1 : V1 112 26 = 0 := by rw [hV1]; simp [q_up]
    have q24 : V1 112 24 = (s : Int) := by rw [hV1]; simp [q_up, hs]
    have q23 : V1 112 23 = (s : Int) := by rw [hV1]; simp [q_up]
    -- the end
    have fin : ∀ (V2 : q_Mem) (k : Nat), RCk s V1 V2 → k ≤ 13 → ((∃ E L, ruT f n = .ok (E, L) ∧ V2 112 22 = 0 ∧ L.length = k ∧ KRr s V2 L ∧ ERr s V2 E) ∨ ∃ F, ruT f n = .error F ∧ V2 112 22 = F ∧ 0 < F ∧ F ≤ 3300) → AW0 G d m_X11_rule 47 [some (.ref 112), some (I k), some (I 0)] [] V2 N1 (CV (fun x V1 N2 => N2 = N1 ∧ (((s : Int) = 6 ∧ x = I (-1) ∧ V1 = V) ∨ ((s : Int) < 6 ∧ rrQ s n f V x V1)))) := by
      intro V2 k R2 hk hr
      have h24 : V2 112 24 = (s : Int) := by rw [R2.1.2.1 24 (by decide)]; exact q24
      have h23 : V2 112 23 = (s : Int) := by rw [R2.1.2.1 23 (by decide)]; exact q23
      have hR : RU1 s V (q_up (q_up V2 112 20 0) 135 s (k : Int)) := (R1.tr R2.ru).tr ((RU1.up (by simp)).tr RU1.cl)
      refine st_aload_n dX11_rule_47 rfl ?_
      refine st_iconst dX11_rule_48 ?_
      refine st_putfi dX11_rule_49 w_X11_194 (by first | with_reducible assumption | rfl) (by rfl) rfl rfl ?_
      refine st_aload_n dX11_rule_52 rfl ?_
      refine st_getfr dX11_rule_53 f_X11_81 (by first | with_reducible assumption | rfl) (by rfl) ?_
      refine st_aload_n dX11_rule_56 rfl ?_
      refine st_getfi dX11_rule_57 f_X11_250 (by first | with_reducible assumption | rfl) (by rfl) ?_
      rw [show q_up V2 112 20 0 112 23 = (s : Int) by simp [q_up, h23]]
      refine st_iload_n dX11_rule_60 rfl ?_
      refine st_iastK (k' := s) dX11_rule_61 (by first | with_reducible assumption | rfl) rfl (by omega) (hn := by decide) ?_
      refine st_aload_n dX11_rule_62 rfl ?_
      refine st_dup dX11_rule_63 rfl ?_
      refine st_getfi dX11_rule_64 f_X11_372 (by first | with_reducible assumption | rfl) (by rfl) ?_
      rw [show q_up (q_up V2 112 20 0) 135 s (k : Int) 112 24 = (s : Int) by rw [q_up_ne (by decide)]; simp [q_up, h24]]
      refine st_aload_n dX11_rule_67 rfl ?_
      refine st_getfi dX11_rule_68 f_X11_220 (by first | with_reducible assumption | rfl) (by rfl) ?_
      rw [show q_up (q_up V2 112 20 0) 135 s (k : Int) 112 22 = V2 112 22 by rw [q_up_ne (by decide)]; simp [q_up]]
      rcases hr with ⟨E, L, k1, k2, k3, k4, k5⟩ | ⟨F, k1, k2, k3, k4⟩
      · rw [k2]
        refine st_if_ne (tgt := 78) dX11_rule_71 (by omega) rfl (fun c2 => ?_) (fun c2 => ?_)
        · skip
          exact absurd rfl c2
        · refine st_iconst dX11_rule_74 ?_
          refine st_goto (tgt := 79) dX11_rule_75 rfl ?_
          refine st_iadd dX11_rule_79 ?_
          refine st_putfi dX11_rule_80 w_X11_372 (by first | with_reducible assumption | rfl) (by rfl) rfl rfl ?_
          refine st_aload_n dX11_rule_83 rfl ?_
          refine st_getfi dX11_rule_84 f_X11_220 (by first | with_reducible assumption | rfl) (by rfl) ?_
          rw [show q_up (q_up (q_up V2 112 20 0) 135 s (k : Int)) 112 24 ((s : Int) + 1) 112 22 = 0 by simp [q_up]; exact k2]
          refine st_if_le (tgt := 100) dX11_rule_87 (by omega) rfl (fun c3 => ?_) (fun c3 => ?_)
          · refine st_aload_n dX11_rule_100 rfl ?_
            refine st_getfi dX11_rule_101 f_X11_372 (by first | with_reducible assumption | rfl) (by rfl) ?_
            rw [show q_up (q_up (q_up V2 112 20 0) 135 s (k : Int)) 112 24 ((s : Int) + 1) 112 24 = (s : Int) + 1 by simp [q_up]]
            refine st_iconst dX11_rule_104 ?_
            refine st_isub dX11_rule_105 ?_
            rw [show (s : Int) + 1 - 1 = (s : Int) by omega]
            refine r_i dX11_rule_106 rfl ⟨rfl, Or.inr ⟨by omega, hR.tr (RU1.up (by simp)), by simp [q_up], Or.inl ⟨E, L, k1, rfl, by simp [q_up], ?_, ?_, ?_⟩⟩⟩
            · simp [q_up]
              omega
            · have hE : Exc [112, 135] V2 (q_up (q_up (q_up V2 112 20 0) 135 s (k : Int)) 112 24 ((s : Int) + 1)) := ((Exc.up (by simp)).tr (Exc.up (by simp))).tr (Exc.up (by simp))
              exact k4.exc hE (by simp)
            · unfold ERr
              rw [q_up_ne (by decide), q_up_ne (by decide), q_up_ne (by decide), q_up_ne (by decide), q_up_ne (by decide), q_up_ne (by decide)]
              exact k5
          · skip
            omega
      · rw [k2]
        refine st_if_ne (tgt := 78) dX11_rule_71 (by omega) rfl (fun c2 => ?_) (fun c2 => ?_)
        · refine st_iconst dX11_rule_78 ?_
          refine st_iadd dX11_rule_79 ?_
          refine st_putfi dX11_rule_80 w_X11_372 (by first | with_reducible assumption | rfl) (by rfl) rfl rfl ?_
          refine st_aload_n dX11_rule_83 rfl ?_
          refine st_getfi dX11_rule_84 f_X11_220 (by first | with_reducible assumption | rfl) (by rfl) ?_
          rw [show q_up (q_up (q_up V2 112 20 0) 135 s (k : Int)) 112 24 ((s : Int) + 0) 112 22 = F by simp [q_up]; exact k2]
          refine st_if_le (tgt := 100) dX11_rule_87 (by omega) rfl (fun c3 => ?_) (fun c3 => ?_)
          · skip
            omega
          · refine st_bipush dX11_rule_90 (by decide) ?_
            refine st_aload_n dX11_rule_92 rfl ?_
            refine st_getfi dX11_rule_93 f_X11_220 (by first | with_reducible assumption | rfl) (by rfl) ?_
            rw [show q_up (q_up (q_up V2 112 20 0) 135 s (k : Int)) 112 24 ((s : Int) + 0) 112 22 = F by simp [q_up]; exact k2]
            refine st_isub dX11_rule_96 ?_
            refine st_goto (tgt := 106) dX11_rule_97 rfl ?_
            refine r_i dX11_rule_106 rfl ⟨rfl, Or.inr ⟨by omega, hR.tr (RU1.up (by simp)), by simp [q_up], Or.inr ⟨F, k1, rfl, by simp [q_up]⟩⟩⟩
        · skip
          omega
    have hf1 : V1 132 = f := hfV R1
    have tbs : ∀ {V2 : q_Mem}, RCk s V1 V2 → tb (fun _ => f) V2 n := fun h j hj => by
      rw [h.r132 hf1]
      exact ⟨rfl, hb j hj⟩
    have loop : ∀ (m p c : Nat) (E : List Int) (L : List CL) (V2 : q_Mem), L.length + m = 13 → L.length ≤ 12 → RP1 V2 n p → VR s c E V2 → V2 112 26 = 0 → RCk s V1 V2 → KRr s V2 L → c ≤ 60 → E.length ≤ 2 * c + p / 3 → ruP f n m p c E L = ruT f n → AW0 G d m_X11_rule 27 [some (.ref 112), some (I L.length), some (I 1)] [] V2 N1 (CV (fun x V1 N2 => N2 = N1 ∧ (((s : Int) = 6 ∧ x = I (-1) ∧ V1 = V) ∨ ((s : Int) < 6 ∧ rrQ s n f V x V1)))) := by
      intro m
      induction m with
      | zero =>
        intro p c E L V2 hm h12
        exfalso
        omega
      | succ m ih =>
        intro p c E L V2 hm h12 P2 W2 z2 R2 K2 hc hE e
        rw [ruP_s] at e
        refine st_iload_n dX11_rule_27 rfl ?_
        refine st_if_eq (tgt := 47) dX11_rule_28 (by omega) rfl (fun c2 => ?_) (fun c2 => ?_)
        · skip
          exact absurd c2 (by decide)
        · refine st_aload_n dX11_rule_31 rfl ?_
          refine st_iload_n dX11_rule_32 rfl ?_
          refine c_V1v (d' := d - 1) dX11_rule_33 l_X11_375 k_X11_ruleClause i_X11_ruleClause (Or.inl ⟨_, _, _, _, _, (by first | with_reducible assumption | rfl), by rfl⟩) (by omega) (Nat.le_of_ble_eq_true rfl) (C_rclauseR (by omega) (R2.r132 hf1) hb P2 W2 hs5 z2 hc hE h12) (fun V3 N3 hx => ?_)
          obtain ⟨rfl, R3, hx⟩ := hx
          have R3' := R2.tr R3
          rcases hx with ⟨p1, c1', E1, l, k1, P3, W3, z3, hl⟩ | ⟨F, k1, P3⟩
          · rw [k1] at e
            dsimp only at e
            obtain ⟨a1, a2, a3, a4, a5, a6, X, a7⟩ := clP_ok P2.2.2.2.1 hc hE k1
            have hsk := skip_le f n p1
            refine st_iinc (L' := [_, _, _]) dX11_rule_36 rfl (by decide) rfl rfl ?_
            refine st_aload_n dX11_rule_39 rfl ?_
            refine c_V0i (d' := d - 1) dX11_rule_40 l_X11_347 k_X11_goesOn i_X11_goesOn (Or.inl ⟨_, _, _, _, _, (by first | with_reducible assumption | rfl), by rfl⟩) (by omega) (Nat.le_of_ble_eq_true rfl) (C_goT (B := fun _ => f) (by omega) P3 (tbs R3')) (fun x V4 N4 hx => ?_)
            obtain ⟨rfl, E4, f4, -, hx⟩ := hx
            have R4 := R3'.tr (RS2.rc (RS1.to (f4.rs E4)))
            rcases hx with ⟨b1, rfl, b2, P4⟩ | ⟨b1, b2, rfl, b3⟩ | ⟨b1, b2, rfl, b3⟩
            · rw [if_pos b1] at e
              refine st_istore_n (L' := [_, _, _]) dX11_rule_43 (by decide) rfl rfl ?_
              refine st_goto (tgt := 27) dX11_rule_44 rfl ?_
              refine AW.to (ih _ c1' E1 (L ++ [l]) V4 (by simp; omega) (by simp; omega) P4 (W3.fx f4 E4) (by rw [f4 26 (by decide)]; exact z3) R4 ((K2.push hl).exc E4 (by simp)) a4 (by omega) e) (h2 := by simp)
            · rw [if_neg b1, if_pos b2] at e
              refine st_istore_n (L' := [_, _, _]) dX11_rule_43 (by decide) rfl rfl ?_
              refine st_goto (tgt := 27) dX11_rule_44 rfl ?_
              refine st_iload_n dX11_rule_27 rfl ?_
              refine st_if_eq (tgt := 47) dX11_rule_28 (by omega) rfl (fun c3 => ?_) (fun c3 => ?_)
              · skip
                refine AW.to (fin V4 (L.length + 1) R4 (by omega) (Or.inl ⟨E1, L ++ [l], e.symm, b3, by simp, (K2.push hl).exc E4 (by simp), ?_⟩)) (h2 := by simp)
                have := (W3.fx f4 E4).2.2.2.2
                exact this
              · skip
                exact absurd rfl c3
            · rw [if_neg b1, if_neg b2] at e
              refine st_istore_n (L' := [_, _, _]) dX11_rule_43 (by decide) rfl rfl ?_
              refine st_goto (tgt := 27) dX11_rule_44 rfl ?_
              refine st_iload_n dX11_rule_27 rfl ?_
              refine st_if_eq (tgt := 47) dX11_rule_28 (by omega) rfl (fun c3 => ?_) (fun c3 => ?_)
              · skip
                have := hsk.2.1 a3
                refine AW.to (fin V4 (L.length + 1) R4 (by omega) (Or.inr ⟨_, e.symm, b3, by omega, by omega⟩)) (h2 := by simp)
              · skip
                exact absurd rfl c3
          · rw [k1] at e
            have hF := P3.2.2.2.2
            refine st_iinc (L' := [_, _, _]) dX11_rule_36 rfl (by decide) rfl rfl ?_
            refine st_aload_n dX11_rule_39 rfl ?_
            refine c_V0i (d' := d - 1) dX11_rule_40 l_X11_347 k_X11_goesOn i_X11_goesOn (Or.inl ⟨_, _, _, _, _, (by first | with_reducible assumption | rfl), by rfl⟩) (by omega) (Nat.le_of_ble_eq_true rfl) (C_goE2 (by omega) P3) (fun x V4 N4 hx => ?_)
            obtain ⟨rfl, rfl, E4, f4, b3⟩ := hx
            have R4 := R3'.tr (RS2.rc (RS1.to (f4.rs E4)))
            refine st_istore_n (L' := [_, _, _]) dX11_rule_43 (by decide) rfl rfl ?_
            refine st_goto (tgt := 27) dX11_rule_44 rfl ?_
            refine st_iload_n dX11_rule_27 rfl ?_
            refine st_if_eq (tgt := 47) dX11_rule_28 (by omega) rfl (fun c3 => ?_) (fun c3 => ?_)
            · skip
              refine AW.to (fin V4 (L.length + 1) R4 (by omega) (Or.inr ⟨F, e.symm, b3, by omega, by omega⟩)) (h2 := by simp)
            · skip
              exact absurd rfl c3
    refine st_iconst dX11_rule_23 ?_
    refine st_istore_n (L' := [_, _, _]) dX11_rule_24 (by decide) rfl rfl ?_
    refine st_iconst dX11_rule_25 ?_
    refine st_istore_n (L' := [_, _, _]) dX11_rule_26 (by decide) rfl rfl ?_
    exact AW.to (loop 13 0 0 [] [] V1 rfl (by simp) P1 W1 z1 RCk.rf (fun j hj => by simp at hj) (by omega) (by simp) rfl) (h2 := rfl)
  · refine st_iconst dX11_rule_9 ?_
    refine r_i dX11_rule_10 rfl ⟨rfl, Or.inl ⟨by omega, rfl, rfl⟩⟩


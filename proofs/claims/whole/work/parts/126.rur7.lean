/-! the reference reads a rule: clauses -/
/-- of the rows of clauses those of slot s alone -/
def rcR (s : Nat) (V V1 : q_Mem) : Prop := ∀ j, j < 12 * s ∨ 12 * s + 12 ≤ j → V1 136 j = V 136 j ∧ V1 137 j = V 137 j ∧ V1 138 j = V 138 j ∧ V1 140 j = V 140 j
def RCk (s : Nat) (V V1 : q_Mem) : Prop := RFk s [112, 133, 134, 136, 137, 138, 139, 140] [21, 22, 25, 26, 27, 28] V V1 ∧ rcR s V V1
theorem RCk.tr {s : Nat} {V V1 V2 : q_Mem} (h : RCk s V V1) (h2 : RCk s V1 V2) : RCk s V V2 := ⟨h.1.tr h2.1, fun j hj => by
  obtain ⟨a, b, c, e⟩ := h.2 j hj
  obtain ⟨a2, b2, c2, e2⟩ := h2.2 j hj
  exact ⟨a2.trans a, b2.trans b, c2.trans c, e2.trans e⟩⟩
theorem RCk.rf {s : Nat} {V : q_Mem} : RCk s V V := ⟨RFk.rf, fun _ _ => ⟨rfl, rfl, rfl, rfl⟩⟩
theorem RS2.rc {s : Nat} {V V1 : q_Mem} (h : RS2 s V V1) : RCk s V V1 := ⟨RFk.sub h (by decide) (by decide), fun j _ => by
  rw [h.1 136 (by decide), h.1 137 (by decide), h.1 138 (by decide), h.1 140 (by decide)]
  exact ⟨rfl, rfl, rfl, rfl⟩⟩
theorem RCk.up {s a i : Nat} {V : q_Mem} {z : Int} (ha : a = 136 ∨ a = 137 ∨ a = 138 ∨ a = 140) (hi : 12 * s ≤ i ∧ i < 12 * s + 12) : RCk s V (q_up V a i z) := by
  refine ⟨RFk.upr (by simp; omega) (by omega), fun j hj => ?_⟩
  simp only [q_up]
  rw [if_neg (by omega), if_neg (by omega), if_neg (by omega), if_neg (by omega)]
  exact ⟨rfl, rfl, rfl, rfl⟩
theorem RCk.r132 {s : Nat} {V V1 : q_Mem} {f : Nat → Int} (h : RCk s V V1) (hf : V 132 = f) : V1 132 = f := by
  rw [h.1.1 132 (by decide)]
  exact hf
theorem C_takes {G : q_G} {d : Nat} {V : q_Mem} {N : q_MemL} {f : Nat → Int} {s n p c : Nat} {E : List Int} (hd : 5 ≤ d) (hf : V 132 = f) (hb : tyB f n) (hp : RP1 V n p) (hV : VR s c E V) : AC0 G d m_X11_takes [.ref 112, .ref (1000 + 2 * 24)] V N (CV (fun x V1 N1 => N1 = N ∧ x = Bz (isWd f n (skip f n p) (chL 24) = true) ∧ RS1 s V V1 ∧ RP1 V1 n (if isWd f n (skip f n p) (chL 24) = true then skip f n p + 2 else skip f n p) ∧ VR s c E V1 ∧ V1 112 26 = V 112 26)) := by
  have hn4 := hp.2.1
  have hsk := skip_le f n p
  refine AC.of (L0 := [_, _, none]) pn_X11 (Nat.le_of_ble_eq_true rfl) rfl ?_
  refine st_aload_n dX11_takes_0 rfl ?_
  refine c_V0v (d' := d - 1) dX11_takes_1 l_X11_243 k_X11_blanks i_X11_blanks (Or.inl ⟨_, _, _, _, _, (by first | with_reducible assumption | rfl), by rfl⟩) (by omega) (Nat.le_of_ble_eq_true rfl) (C_rblanksT (by omega) hf hp hV) (fun V1 N1 hx => ?_)
  obtain ⟨rfl, R1, P1, W1, E1, f1⟩ := hx
  have hf1 : V1 132 = f := R1.r132 hf
  generalize skip f n p = q at *
  have hqn := P1.2.2.2.1
  refine st_aload_n dX11_takes_4 rfl ?_
  refine st_aload_n dX11_takes_5 rfl ?_
  refine c_V1p (d' := d - 1) dX11_takes_6 l_X11_246 k_X11_stood i_X11_stood (Or.inl ⟨_, _, _, _, _, (by first | with_reducible assumption | rfl), by rfl⟩) (by omega) (Nat.le_of_ble_eq_true rfl) (C_stood (i := 24) (by omega) (by decide) P1.1 hn4 P1.2.2.1 (by omega) (by rw [hf1]; exact hb)) ?_
  rw [hf1]
  refine st_istore_n (L' := [_, _, _]) dX11_takes_9 (by decide) rfl rfl ?_
  refine st_aload_n dX11_takes_10 rfl ?_
  refine st_dup dX11_takes_11 rfl ?_
  refine st_getfi dX11_takes_12 f_X11_223 (by first | with_reducible assumption | rfl) (by rfl) ?_
  rw [P1.2.2.1]
  refine st_iload_n dX11_takes_15 rfl ?_
  refine b_eq (tgt := 26) dX11_takes_16 rfl (fun c1 => ?_) (fun c1 => ?_)
  · refine st_iconst dX11_takes_26 ?_
    simp only [if_neg c1]
    refine st_iadd dX11_takes_27 ?_
    refine st_putfi dX11_takes_28 w_X11_223 (by first | with_reducible assumption | rfl) (by rfl) rfl rfl ?_
    refine st_iload_n dX11_takes_31 rfl ?_
    rw [show (q : Int) + 0 = (q : Int) by omega]
    refine r_z dX11_takes_32 rfl (by first | omega | (split <;> decide)) ⟨rfl, bz0 c1, R1.tr (RFk.up (by simp) (by simp)), P1.up hqn, W1.fx (fx.up (by omega)) (Exc.up (by simp)), ?_⟩
    rw [← f1 26 (by decide)]
    simp [q_up]
  · refine st_aload_n dX11_takes_19 rfl ?_
    simp only [if_pos c1]
    have hwl := wd_len c1
    rw [ch24] at hwl
    simp at hwl
    refine c_V0p (d' := d - 1) dX11_takes_20 l_X11_234 k_J0_length_8abf5 i_J0_length_8abf5 (Or.inr ⟨_, (by first | with_reducible assumption | decide), rfl, rfl⟩) (by omega) (Nat.le_of_ble_eq_true rfl) (C_strlen (i := 24) (by omega) (by decide)) ?_
    rw [show q_len.getD 24 0 = 2 from rfl]
    refine st_goto (tgt := 27) dX11_takes_23 rfl ?_
    refine st_iadd dX11_takes_27 ?_
    refine st_putfi dX11_takes_28 w_X11_223 (by first | with_reducible assumption | rfl) (by rfl) rfl rfl ?_
    refine st_iload_n dX11_takes_31 rfl ?_
    rw [show (q : Int) + ((2 : Nat) : Int) = ((q + 2 : Nat) : Int) by omega]
    refine r_z dX11_takes_32 rfl (by first | omega | (split <;> decide)) ⟨rfl, bz1 c1, R1.tr (RFk.up (by simp) (by simp)), P1.up (by omega), W1.fx (fx.up (by omega)) (Exc.up (by simp)), ?_⟩
    rw [← f1 26 (by decide)]
    simp [q_up]
theorem VE.row {s a i : Nat} {k z : Int} {V : q_Mem} (h : VE s k V) (ha : ¬ a = 112) : VE s k (q_up V a i z) := by
  unfold VE at *
  rw [q_up_ne (fun e => ha e.symm)]
  exact h
theorem RE2.row {V : q_Mem} {n a i : Nat} {z F : Int} (h : RE2 V n F) (ha : ¬ a = 112) : RE2 (q_up V a i z) n F := by
  unfold RE2 at *
  rw [q_up_ne (fun e => ha e.symm)]
  exact h
/-- what a clause leaves in its rows -/
def rcL (s k : Nat) (V V1 : q_Mem) (l : CL) : Prop := V1 140 = upR (V 140) (12 * s + k) l.1 ∧ V1 136 = upR (V 136) (12 * s + k) (l.2.1 : Nat) ∧ V1 137 = upR (V 137) (12 * s + k) (l.2.2.1 : Nat) ∧ V1 138 = upR (V 138) (12 * s + k) (l.2.2.2 : Nat)
theorem C_rclauseR {G : q_G} {d : Nat} {V : q_Mem} {N : q_MemL} {f : Nat → Int} {s n p c k : Nat} {E : List Int} (hd : 11 ≤ d) (hf : V 132 = f) (hb : tyB f n) (hp : RP1 V n p) (hV : VR s c E V) (hs : s ≤ 5) (h26 : V 112 26 = 0) (hc : c ≤ 60) (hE : E.length ≤ 2 * c + p / 3) (hk : k ≤ 12) : AC0 G d m_X11_ruleClause [.ref 112, I k] V N (CN (fun V1 N1 => N1 = N ∧ RCk s V V1 ∧ ((∃ p1 c1 E1 l, clP f n k p c E = .ok (p1, c1, E1, l) ∧ RP1 V1 n p1 ∧ VR s c1 E1 V1 ∧ V1 112 26 = 0 ∧ rcL s k V V1 l) ∨ ∃ F, clP f n k p c E = .error F ∧ RE2 V1 n F))) := by
  have hn4 := hp.2.1
  have hsk := skip_le f n p
  have hss := skip_skip f n p
  have hpn := hp.2.2.2.1
  unfold clP
  refine AC.of (L0 := [_, _, none, none, none]) pn_X11 (Nat.le_of_ble_eq_true rfl) rfl ?_
  refine st_aload_n dX11_ruleClause_0 rfl ?_
  refine c_V0v (d' := d - 1) dX11_ruleClause_1 l_X11_243 k_X11_blanks i_X11_blanks (Or.inl ⟨_, _, _, _, _, (by first | with_reducible assumption | rfl), by rfl⟩) (by omega) (Nat.le_of_ble_eq_true rfl) (C_rblanksT (by omega) hf hp hV) (fun V1 N1 hx => ?_)
  obtain ⟨rfl, R1, P1, W1, E1, f1⟩ := hx
  have hf1 : V1 132 = f := R1.r132 hf
  have hpq := hsk.1
  generalize skip f n p = q at *
  have hqn := P1.2.2.2.1
  have g26 : V1 112 26 = 0 := by rw [f1 26 (by decide)]; exact h26
  have g140 : V1 140 = V 140 := E1 140 (by decide)
  have g136 : V1 136 = V 136 := E1 136 (by decide)
  have g137 : V1 137 = V 137 := E1 137 (by decide)
  have g138 : V1 138 = V 138 := E1 138 (by decide)
  have fw : findW f n q wsK 0 = if isWd f n q (chL 13) = true then 0 else if isWd f n q (chL 12) = true then 1 else -1 := rfl
  have c12 : chL 12 = [119, 97, 108, 107] := by decide +kernel
  have c13 : chL 13 = [115, 105, 110, 103] := by decide +kernel
  refine st_aload_n dX11_ruleClause_4 rfl ?_
  refine st_getfi dX11_ruleClause_5 f_X11_223 (by first | with_reducible assumption | rfl) (by rfl) ?_
  rw [P1.2.2.1]
  refine st_istore_n (L' := [_, _, _, _, _]) dX11_ruleClause_8 (by decide) rfl rfl ?_
  refine st_aload_n dX11_ruleClause_9 rfl ?_
  refine st_ldcwS (i := 12) dX11_ruleClause_10 rfl ?_
  refine c_V1p (d' := d - 1) dX11_ruleClause_13 l_X11_246 k_X11_stood i_X11_stood (Or.inl ⟨_, _, _, _, _, (by first | with_reducible assumption | rfl), by rfl⟩) (by omega) (Nat.le_of_ble_eq_true rfl) (C_stood (i := 12) (by omega) (by decide) P1.1 hn4 P1.2.2.1 (by omega) (by rw [hf1]; exact hb)) ?_
  rw [hf1]
  -- behind the word
  have at38 : ∀ (w z : Int), w = findW f n q wsK 0 → (z = 0 ∨ z = 1) → z = w → lets f n q = 4 → AW0 G d m_X11_ruleClause 38 [some (.ref 112), some (I k), some (I q), some (I z), none] [] V1 N1 (CN (fun V2 N2 => N2 = N1 ∧ RCk s V V2 ∧ ((∃ p1 c1 E1 l, (if findW f n q wsK 0 = -1 then .error (1 + 8 * (q : Int)) else if 12 ≤ k then .error (1 + 8 * (q : Int) + 4) else match sumP f n (q + lets f n q) c E with
        | .error F => .error F
        | .ok (p1, c1, E1) =>
          if isWd f n (skip f n p1) (chL 24) = true then (match tstP f n 401 true (skip f n p1 + 2) c1 [] E1 with
            | .error F => .error F
            | .ok (p2, c2, E2) => .ok (p2, c2, E2, (findW f n q wsK 0, E.length, E1.length, E2.length)))
          else .ok (skip f n p1, c1, E1, (findW f n q wsK 0, E.length, E1.length, E1.length)) : Except Int (Nat × Nat × List Int × CL)) = .ok (p1, c1, E1, l) ∧ RP1 V2 n p1 ∧ VR s c1 E1 V2 ∧ V2 112 26 = 0 ∧ rcL s k V V2 l) ∨ ∃ F, (if findW f n q wsK 0 = -1 then .error (1 + 8 * (q : Int)) else if 12 ≤ k then .error (1 + 8 * (q : Int) + 4) else match sumP f n (q + lets f n q) c E with
        | .error F => .error F
        | .ok (p1, c1, E1) =>
          if isWd f n (skip f n p1) (chL 24) = true then (match tstP f n 401 true (skip f n p1 + 2) c1 [] E1 with
            | .error F => .error F
            | .ok (p2, c2, E2) => .ok (p2, c2, E2, (findW f n q wsK 0, E.length, E1.length, E2.length)))
          else .ok (skip f n p1, c1, E1, (findW f n q wsK 0, E.length, E1.length, E1.length)) : Except Int (Nat × Nat × List Int × CL)) = .error F ∧ RE2 V2 n F))) := by
    intro w z hw hz hzw hl4
    have hlt := lets_le f n q
    rw [← hw, if_neg (by omega), hl4]
    rw [hl4] at hlt
    refine st_iload_n dX11_ruleClause_38 rfl ?_
    refine st_bipush dX11_ruleClause_39 (by decide) ?_
    refine st_icmp_ne (tgt := 51) dX11_ruleClause_41 (by omega) (by omega) rfl (fun c1 => ?_) (fun c1 => ?_)
    · skip
      rw [if_neg (by omega)]
      have h12 : 12 * s + k < 72 := by omega
      refine st_aload_n dX11_ruleClause_51 rfl ?_
      refine st_dup dX11_ruleClause_52 rfl ?_
      refine st_getfi dX11_ruleClause_53 f_X11_223 (by first | with_reducible assumption | rfl) (by rfl) ?_
      rw [P1.2.2.1]
      refine st_iconst dX11_ruleClause_56 ?_
      refine st_iadd dX11_ruleClause_57 ?_
      refine st_putfi dX11_ruleClause_58 w_X11_223 (by first | with_reducible assumption | rfl) (by rfl) rfl rfl ?_
      refine st_bipush dX11_ruleClause_61 (by decide) ?_
      refine st_aload_n dX11_ruleClause_63 rfl ?_
      refine st_getfi dX11_ruleClause_64 f_X11_250 (by first | with_reducible assumption | rfl) (by rfl) ?_
      rw [show q_up V1 112 21 ((q : Int) + 4) 112 23 = (s : Int) by simp [q_up, W1.1]]
      refine st_imul dX11_ruleClause_67 ?_
      refine st_iload_n dX11_ruleClause_68 rfl ?_
      refine st_iadd dX11_ruleClause_69 ?_
      refine st_istore (L' := [_, _, _, _, _]) dX11_ruleClause_70 (by decide) rfl rfl ?_
      refine st_aload_n dX11_ruleClause_72 rfl ?_
      refine st_getfr dX11_ruleClause_73 f_X11_96 (by first | with_reducible assumption | rfl) (by rfl) ?_
      refine st_iload dX11_ruleClause_76 rfl ?_
      refine st_iload_n dX11_ruleClause_78 rfl ?_
      refine st_zast dX11_ruleClause_79 (by first | with_reducible assumption | rfl) (by omega) (by omega) (by rcases hz with rfl | rfl <;> rfl) ?_ (by decide)
      rw [show (q : Int) + 4 = ((q + 4 : Nat) : Int) by omega, show ((12 : Int) * (s : Int) + (k : Int)).toNat = 12 * s + k by omega]
      have P2 : RP1 (q_up V1 112 21 ((q + 4 : Nat) : Int)) n (q + 4) := P1.up (by omega)
      have W2 : VR s c E (q_up V1 112 21 ((q + 4 : Nat) : Int)) := W1.fx (fx.up (by omega)) (Exc.up (by simp))
      have P3 := P2.row (a := 140) (i := 12 * s + k) (z := z) (by decide)
      have W3 : VR s c E (q_up (q_up V1 112 21 ((q + 4 : Nat) : Int)) 140 (12 * s + k) z) := W2.row (by decide)
      have R3 : RCk s V (q_up (q_up V1 112 21 ((q + 4 : Nat) : Int)) 140 (12 * s + k) z) := (RS2.rc (RS1.to (R1.tr (RFk.up (by simp) (by simp))))).tr (RCk.up (by omega) (by omega))
      refine st_aload_n dX11_ruleClause_80 rfl ?_
      refine st_getfr dX11_ruleClause_81 f_X11_84 (by first | with_reducible assumption | rfl) (by rfl) ?_
      refine st_iload dX11_ruleClause_84 rfl ?_
      refine st_aload_n dX11_ruleClause_86 rfl ?_
      refine st_getfi dX11_ruleClause_87 f_X11_253 (by first | with_reducible assumption | rfl) (by rfl) ?_
      rw [W3.2.1]
      refine st_iastK (k' := 12 * s + k) dX11_ruleClause_90 (by first | with_reducible assumption | rfl) rfl (by omega) (hn := by decide) ?_
      refine st_aload_n dX11_ruleClause_91 rfl ?_
      have P4 := P3.row (a := 136) (i := 12 * s + k) (z := (E.length : Int)) (by decide)
      have W4 : VR s c E (q_up (q_up (q_up V1 112 21 ((q + 4 : Nat) : Int)) 140 (12 * s + k) z) 136 (12 * s + k) (E.length : Int)) := W3.row (by decide)
      have R4 := R3.tr (RCk.up (V := q_up (q_up V1 112 21 ((q + 4 : Nat) : Int)) 140 (12 * s + k) z) (a := 136) (i := 12 * s + k) (z := (E.length : Int)) (by omega) (by omega))
      have h4 : q_up (q_up (q_up V1 112 21 ((q + 4 : Nat) : Int)) 140 (12 * s + k) z) 136 (12 * s + k) (E.length : Int) 112 26 = 0 := by
        rw [q_up_ne (by decide), q_up_ne (by decide)]
        simp [q_up, g26]
      have a140 : q_up (q_up (q_up V1 112 21 ((q + 4 : Nat) : Int)) 140 (12 * s + k) z) 136 (12 * s + k) (E.length : Int) 140 = upR (V 140) (12 * s + k) w := by
        rw [q_up_ne (by decide), q_upR, q_up_ne (by decide), g140, hzw]
      have a136 : q_up (q_up (q_up V1 112 21 ((q + 4 : Nat) : Int)) 140 (12 * s + k) z) 136 (12 * s + k) (E.length : Int) 136 = upR (V 136) (12 * s + k) (E.length : Nat) := by
        rw [q_upR, q_up_ne (by decide), q_up_ne (by decide), g136]
      have a137 : q_up (q_up (q_up V1 112 21 ((q + 4 : Nat) : Int)) 140 (12 * s + k) z) 136 (12 * s + k) (E.length : Int) 137 = V 137 := by
        rw [q_up_ne (by decide), q_up_ne (by decide), q_up_ne (by decide), g137]
      have a138 : q_up (q_up (q_up V1 112 21 ((q + 4 : Nat) : Int)) 140 (12 * s + k) z) 136 (12 * s + k) (E.length : Int) 138 = V 138 := by
        rw [q_up_ne (by decide), q_up_ne (by decide), q_up_ne (by decide), g138]
      generalize q_up (q_up (q_up V1 112 21 ((q + 4 : Nat) : Int)) 140 (12 * s + k) z) 136 (12 * s + k) (E.length : Int) = V4 at *
      refine c_V0v (d' := d - 1) dX11_ruleClause_92 l_X11_286 k_X11_sum i_X11_sum (Or.inl ⟨_, _, _, _, _, (by first | with_reducible assumption | rfl), by rfl⟩) (by omega) (Nat.le_of_ble_eq_true rfl) (C_rsum (by omega) (R4.r132 hf) hb P4 W4 hs hc (by omega)) (fun V5 N5 hx => ?_)
      obtain ⟨rfl, R5, hx⟩ := hx
      have R5' := R4.tr (RS2.rc (RS1.to R5))
      have s26 : V5 112 26 = 0 := by rw [R5.2.1 26 (by decide)]; exact h4
      have s140 : V5 140 = V4 140 := R5.1 140 (by decide)
      have s136 : V5 136 = V4 136 := R5.1 136 (by decide)
      have s137 : V5 137 = V4 137 := R5.1 137 (by decide)
      have s138 : V5 138 = V4 138 := R5.1 138 (by decide)
      rcases hx with ⟨p1, c1', E1', k1, P5, W5⟩ | ⟨F, k1, P5, W5⟩
      · rw [k1]
        dsimp only
        obtain ⟨⟨b1, b2, b3, b4, b5⟩, sa, b7, b8, b9⟩ := sumP_ok (by omega) hc k1
        have hEa : E1'.length = E.length + sa.length := by rw [b7, List.length_append]
        rw [b5]
        refine st_aload_n dX11_ruleClause_95 rfl ?_
        refine st_getfr dX11_ruleClause_96 f_X11_87 (by first | with_reducible assumption | rfl) (by rfl) ?_
        refine st_iload dX11_ruleClause_99 rfl ?_
        refine st_aload_n dX11_ruleClause_101 rfl ?_
        refine st_getfi dX11_ruleClause_102 f_X11_253 (by first | with_reducible assumption | rfl) (by rfl) ?_
        rw [W5.2.1]
        refine st_iastK (k' := 12 * s + k) dX11_ruleClause_105 (by first | with_reducible assumption | rfl) rfl (by omega) (hn := by decide) ?_
        have P6 := P5.row (a := 137) (i := 12 * s + k) (z := (E1'.length : Int)) (by decide)
        have W6 : VR s c1' E1' (q_up V5 137 (12 * s + k) (E1'.length : Int)) := W5.row (by decide)
        have R6 := R5'.tr (RCk.up (V := V5) (a := 137) (i := 12 * s + k) (z := (E1'.length : Int)) (by omega) (by omega))
        have h6 : q_up V5 137 (12 * s + k) (E1'.length : Int) 112 26 = 0 := by
          rw [q_up_ne (by decide)]
          exact s26
        -- the end
        have fin : ∀ (V9 : q_Mem) (p2 c2 : Nat) (E2 : List Int), RP1 V9 n p2 → VR s c2 E2 V9 → V9 112 26 = 0 → RS2 s (q_up V5 137 (12 * s + k) (E1'.length : Int)) V9 → AW0 G d m_X11_ruleClause 127 [some (.ref 112), some (I k), some (I q), some (I z), some (I ((12 : Int) * (s : Int) + (k : Int)))] [] V9 N5 (CN (fun V2 N2 => N2 = N5 ∧ RCk s V V2 ∧ ((∃ p1 c1 E1 l, (.ok (p2, c2, E2, (w, E.length, E1'.length, E2.length)) : Except Int (Nat × Nat × List Int × CL)) = .ok (p1, c1, E1, l) ∧ RP1 V2 n p1 ∧ VR s c1 E1 V2 ∧ V2 112 26 = 0 ∧ rcL s k V V2 l) ∨ ∃ F, (.ok (p2, c2, E2, (w, E.length, E1'.length, E2.length)) : Except Int (Nat × Nat × List Int × CL)) = .error F ∧ RE2 V2 n F))) := by
          intro V9 p2 c2 E2 P9 W9 z9 R9
          refine st_aload_n dX11_ruleClause_127 rfl ?_
          refine st_getfr dX11_ruleClause_128 f_X11_90 (by first | with_reducible assumption | rfl) (by rfl) ?_
          refine st_iload dX11_ruleClause_131 rfl ?_
          refine st_aload_n dX11_ruleClause_133 rfl ?_
          refine st_getfi dX11_ruleClause_134 f_X11_253 (by first | with_reducible assumption | rfl) (by rfl) ?_
          rw [W9.2.1]
          refine st_iastK (k' := 12 * s + k) dX11_ruleClause_137 (by first | with_reducible assumption | rfl) rfl (by omega) (hn := by decide) ?_
          have t140 : V9 140 = V5 140 := by rw [R9.1 140 (by decide), q_up_ne (by decide)]
          have t136 : V9 136 = V5 136 := by rw [R9.1 136 (by decide), q_up_ne (by decide)]
          have t137 : V9 137 = upR (V5 137) (12 * s + k) (E1'.length : Int) := by rw [R9.1 137 (by decide), q_upR]
          have t138 : V9 138 = V5 138 := by rw [R9.1 138 (by decide), q_up_ne (by decide)]
          refine r_v dX11_ruleClause_138 rfl ⟨rfl, (R6.tr (RS2.rc R9)).tr (RCk.up (by omega) (by omega)), Or.inl ⟨_, _, _, _, rfl, P9.row (by decide), W9.row (by decide), by rw [q_up_ne (by decide)]; exact z9, ?_, ?_, ?_, ?_⟩⟩
          · rw [q_up_ne (by decide), t140, s140, a140]
          · rw [q_up_ne (by decide), t136, s136, a136]
          · rw [q_up_ne (by decide), t137, s137, a137]
          · rw [q_upR, t138, s138, a138]
        refine st_aload_n dX11_ruleClause_106 rfl ?_
        refine st_getfi dX11_ruleClause_107 f_X11_220 (by first | with_reducible assumption | rfl) (by rfl) ?_
        rw [P6.2.2.2.2]
        refine st_if_ne (tgt := 127) dX11_ruleClause_110 (by omega) rfl (fun c3 => ?_) (fun c3 => ?_)
        · skip
          exact absurd rfl c3
        · refine st_aload_n dX11_ruleClause_113 rfl ?_
          refine st_ldcwS (i := 24) dX11_ruleClause_114 rfl ?_
          refine c_V1i (d' := d - 1) dX11_ruleClause_117 l_X11_366 k_X11_takes i_X11_takes (Or.inl ⟨_, _, _, _, _, (by first | with_reducible assumption | rfl), by rfl⟩) (by omega) (Nat.le_of_ble_eq_true rfl) (C_takes (by omega) (R6.r132 hf) hb P6 W6) (fun x V7 N7 hx => ?_)
          obtain ⟨rfl, rfl, R7, P7, W7, z7⟩ := hx
          rw [b5] at P7
          rw [b5]
          refine b_eq (tgt := 127) dX11_ruleClause_120 rfl (fun c4 => ?_) (fun c4 => ?_)
          · skip
            rw [if_neg c4] at P7
            rw [if_neg c4]
            exact fin V7 p1 c1' E1' P7 W7 (z7.trans h6) (RS1.to R7)
          · refine st_aload_n dX11_ruleClause_123 rfl ?_
            rw [if_pos c4] at P7
            rw [if_pos c4]
            have hI : TI n 0 (p1 + 2) c1' [] E1' E1' := ⟨trivial, by decide, P7.2.2.2.1, b4, ⟨[], by simp, rfl⟩, by simp [jK], by simp [nbK]; omega⟩
            refine c_V0v (d' := d - 1) dX11_ruleClause_124 l_X11_369 k_X11_test i_X11_test (Or.inl ⟨_, _, _, _, _, (by first | with_reducible assumption | rfl), by rfl⟩) (by omega) (Nat.le_of_ble_eq_true rfl) (C_rtest (by omega) (by rw [R7.1 132 (by decide)]; exact R6.r132 hf) hb P7 W7 hs (z7.trans h6) hI) (fun V8 N8 hx => ?_)
            obtain ⟨rfl, R8, hx⟩ := hx
            rcases hx with ⟨p2, c2, E2, l1, P8, W8, z8⟩ | ⟨F, l1, P8, W8⟩
            · rw [l1]
              dsimp only
              exact fin V8 p2 c2 E2 P8 W8 z8 ((RS1.to R7).tr R8)
            · rw [l1]
              have hw8 := W8.2.1
              refine st_aload_n dX11_ruleClause_127 rfl ?_
              refine st_getfr dX11_ruleClause_128 f_X11_90 (by first | with_reducible assumption | rfl) (by rfl) ?_
              refine st_iload dX11_ruleClause_131 rfl ?_
              refine st_aload_n dX11_ruleClause_133 rfl ?_
              refine st_getfi dX11_ruleClause_134 f_X11_253 (by first | with_reducible assumption | rfl) (by rfl) ?_
              refine st_iastK (k' := 12 * s + k) dX11_ruleClause_137 (by first | with_reducible assumption | rfl) rfl (by omega) (hn := by decide) ?_
              refine r_v dX11_ruleClause_138 rfl ⟨rfl, (R6.tr ((RS2.rc (RS1.to R7)).tr (RS2.rc R8))).tr (RCk.up (by omega) (by omega)), Or.inr ⟨F, rfl, P8.row (by decide)⟩⟩
      · rw [k1]
        dsimp only
        have hw5 := W5.2.1
        have hF5 := P5.2.2.2.2
        refine st_aload_n dX11_ruleClause_95 rfl ?_
        refine st_getfr dX11_ruleClause_96 f_X11_87 (by first | with_reducible assumption | rfl) (by rfl) ?_
        refine st_iload dX11_ruleClause_99 rfl ?_
        refine st_aload_n dX11_ruleClause_101 rfl ?_
        refine st_getfi dX11_ruleClause_102 f_X11_253 (by first | with_reducible assumption | rfl) (by rfl) ?_
        refine st_iastK (k' := 12 * s + k) dX11_ruleClause_105 (by first | with_reducible assumption | rfl) rfl (by omega) (hn := by decide) ?_
        refine st_aload_n dX11_ruleClause_106 rfl ?_
        refine st_getfi dX11_ruleClause_107 f_X11_220 (by first | with_reducible assumption | rfl) (by rfl) ?_
        rw [show q_up V5 137 (12 * s + k) (V5 112 25) 112 22 = F by rw [q_up_ne (by decide)]; exact P5.2.2.2.1]
        refine st_if_ne (tgt := 127) dX11_ruleClause_110 (by omega) rfl (fun c3 => ?_) (fun c3 => ?_)
        · refine st_aload_n dX11_ruleClause_127 rfl ?_
          refine st_getfr dX11_ruleClause_128 f_X11_90 (by first | with_reducible assumption | rfl) (by rfl) ?_
          refine st_iload dX11_ruleClause_131 rfl ?_
          refine st_aload_n dX11_ruleClause_133 rfl ?_
          refine st_getfi dX11_ruleClause_134 f_X11_253 (by first | with_reducible assumption | rfl) (by rfl) ?_
          refine st_iastK (k' := 12 * s + k) dX11_ruleClause_137 (by first | with_reducible assumption | rfl) rfl (by omega) (hn := by decide) ?_
          refine r_v dX11_ruleClause_138 rfl ⟨rfl, R5'.tr ((RCk.up (by omega) (by omega)).tr (RCk.up (by omega) (by omega))), Or.inr ⟨F, rfl, (P5.re2.row (by decide)).row (by decide)⟩⟩
        · skip
          exact absurd c3 hF5.1
    · refine st_aload_n dX11_ruleClause_44 rfl ?_
      refine st_iconst dX11_ruleClause_45 ?_
      refine st_iload_n dX11_ruleClause_46 rfl ?_
      rw [if_pos (by omega)]
      refine c_V2v (d' := d - 1) dX11_ruleClause_47 l_X11_259 k_X11_fails i_X11_fails (Or.inl ⟨_, _, _, _, _, (by first | with_reducible assumption | rfl), by rfl⟩) (by omega) (Nat.le_of_ble_eq_true rfl) (C_rfailT (k := 4) P1 (by omega) (by omega)) (fun V2 N2 hx => ?_)
      obtain ⟨rfl, k1, k2, k3⟩ := hx
      refine r_v dX11_ruleClause_50 rfl ⟨rfl, (RS2.rc (RS1.to R1)).tr (RS2.rc (RS1.to (k2.rs k1))), Or.inr ⟨_, rfl, k3.re2⟩⟩
  by_cases hw : isWd f n q (chL 12) = true
  · have hl := (wd_len hw).2
    rw [c12] at hl
    have hb1 : bytA f n (q : Int) = 119 := wd_hd (by rw [c12] at hw; exact hw)
    have hns : ¬ isWd f n q (chL 13) = true := fun z => by
      have : bytA f n (q : Int) = 115 := wd_hd (by rw [c13] at z; exact z)
      omega
    rw [← bz1 hw]
    refine st_istore_n (L' := [_, _, _, _, _]) dX11_ruleClause_16 (by decide) rfl rfl ?_
    refine st_iload_n dX11_ruleClause_17 rfl ?_
    refine st_if_ne (tgt := 38) dX11_ruleClause_18 (by omega) rfl (fun c1 => ?_) (fun c1 => ?_)
    · skip
      exact at38 1 1 (by rw [fw, if_neg hns, if_pos hw]) (Or.inr rfl) rfl hl
    · skip
      exact absurd c1 (by decide)
  · rw [← bz0 hw]
    refine st_istore_n (L' := [_, _, _, _, _]) dX11_ruleClause_16 (by decide) rfl rfl ?_
    refine st_iload_n dX11_ruleClause_17 rfl ?_
    refine st_if_ne (tgt := 38) dX11_ruleClause_18 (by omega) rfl (fun c1 => ?_) (fun c1 => ?_)
    · skip
      exact absurd rfl c1
    · refine st_aload_n dX11_ruleClause_21 rfl ?_
      refine st_ldcwS (i := 13) dX11_ruleClause_22 rfl ?_
      refine c_V1p (d' := d - 1) dX11_ruleClause_25 l_X11_246 k_X11_stood i_X11_stood (Or.inl ⟨_, _, _, _, _, (by first | with_reducible assumption | rfl), by rfl⟩) (by omega) (Nat.le_of_ble_eq_true rfl) (C_stood (i := 13) (by omega) (by decide) P1.1 hn4 P1.2.2.1 (by omega) (by rw [hf1]; exact hb)) ?_
      rw [hf1]
      refine b_ne (tgt := 38) dX11_ruleClause_28 rfl (fun c2 => ?_) (fun c2 => ?_)
      · have hl := (wd_len c2).2
        rw [c13] at hl
        exact at38 0 0 (by rw [fw, if_pos c2]) (Or.inl rfl) rfl hl
      · have hm1 : findW f n q wsK 0 = -1 := by rw [fw, if_neg c2, if_neg hw]
        rw [hm1, if_pos rfl]
        refine st_aload_n dX11_ruleClause_31 rfl ?_
        refine st_iconst dX11_ruleClause_32 ?_
        refine st_iload_n dX11_ruleClause_33 rfl ?_
        refine c_V2v (d' := d - 1) dX11_ruleClause_34 l_X11_259 k_X11_fails i_X11_fails (Or.inl ⟨_, _, _, _, _, (by first | with_reducible assumption | rfl), by rfl⟩) (by omega) (Nat.le_of_ble_eq_true rfl) (C_rfailT (k := 0) P1 (by omega) (by omega)) (fun V2 N2 hx => ?_)
        obtain ⟨rfl, k1, k2, k3⟩ := hx
        refine r_v dX11_ruleClause_37 rfl ⟨rfl, (RS2.rc (RS1.to R1)).tr (RS2.rc (RS1.to (k2.rs k1))), Or.inr ⟨_, rfl, ?_⟩⟩
        rw [show (1 + 8 * (q : Int)) = 1 + 8 * (q : Int) + ((0 : Nat) : Int) by omega]
        exact k3.re2


/-! the system reads a rule: signs, brackets that close -/
/-- the sign of a fact: place, parts, code -/
def sgP (f : Nat → Int) (n p c : Nat) : Except Int (Nat × Nat × Int) :=
  if bytA f n (p : Nat) = 60 ∨ bytA f n (p : Nat) = 61 ∨ bytA f n (p : Nat) = 62 then
    (if c = 60 then .error (1 + 8 * (p : Nat) + 3)
    else .ok (if ¬ bytA f n (p : Nat) = 61 ∧ bytA f n ((p + 1 : Nat) : Int) = 61 then p + 2 else p + 1, c + 1, sgC (bytA f n (p : Nat)) (decide (¬ bytA f n (p : Nat) = 61 ∧ bytA f n ((p + 1 : Nat) : Int) = 61))))
  else .error (1 + 8 * (p : Nat))
theorem cmpP_sg (f : Nat → Int) (n p c : Nat) (E : List Int) : cmpP f n p c E = match sumP f n p c E with
  | .error F => .error F
  | .ok (p1, c1, E1) => match sgP f n p1 c1 with
    | .error F => .error F
    | .ok (p2, c2, s) => match sumP f n p2 c2 E1 with
      | .error F => .error F
      | .ok (p3, c3, E3) => .ok (p3, c3, E3 ++ [s]) := by
  unfold cmpP
  cases hv : sumP f n p c E with
  | error F => rfl
  | ok r =>
    obtain ⟨p1, c1, E1⟩ := r
    dsimp only
    unfold sgP
    by_cases h1 : bytA f n (p1 : Nat) = 60 ∨ bytA f n (p1 : Nat) = 61 ∨ bytA f n (p1 : Nat) = 62
    · rw [if_pos h1, if_pos h1]
      by_cases h2 : c1 = 60
      · rw [if_pos h2, if_pos h2]
      · rw [if_neg h2, if_neg h2]
        dsimp only
        first | rfl | (split <;> rfl)
    · rw [if_neg h1, if_neg h1]
theorem C_signOf {G : q_G} {d : Nat} {M : q_Mem} {N : q_MemL} {b : Int} {s : Bool} (hb : b = 60 ∨ b = 61 ∨ b = 62) : AC0 G d m_X7_signOf [I b, I (if s = true then 1 else 0)] M N (CV (PU (I (sgC b s)) M N)) := by
  rcases hb with rfl | rfl | rfl
  · cases s
    · refine AC.of (L0 := [_, _]) pn_X7 (Nat.le_of_ble_eq_true rfl) rfl ?_
      refine st_iload_n dX7_signOf_0 rfl ?_
      refine st_bipush dX7_signOf_1 (by decide) ?_
      refine st_icmp_ne (tgt := 18) dX7_signOf_3 (by omega) (by omega) rfl (fun c1 => ?_) (fun c1 => ?_)
      · skip
        omega
      · refine st_iload_n dX7_signOf_6 rfl ?_
        refine st_if_eq (tgt := 15) dX7_signOf_7 (by omega) rfl (fun c2 => ?_) (fun c2 => ?_)
        · refine st_bipush dX7_signOf_15 (by decide) ?_
          exact r_i dX7_signOf_17 rfl ⟨rfl, rfl, rfl⟩
        · skip
          exact absurd rfl c2
    · refine AC.of (L0 := [_, _]) pn_X7 (Nat.le_of_ble_eq_true rfl) rfl ?_
      refine st_iload_n dX7_signOf_0 rfl ?_
      refine st_bipush dX7_signOf_1 (by decide) ?_
      refine st_icmp_ne (tgt := 18) dX7_signOf_3 (by omega) (by omega) rfl (fun c1 => ?_) (fun c1 => ?_)
      · skip
        omega
      · refine st_iload_n dX7_signOf_6 rfl ?_
        refine st_if_eq (tgt := 15) dX7_signOf_7 (by omega) rfl (fun c2 => ?_) (fun c2 => ?_)
        · skip
          exact absurd c2 (by decide)
        · refine st_bipush dX7_signOf_10 (by decide) ?_
          refine st_goto (tgt := 17) dX7_signOf_12 rfl ?_
          exact r_i dX7_signOf_17 rfl ⟨rfl, rfl, rfl⟩
  · refine AC.of (L0 := [_, _]) pn_X7 (Nat.le_of_ble_eq_true rfl) rfl ?_
    refine st_iload_n dX7_signOf_0 rfl ?_
    refine st_bipush dX7_signOf_1 (by decide) ?_
    refine st_icmp_ne (tgt := 18) dX7_signOf_3 (by omega) (by omega) rfl (fun c1 => ?_) (fun c1 => ?_)
    · refine st_iload_n dX7_signOf_18 rfl ?_
      refine st_bipush dX7_signOf_19 (by decide) ?_
      refine st_icmp_ne (tgt := 36) dX7_signOf_21 (by omega) (by omega) rfl (fun c2 => ?_) (fun c2 => ?_)
      · refine st_bipush dX7_signOf_36 (by decide) ?_
        exact r_i dX7_signOf_38 rfl ⟨by cases s <;> rfl, rfl, rfl⟩
      · skip
        omega
    · skip
      omega
  · cases s
    · refine AC.of (L0 := [_, _]) pn_X7 (Nat.le_of_ble_eq_true rfl) rfl ?_
      refine st_iload_n dX7_signOf_0 rfl ?_
      refine st_bipush dX7_signOf_1 (by decide) ?_
      refine st_icmp_ne (tgt := 18) dX7_signOf_3 (by omega) (by omega) rfl (fun c1 => ?_) (fun c1 => ?_)
      · refine st_iload_n dX7_signOf_18 rfl ?_
        refine st_bipush dX7_signOf_19 (by decide) ?_
        refine st_icmp_ne (tgt := 36) dX7_signOf_21 (by omega) (by omega) rfl (fun c2 => ?_) (fun c2 => ?_)
        · skip
          omega
        · refine st_iload_n dX7_signOf_24 rfl ?_
          refine st_if_eq (tgt := 33) dX7_signOf_25 (by omega) rfl (fun c3 => ?_) (fun c3 => ?_)
          · refine st_bipush dX7_signOf_33 (by decide) ?_
            exact r_i dX7_signOf_35 rfl ⟨rfl, rfl, rfl⟩
          · skip
            exact absurd rfl c3
      · skip
        omega
    · refine AC.of (L0 := [_, _]) pn_X7 (Nat.le_of_ble_eq_true rfl) rfl ?_
      refine st_iload_n dX7_signOf_0 rfl ?_
      refine st_bipush dX7_signOf_1 (by decide) ?_
      refine st_icmp_ne (tgt := 18) dX7_signOf_3 (by omega) (by omega) rfl (fun c1 => ?_) (fun c1 => ?_)
      · refine st_iload_n dX7_signOf_18 rfl ?_
        refine st_bipush dX7_signOf_19 (by decide) ?_
        refine st_icmp_ne (tgt := 36) dX7_signOf_21 (by omega) (by omega) rfl (fun c2 => ?_) (fun c2 => ?_)
        · skip
          omega
        · refine st_iload_n dX7_signOf_24 rfl ?_
          refine st_if_eq (tgt := 33) dX7_signOf_25 (by omega) rfl (fun c3 => ?_) (fun c3 => ?_)
          · skip
            exact absurd c3 (by decide)
          · refine st_bipush dX7_signOf_28 (by decide) ?_
            refine st_goto (tgt := 35) dX7_signOf_30 rfl ?_
            exact r_i dX7_signOf_35 rfl ⟨rfl, rfl, rfl⟩
      · skip
        omega
theorem C_readSignE {G : q_G} {d : Nat} {M : q_Mem} {N : q_MemL} {n : Nat} {F : Int} (hd : 1 ≤ d) (hT : TE M n F) : AC0 G d m_X7_readSign [.ref 84] M N (CN (fun M1 N1 => N1 = N ∧ M1 = M)) := by
  refine AC.of (L0 := [_, none, none, none]) pn_X7 (Nat.le_of_ble_eq_true rfl) rfl ?_
  refine st_aload_n dX7_readSign_0 rfl ?_
  refine st_getfr dX7_readSign_1 f_X7_15 (by first | with_reducible assumption | rfl) (by rfl) ?_
  refine c_V0p (d' := d - 1) dX7_readSign_4 l_X7_89 k_X8_failed i_X8_failed (Or.inl ⟨_, _, _, _, _, (by first | with_reducible assumption | rfl), by rfl⟩) (by omega) (Nat.le_of_ble_eq_true rfl) (C_failed (by rw [hT.2.2.2.1]; unfold i32; have := hT.2.2.2.2; omega)) ?_
  refine b_eq (tgt := 11) dX7_readSign_7 rfl (fun c2 => ?_) (fun c2 => ?_)
  · skip
    exact absurd (by rw [hT.2.2.2.1]; exact hT.2.2.2.2.1) c2
  · skip
    refine r_v dX7_readSign_10 rfl ⟨rfl, rfl⟩
theorem C_readSign {G : q_G} {d : Nat} {M : q_Mem} {N : q_MemL} {o n p c : Nat} {W E : List Int} (hd : 3 ≤ d) (ho : isRu o) (hT : TP M n p) (hs : skip (M 2) n p = p) (h : SR o c W E M) (hV : VW M) (hc : c ≤ 60) (hW : W.length ≤ 60) (hE : E.length ≤ 400) : AC0 G d m_X7_readSign [.ref 84] M N (CN (fun M1 N1 => N1 = N ∧ (VW M1 ∧ SF o M M1) ∧ ((∃ p1 c1 s, sgP (M 2) n p c = .ok (p1, c1, s) ∧ TP M1 n p1 ∧ SR o c1 (s :: W) E M1) ∨ ∃ F, sgP (M 2) n p c = .error F ∧ TE M1 n F ∧ SE o 1000 M1))) := by
  have hn4 := hT.2.1
  have hpn := hT.2.2.2.1
  have hb := bytA_rng (M 2) n (p : Int)
  -- behind the count
  have tl : ∀ (M3 : q_Mem) (N3 : q_MemL) (Q : q_Mem → q_MemL → Prop), p < n → M3 1 1 = (n : Int) → M3 1 2 = (p : Int) → M3 2 = M 2 → AW0 G d m_X7_readSign 121 [some (.ref 84), some (I (bytA (M 2) n (p : Int))), some (I p), some (I (if decide (¬ bytA (M 2) n (p : Nat) = 61 ∧ bytA (M 2) n ((p + 1 : Nat) : Int) = 61) = true then 1 else 0))] [] (q_up M3 1 2 (((if ¬ bytA (M 2) n (p : Nat) = 61 ∧ bytA (M 2) n ((p + 1 : Nat) : Int) = 61 then p + 2 else p + 1 : Nat)) : Int)) N3 (CN Q) → AW0 G d m_X7_readSign 60 [some (.ref 84), some (I (bytA (M 2) n (p : Int))), some (I p), none] [] M3 N3 (CN Q) := by
    intro M3 N3 Q hlt m1 m2 m3 hA
    have hb1 := bytA_rng (M 2) n ((p + 1 : Nat) : Int)
    have z102 : ¬ (¬ bytA (M 2) n (p : Nat) = 61 ∧ bytA (M 2) n ((p + 1 : Nat) : Int) = 61) → AW0 G d m_X7_readSign 102 [some (.ref 84), some (I (bytA (M 2) n (p : Int))), some (I p), none] [] (q_up M3 1 2 ((p : Int) + 1)) N3 (CN Q) := by
      intro hz
      rw [if_neg hz, if_neg (by rw [decide_eq_true_iff]; exact hz)] at hA
      refine st_iconst dX7_readSign_102 ?_
      refine st_istore_n (L' := [_, _, _, _]) dX7_readSign_103 (by decide) rfl rfl ?_
      refine st_iload_n dX7_readSign_104 rfl ?_
      refine st_if_eq (tgt := 121) dX7_readSign_105 (by omega) rfl (fun c5 => ?_) (fun c5 => ?_)
      · skip
        exact AW.to hA (h4 := by rw [show ((p + 1 : Nat) : Int) = (p : Int) + 1 by omega])
      · skip
        exact absurd rfl c5
    refine st_aload_n dX7_readSign_60 rfl ?_
    refine st_getfr dX7_readSign_61 f_X7_15 (by first | with_reducible assumption | rfl) (by rfl) ?_
    refine st_dup dX7_readSign_64 rfl ?_
    refine st_getfi dX7_readSign_65 f_X7_60 (by first | with_reducible assumption | rfl) (by rfl) ?_
    rw [m2]
    refine st_iconst dX7_readSign_68 ?_
    refine st_iadd dX7_readSign_69 ?_
    refine st_putfi dX7_readSign_70 w_X7_60 (by first | with_reducible assumption | rfl) (by rfl) rfl rfl ?_
    refine st_iload_n dX7_readSign_73 rfl ?_
    refine st_bipush dX7_readSign_74 (by decide) ?_
    refine st_icmp_eq (tgt := 102) dX7_readSign_76 (by omega) (by omega) rfl (fun c3 => ?_) (fun c3 => ?_)
    · skip
      exact z102 (by omega)
    · refine st_aload_n dX7_readSign_79 rfl ?_
      refine st_getfr dX7_readSign_80 f_X7_15 (by first | with_reducible assumption | rfl) (by rfl) ?_
      refine st_aload_n dX7_readSign_83 rfl ?_
      refine st_getfr dX7_readSign_84 f_X7_15 (by first | with_reducible assumption | rfl) (by rfl) ?_
      refine st_getfi dX7_readSign_87 f_X7_60 (by first | with_reducible assumption | rfl) (by rfl) ?_
      rw [show q_up M3 1 2 ((p : Int) + 1) 1 2 = ((p + 1 : Nat) : Int) by simp [q_up]]
      refine c_V1p (d' := d - 1) dX7_readSign_90 l_X7_144 k_X8_byteAt i_X8_byteAt (Or.inl ⟨_, _, _, _, _, (by first | with_reducible assumption | rfl), by rfl⟩) (by omega) (Nat.le_of_ble_eq_true rfl) (C_byteAt (n := n) (by simp [q_up, m1]) (by omega) (by unfold i32; omega)) ?_
      rw [show q_up M3 1 2 ((p : Int) + 1) 2 = M 2 by rw [q_up_ne (by decide)]; exact m3]
      refine st_bipush dX7_readSign_93 (by decide) ?_
      refine st_icmp_ne (tgt := 102) dX7_readSign_95 (by omega) (by omega) rfl (fun c4 => ?_) (fun c4 => ?_)
      · skip
        exact z102 (by omega)
      · refine st_iconst dX7_readSign_98 ?_
        refine st_goto (tgt := 103) dX7_readSign_99 rfl ?_
        refine st_istore_n (L' := [_, _, _, _]) dX7_readSign_103 (by decide) rfl rfl ?_
        refine st_iload_n dX7_readSign_104 rfl ?_
        have hz : ¬ bytA (M 2) n (p : Nat) = 61 ∧ bytA (M 2) n ((p + 1 : Nat) : Int) = 61 := ⟨c3, c4⟩
        rw [if_pos hz, if_pos (by rw [decide_eq_true_iff]; exact hz)] at hA
        refine st_if_eq (tgt := 121) dX7_readSign_105 (by omega) rfl (fun c5 => ?_) (fun c5 => ?_)
        · skip
          exact absurd c5 (by decide)
        · refine st_aload_n dX7_readSign_108 rfl ?_
          refine st_getfr dX7_readSign_109 f_X7_15 (by first | with_reducible assumption | rfl) (by rfl) ?_
          refine st_dup dX7_readSign_112 rfl ?_
          refine st_getfi dX7_readSign_113 f_X7_60 (by first | with_reducible assumption | rfl) (by rfl) ?_
          rw [show q_up M3 1 2 ((p : Int) + 1) 1 2 = (p : Int) + 1 by simp [q_up]]
          refine st_iconst dX7_readSign_116 ?_
          refine st_iadd dX7_readSign_117 ?_
          refine st_putfi dX7_readSign_118 w_X7_60 (by first | with_reducible assumption | rfl) (by rfl) rfl rfl ?_
          refine AW.to hA (h4 := ?_)
          funext a j
          simp only [q_up]
          split
          · omega
          · rfl
  refine AC.of (L0 := [_, none, none, none]) pn_X7 (Nat.le_of_ble_eq_true rfl) rfl ?_
  refine st_aload_n dX7_readSign_0 rfl ?_
  refine st_getfr dX7_readSign_1 f_X7_15 (by first | with_reducible assumption | rfl) (by rfl) ?_
  refine c_V0p (d' := d - 1) dX7_readSign_4 l_X7_89 k_X8_failed i_X8_failed (Or.inl ⟨_, _, _, _, _, (by first | with_reducible assumption | rfl), by rfl⟩) (by omega) (Nat.le_of_ble_eq_true rfl) (C_failed (by rw [hT.2.2.2.2]; unfold i32; omega)) ?_
  refine b_eq (tgt := 11) dX7_readSign_7 rfl (fun c2 => ?_) (fun c2 => ?_)
  · refine st_aload_n dX7_readSign_11 rfl ?_
    refine st_getfr dX7_readSign_12 f_X7_15 (by first | with_reducible assumption | rfl) (by rfl) ?_
    refine c_V0i (d' := d - 1) dX7_readSign_15 l_X7_56 k_X8_peek i_X8_peek (Or.inl ⟨_, _, _, _, _, (by first | with_reducible assumption | rfl), by rfl⟩) (by omega) (Nat.le_of_ble_eq_true rfl) (C_peekT (by omega) hT) (fun x M2 N2 hx => ?_)
    obtain ⟨rfl, rfl, hM2, T2⟩ := hx
    rw [hs] at hM2 T2
    rw [hs]
    have x2 : Exc [1] M M2 := by rw [hM2]; exact Exc.up (by simp)
    have S2 : SR o c W E M2 := h.exc1 ho x2
    have V2 : VW M2 := hV.exc x2 (by simp)
    have f2 : SF o M M2 := x2.sf ho (by simp)
    have r2 : M2 2 = M 2 := f2.row2 ho
    -- a sign
    have on : (bytA (M 2) n (p : Int) = 60 ∨ bytA (M 2) n (p : Int) = 61 ∨ bytA (M 2) n (p : Int) = 62) → AW0 G d m_X7_readSign 55 [some (.ref 84), some (I (bytA (M 2) n (p : Int))), some (I p), none] [] M2 N2 (CN (fun M1 N1 => N1 = N2 ∧ (VW M1 ∧ SF o M M1) ∧ ((∃ p1 c1 s, sgP (M 2) n p c = .ok (p1, c1, s) ∧ TP M1 n p1 ∧ SR o c1 (s :: W) E M1) ∨ ∃ F, sgP (M 2) n p c = .error F ∧ TE M1 n F ∧ SE o 1000 M1))) := by
      intro hsg
      have hlt : p < n := by rcases hsg with z | z | z <;> exact byt_lt z (by decide)
      have hp1 : p + 1 ≤ (if ¬ bytA (M 2) n (p : Nat) = 61 ∧ bytA (M 2) n ((p + 1 : Nat) : Int) = 61 then p + 2 else p + 1) ∧ (if ¬ bytA (M 2) n (p : Nat) = 61 ∧ bytA (M 2) n ((p + 1 : Nat) : Int) = 61 then p + 2 else p + 1) ≤ n := by
        split
        · rename_i hz
          have := byt_lt hz.2 (by decide)
          omega
        · omega
      have hsr := sgC_rng (bytA (M 2) n (p : Int)) (decide (¬ bytA (M 2) n (p : Nat) = 61 ∧ bytA (M 2) n ((p + 1 : Nat) : Int) = 61))
      by_cases c60 : c = 60
      · have hsp : sgP (M 2) n p c = .error (1 + 8 * (p : Int) + 3) := by
          unfold sgP
          rw [if_pos hsg, if_pos c60]
        subst c60
        rw [hsp]
        refine st_aload_n dX7_readSign_55 rfl ?_
        refine st_iload_n dX7_readSign_56 rfl ?_
        refine c_V1v (d' := d - 1) dX7_readSign_57 l_X7_114 k_X7_countPart i_X7_countPart (Or.inl ⟨_, _, _, _, _, (by first | with_reducible assumption | rfl), by rfl⟩) (by omega) (Nat.le_of_ble_eq_true rfl) (C_countF (by omega) T2 S2 (by omega)) (fun M3 N3 hx => ?_)
        obtain ⟨rfl, hM3, k1, k2⟩ := hx
        have V3 : VW M3 := (V2.up (by decide)).exc k1 (by simp)
        have f3 : SF o M M3 := f2.tr ((SF.up ho (by omega)).tr (k1.sf ho (by simp)))
        have E3 : SE o 500 M3 := ((S2.cnt ho).se (by omega) (by omega) (by omega)).exc1 ho k1
        refine tl M3 N3 _ hlt k2.1 (by rw [hM3]; simp [q_up, T2.2.2.1]) (f3.row2 ho) ?_
        have t1 := k2.up (q := (((if ¬ bytA (M 2) n (p : Nat) = 61 ∧ bytA (M 2) n ((p + 1 : Nat) : Int) = 61 then p + 2 else p + 1 : Nat)) : Int)) (by omega)
        have t2 : SE o 500 (q_up M3 1 2 (((if ¬ bytA (M 2) n (p : Nat) = 61 ∧ bytA (M 2) n ((p + 1 : Nat) : Int) = 61 then p + 2 else p + 1 : Nat)) : Int)) := E3.exc1 ho (Exc.up (by simp))
        have t3 : VW (q_up M3 1 2 (((if ¬ bytA (M 2) n (p : Nat) = 61 ∧ bytA (M 2) n ((p + 1 : Nat) : Int) = 61 then p + 2 else p + 1 : Nat)) : Int)) := V3.up (by decide)
        have t4 : SF o M (q_up M3 1 2 (((if ¬ bytA (M 2) n (p : Nat) = 61 ∧ bytA (M 2) n ((p + 1 : Nat) : Int) = 61 then p + 2 else p + 1 : Nat)) : Int)) := f3.tr (SF.up ho (by omega))
        refine st_aload_n dX7_readSign_121 rfl ?_
        refine st_iload_n dX7_readSign_122 rfl ?_
        refine st_iload_n dX7_readSign_123 rfl ?_
        refine c_S2p (d' := d - 1) dX7_readSign_124 l_X7_147 k_X7_signOf s_X7_signOf (by omega) (Nat.le_of_ble_eq_true rfl) (C_signOf hsg) ?_
        refine c_V1v (d' := d - 1) dX7_readSign_127 l_X7_128 k_X7_hold i_X7_hold (Or.inl ⟨_, _, _, _, _, (by first | with_reducible assumption | rfl), by rfl⟩) (by omega) (Nat.le_of_ble_eq_true rfl) (C_hold (by omega) (by have := t2.1; omega)) (fun M6 N6 hx => ?_)
        obtain ⟨rfl, hM6⟩ := hx
        refine r_v dX7_readSign_130 rfl ⟨rfl, ⟨by rw [hM6]; exact t3.hold (by omega), t4.tr (by rw [hM6]; exact SF.hold ho)⟩, Or.inr ⟨_, rfl, by rw [hM6]; exact t1.hold, by rw [hM6]; exact (t2.hold ho).mono (by omega)⟩⟩
      · have hsp : sgP (M 2) n p c = .ok (if ¬ bytA (M 2) n (p : Nat) = 61 ∧ bytA (M 2) n ((p + 1 : Nat) : Int) = 61 then p + 2 else p + 1, c + 1, sgC (bytA (M 2) n (p : Nat)) (decide (¬ bytA (M 2) n (p : Nat) = 61 ∧ bytA (M 2) n ((p + 1 : Nat) : Int) = 61))) := by
          unfold sgP
          rw [if_pos hsg, if_neg c60]
        rw [hsp]
        refine st_aload_n dX7_readSign_55 rfl ?_
        refine st_iload_n dX7_readSign_56 rfl ?_
        refine c_V1v (d' := d - 1) dX7_readSign_57 l_X7_114 k_X7_countPart i_X7_countPart (Or.inl ⟨_, _, _, _, _, (by first | with_reducible assumption | rfl), by rfl⟩) (by omega) (Nat.le_of_ble_eq_true rfl) (C_countP S2 (by omega) (by omega)) (fun M3 N3 hx => ?_)
        obtain ⟨rfl, hM3⟩ := hx
        have T3 : TP M3 n p := by rw [hM3]; exact T2.ne (by decide)
        have S3 : SR o (c + 1) W E M3 := by rw [hM3]; exact S2.cnt ho
        have V3 : VW M3 := by rw [hM3]; exact V2.up (by decide)
        have f3 : SF o M M3 := f2.tr (by rw [hM3]; exact SF.up ho (by omega))
        refine tl M3 N3 _ hlt T3.1 T3.2.2.1 (f3.row2 ho) ?_
        have t1 := T3.up hp1.2
        generalize hq1 : (if ¬ bytA (M 2) n (p : Nat) = 61 ∧ bytA (M 2) n ((p + 1 : Nat) : Int) = 61 then p + 2 else p + 1) = q1 at *
        have t2 : SR o (c + 1) W E (q_up M3 1 2 (q1 : Int)) := S3.exc1 ho (Exc.up (by simp))
        have t3 : VW (q_up M3 1 2 (q1 : Int)) := V3.up (by decide)
        have t4 : SF o M (q_up M3 1 2 (q1 : Int)) := f3.tr (SF.up ho (by omega))
        refine st_aload_n dX7_readSign_121 rfl ?_
        refine st_iload_n dX7_readSign_122 rfl ?_
        refine st_iload_n dX7_readSign_123 rfl ?_
        refine c_S2p (d' := d - 1) dX7_readSign_124 l_X7_147 k_X7_signOf s_X7_signOf (by omega) (Nat.le_of_ble_eq_true rfl) (C_signOf hsg) ?_
        refine c_V1v (d' := d - 1) dX7_readSign_127 l_X7_128 k_X7_hold i_X7_hold (Or.inl ⟨_, _, _, _, _, (by first | with_reducible assumption | rfl), by rfl⟩) (by omega) (Nat.le_of_ble_eq_true rfl) (C_hold (by omega) (by rw [t2.1.1]; omega)) (fun M6 N6 hx => ?_)
        obtain ⟨rfl, hM6⟩ := hx
        refine r_v dX7_readSign_130 rfl ⟨rfl, ⟨by rw [hM6]; exact t3.hold (by omega), t4.tr (by rw [hM6]; exact SF.hold ho)⟩, Or.inl ⟨_, _, _, rfl, by rw [hM6]; exact t1.hold, by rw [hM6]; exact t2.hold ho (by omega) (by omega)⟩⟩
    refine st_istore_n (L' := [_, _, _, _]) dX7_readSign_18 (by decide) rfl rfl ?_
    refine st_aload_n dX7_readSign_19 rfl ?_
    refine st_getfr dX7_readSign_20 f_X7_15 (by first | with_reducible assumption | rfl) (by rfl) ?_
    refine st_getfi dX7_readSign_23 f_X7_60 (by first | with_reducible assumption | rfl) (by rfl) ?_
    rw [T2.2.2.1]
    refine st_istore_n (L' := [_, _, _, _]) dX7_readSign_26 (by decide) rfl rfl ?_
    refine st_iload_n dX7_readSign_27 rfl ?_
    refine st_bipush dX7_readSign_28 (by decide) ?_
    refine st_icmp_eq (tgt := 55) dX7_readSign_30 (by omega) (by omega) rfl (fun c3 => ?_) (fun c3 => ?_)
    · skip
      exact on (Or.inl c3)
    · refine st_iload_n dX7_readSign_33 rfl ?_
      refine st_bipush dX7_readSign_34 (by decide) ?_
      refine st_icmp_eq (tgt := 55) dX7_readSign_36 (by omega) (by omega) rfl (fun c4 => ?_) (fun c4 => ?_)
      · skip
        exact on (Or.inr (Or.inl c4))
      · refine st_iload_n dX7_readSign_39 rfl ?_
        refine st_bipush dX7_readSign_40 (by decide) ?_
        refine st_icmp_eq (tgt := 55) dX7_readSign_42 (by omega) (by omega) rfl (fun c5 => ?_) (fun c5 => ?_)
        · skip
          exact on (Or.inr (Or.inr c5))
        · refine st_aload_n dX7_readSign_45 rfl ?_
          refine st_getfr dX7_readSign_46 f_X7_15 (by first | with_reducible assumption | rfl) (by rfl) ?_
          refine st_iload_n dX7_readSign_49 rfl ?_
          refine st_iconst dX7_readSign_50 ?_
          have hsp : sgP (M 2) n p c = .error (1 + 8 * (p : Int)) := by
            unfold sgP
            rw [if_neg (by omega)]
          rw [hsp]
          refine c_V2v (d' := d - 1) dX7_readSign_51 l_X7_69 k_X8_fail i_X8_fail (Or.inl ⟨_, _, _, _, _, (by first | with_reducible assumption | rfl), by rfl⟩) (by omega) (Nat.le_of_ble_eq_true rfl) (C_failT (k := 0) T2 (by omega) (by omega)) (fun M4 N4 hx => ?_)
          obtain ⟨rfl, k1, k2⟩ := hx
          refine r_v dX7_readSign_54 rfl ⟨rfl, ⟨V2.exc k1 (by simp), f2.tr (k1.sf ho (by simp))⟩, Or.inr ⟨_, rfl, ?_, (S2.exc1 ho k1).se (by omega) (by omega) (by omega)⟩⟩
          rw [show (1 + 8 * (p : Int)) = 1 + 8 * (p : Int) + ((0 : Nat) : Int) by omega]
          exact k2
  · skip
    exact absurd hT.2.2.2.2 c2
/-- what waits in brackets, taken off -/
theorem SR.close {o c : Nat} {W E : List Int} {M : q_Mem} (ho : isRu o) (h : SR o c (24 :: W) E M) : SR o c W E (q_up (q_up (q_up M 84 2 (W.length : Int)) 84 5 (bK W : Int)) 84 4 (dK W : Int)) := by
  unfold isRu at ho
  obtain ⟨⟨a1, a2, a3, a4, a5⟩, a6, a7⟩ := h
  refine ⟨⟨?_, ?_, ?_, ?_, ?_⟩, ?_, ?_⟩
  · simp [q_up]
  · rw [q_up_ne (by decide), q_up_ne (by decide), q_up_ne (by decide)]
    exact a2.2
  · simp [q_up, a3]
  · simp [q_up]
  · simp [q_up]
  · rw [q_up_ne (by omega), q_up_ne (by omega), q_up_ne (by omega)]
    exact a6
  · rw [q_up_ne (by omega), q_up_ne (by omega), q_up_ne (by omega)]
    exact a7
def sgOk (sg : List Int) : Prop := sg = [] ∨ ∃ x : Int, sg = [x] ∧ 16 ≤ x ∧ x ≤ 20
theorem sgOk.stl {sg K E : List Int} {lv : Int} (h : sgOk sg) (hl : lv ≤ 4) : stl lv (sg ++ K) E = stl lv K (E ++ sg) := by
  rcases h with rfl | ⟨x, rfl, hx⟩
  · rw [List.nil_append, List.append_nil]
  · rw [List.singleton_append, stl_c, if_neg (by rw [lvl_s hx]; omega)]
theorem sgOk.k {sg K : List Int} (h : sgOk sg) : bK (sg ++ K) = bK K ∧ dK (sg ++ K) = dK K ∧ (sg ++ K).length ≤ K.length + 1 ∧ sg.length ≤ 1 ∧ ∀ x, x ∈ sg → 11 ≤ x ∧ x ≤ 24 := by
  rcases h with rfl | ⟨x, rfl, hx⟩
  · exact ⟨rfl, rfl, by simp, by simp, fun x hx => by simp at hx⟩
  · refine ⟨?_, ?_, by simp, by simp, fun y hy => ?_⟩
    · rw [List.singleton_append, bK_c, if_neg (by omega), Nat.zero_add]
    · rw [List.singleton_append, dK_c, if_neg (by omega), Nat.zero_add]
    · simp at hy
      omega
theorem C_closeFactsE {G : q_G} {d : Nat} {M : q_Mem} {N : q_MemL} {o n : Nat} {k F : Int} (hd : 1 ≤ d) (hT : TE M n F) (h : SE o k M) (hk : k ≤ 50000) : AC0 G d m_X7_closeFacts [.ref 84, .ref o] M N (CN (fun M1 N1 => N1 = N ∧ M1 = M)) := by
  have h5 := h.2.2.2.1
  refine AC.of (L0 := [_, _, none]) pn_X7 (Nat.le_of_ble_eq_true rfl) rfl ?_
  refine st_iconst dX7_closeFacts_0 ?_
  refine st_istore_n (L' := [_, _, _]) dX7_closeFacts_1 (by decide) rfl rfl ?_
  refine st_iload_n dX7_closeFacts_2 rfl ?_
  refine st_sipush dX7_closeFacts_3 (by decide) ?_
  refine st_icmp_ge (tgt := 100) dX7_closeFacts_6 (by omega) (by omega) rfl (fun c1 => ?_) (fun c1 => ?_)
  · skip
    omega
  · refine st_aload_n dX7_closeFacts_9 rfl ?_
    refine st_getfi dX7_closeFacts_10 f_X7_42 (by first | with_reducible assumption | rfl) (by rfl) ?_
    refine st_if_le (tgt := 100) dX7_closeFacts_13 (by omega) rfl (fun c2 => ?_) (fun c2 => ?_)
    · skip
      refine r_v dX7_closeFacts_100 rfl ⟨rfl, rfl⟩
    · refine st_aload_n dX7_closeFacts_16 rfl ?_
      refine st_getfr dX7_closeFacts_17 f_X7_15 (by first | with_reducible assumption | rfl) (by rfl) ?_
      refine c_V0p (d' := d - 1) dX7_closeFacts_20 l_X7_89 k_X8_failed i_X8_failed (Or.inl ⟨_, _, _, _, _, (by first | with_reducible assumption | rfl), by rfl⟩) (by omega) (Nat.le_of_ble_eq_true rfl) (C_failed (by rw [hT.2.2.2.1]; unfold i32; have := hT.2.2.2.2; omega)) ?_
      refine b_ne (tgt := 100) dX7_closeFacts_23 rfl (fun c3 => ?_) (fun c3 => ?_)
      · skip
        refine r_v dX7_closeFacts_100 rfl ⟨rfl, rfl⟩
      · skip
        exact absurd (by rw [hT.2.2.2.1]; exact hT.2.2.2.2.1) c3
theorem C_closeFacts {G : q_G} {d : Nat} {M : q_Mem} {N : q_MemL} {o n p c m : Nat} {sg K Es E0 : List Int} (hd : 4 ≤ d) (ho : isRu o) (hT : TP M n p) (hsg : sgOk sg) (h : SR o c (sg ++ K) Es M) (hV : VW M) (hI : TI n 1 p c K (Es ++ sg) E0) (hm : n - p < m) : AC0 G d m_X7_closeFacts [.ref 84, .ref o] M N (CN (fun M1 N1 => N1 = N ∧ (VW M1 ∧ SF o M M1) ∧ ∃ m1 p1 K1 sg1 Es1, tstP (M 2) n m false p c K (Es ++ sg) = tstP (M 2) n m1 false p1 c K1 (Es1 ++ sg1) ∧ (n - p1 < m1 ∧ p ≤ p1) ∧ sgOk sg1 ∧ TP M1 n p1 ∧ SR o c (sg1 ++ K1) Es1 M1 ∧ TI n 1 p1 c K1 (Es1 ++ sg1) E0 ∧ (bK K1 = 0 ∨ ¬ bytA (M 2) n (skip (M 2) n p1 : Nat) = 93))) := by
  have hn4 := hT.2.1
  have loop : ∀ (m i p : Nat) (sg K Es : List Int) (M1 : q_Mem), i + bK K ≤ 10 → n - p < m → TP M1 n p → sgOk sg → SR o c (sg ++ K) Es M1 → VW M1 → SF o M M1 → TI n 1 p c K (Es ++ sg) E0 → AW0 G d m_X7_closeFacts 2 [some (.ref 84), some (.ref o), some (I i)] [] M1 N (CN (fun M1 N1 => N1 = N ∧ (VW M1 ∧ SF o M M1) ∧ ∃ m1 p1 K1 sg1 Es1, tstP (M 2) n m false p c K (Es ++ sg) = tstP (M 2) n m1 false p1 c K1 (Es1 ++ sg1) ∧ (n - p1 < m1 ∧ p ≤ p1) ∧ sgOk sg1 ∧ TP M1 n p1 ∧ SR o c (sg1 ++ K1) Es1 M1 ∧ TI n 1 p1 c K1 (Es1 ++ sg1) E0 ∧ (bK K1 = 0 ∨ ¬ bytA (M 2) n (skip (M 2) n p1 : Nat) = 93))) := by
    intro m
    induction m with
    | zero =>
      intro i p sg K Es M1 hi hm
      omega
    | succ m ih =>
      intro i p sg K Es M1 hi hm hT hsg h hV hf hI
      have e2 := hf.row2 ho
      have hl := hI.len hn4
      have hsk := hsg.k (K := K)
      have hs := skip_le (M 2) n p
      have hqn := hs.2.1 hT.2.2.2.1
      have hss := skip_skip (M 2) n p
      have hI2 := hI.skp (f := M 2)
      have hskE := tstP_sk (f := M 2) (n := n) (m := m + 1) (p := p) (c := c) (w := false) (K := K) (E := Es ++ sg)
      have a5 : M1 84 5 = (bK K : Int) := by rw [← hsk.1]; exact h.1.2.2.2.2
      refine st_iload_n dX7_closeFacts_2 rfl ?_
      refine st_sipush dX7_closeFacts_3 (by decide) ?_
      refine st_icmp_ge (tgt := 100) dX7_closeFacts_6 (by omega) (by omega) rfl (fun c1 => ?_) (fun c1 => ?_)
      · skip
        omega
      · refine st_aload_n dX7_closeFacts_9 rfl ?_
        refine st_getfi dX7_closeFacts_10 f_X7_42 (by first | with_reducible assumption | rfl) (by rfl) ?_
        rw [a5]
        refine st_if_le (tgt := 100) dX7_closeFacts_13 (by omega) rfl (fun c2 => ?_) (fun c2 => ?_)
        · skip
          refine r_v dX7_closeFacts_100 rfl ⟨rfl, ⟨hV, hf⟩, m + 1, p, K, sg, Es, rfl, ⟨hm, Nat.le_refl _⟩, hsg, hT, h, hI, Or.inl (by omega)⟩
        · refine st_aload_n dX7_closeFacts_16 rfl ?_
          refine st_getfr dX7_closeFacts_17 f_X7_15 (by first | with_reducible assumption | rfl) (by rfl) ?_
          refine c_V0p (d' := d - 1) dX7_closeFacts_20 l_X7_89 k_X8_failed i_X8_failed (Or.inl ⟨_, _, _, _, _, (by first | with_reducible assumption | rfl), by rfl⟩) (by omega) (Nat.le_of_ble_eq_true rfl) (C_failed (by rw [hT.2.2.2.2]; unfold i32; omega)) ?_
          refine b_ne (tgt := 100) dX7_closeFacts_23 rfl (fun c3 => ?_) (fun c3 => ?_)
          · skip
            exact absurd hT.2.2.2.2 c3
          · refine st_aload_n dX7_closeFacts_26 rfl ?_
            refine st_getfr dX7_closeFacts_27 f_X7_15 (by first | with_reducible assumption | rfl) (by rfl) ?_
            refine c_V0i (d' := d - 1) dX7_closeFacts_30 l_X7_56 k_X8_peek i_X8_peek (Or.inl ⟨_, _, _, _, _, (by first | with_reducible assumption | rfl), by rfl⟩) (by omega) (Nat.le_of_ble_eq_true rfl) (C_peekT (by omega) hT) (fun x M2 N2 hx => ?_)
            obtain ⟨rfl, rfl, hM2, T2⟩ := hx
            rw [e2] at hM2 T2
            rw [e2, ← hskE]
            have x2 : Exc [1] M1 M2 := by rw [hM2]; exact Exc.up (by simp)
            have hpq := hs.1
            generalize skip (M 2) n p = q at *
            have S2 : SR o c (sg ++ K) Es M2 := h.exc1 ho x2
            have V2 : VW M2 := hV.exc x2 (by simp)
            have f2 : SF o M M2 := hf.tr (x2.sf ho (by simp))
            have hb := bytA_rng (M 2) n (q : Int)
            refine st_bipush dX7_closeFacts_33 (by decide) ?_
            refine st_icmp_eq (tgt := 41) dX7_closeFacts_35 (by omega) (by omega) rfl (fun c4 => ?_) (fun c4 => ?_)
            · skip
              have hlt := byt_lt c4 (by decide)
              refine st_aload_n dX7_closeFacts_41 rfl ?_
              refine st_getfr dX7_closeFacts_42 f_X7_15 (by first | with_reducible assumption | rfl) (by rfl) ?_
              refine st_dup dX7_closeFacts_45 rfl ?_
              refine st_getfi dX7_closeFacts_46 f_X7_60 (by first | with_reducible assumption | rfl) (by rfl) ?_
              rw [T2.2.2.1]
              refine st_iconst dX7_closeFacts_49 ?_
              refine st_iadd dX7_closeFacts_50 ?_
              refine st_putfi dX7_closeFacts_51 w_X7_60 (by first | with_reducible assumption | rfl) (by rfl) rfl rfl ?_
              refine st_aload_n dX7_closeFacts_54 rfl ?_
              refine st_aload_n dX7_closeFacts_55 rfl ?_
              refine st_bipush dX7_closeFacts_56 (by decide) ?_
              have T3 : TP (q_up M2 1 2 ((q : Int) + 1)) n (q + 1) := by
                have := T2.up (q := q + 1) (by omega)
                rw [show ((q + 1 : Nat) : Int) = (q : Int) + 1 by omega] at this
                exact this
              have x3 : Exc [1] M2 (q_up M2 1 2 ((q : Int) + 1)) := Exc.up (by simp)
              have S3 : SR o c (sg ++ K) Es (q_up M2 1 2 ((q : Int) + 1)) := S2.exc1 ho x3
              have V3 : VW (q_up M2 1 2 ((q : Int) + 1)) := V2.exc x3 (by simp)
              have f3 : SF o M (q_up M2 1 2 ((q : Int) + 1)) := f2.tr (x3.sf ho (by simp))
              generalize q_up M2 1 2 ((q : Int) + 1) = M3 at *
              refine c_S1p (d' := d - 1) dX7_closeFacts_58 l_X7_122 k_X7_level s_X7_level (by omega) (Nat.le_of_ble_eq_true rfl) (C_level (by unfold i32; omega)) ?_
              rw [show lvl 23 = 1 by decide]
              have hEl : Es.length ≤ 253 := by
                have := hl.2.1
                rw [List.length_append] at this
                omega
              have hWc : ∀ x, x ∈ sg ++ K → 11 ≤ x ∧ x ≤ 24 := by
                intro x hx
                rcases List.mem_append.1 hx with hx | hx
                · exact hsk.2.2.2.2 x hx
                · have := SK_mem hI.1 x hx
                  omega
              refine c_V2v (d' := d - 1) dX7_closeFacts_61 l_X7_125 k_X7_settle i_X7_settle (Or.inl ⟨_, _, _, _, _, (by first | with_reducible assumption | rfl), by rfl⟩) (by omega) (Nat.le_of_ble_eq_true rfl) (C_settle (by omega) ho S3 V3 (by omega) (by omega) (by omega) hWc) (fun M4 N4 hx => ?_)
              obtain ⟨rfl, k1, k2, k3, k4⟩ := hx
              rw [hsg.stl (by omega)] at k4
              have T4 := T3.exc7 ho k3
              have hb1 := (stl_ok (lv := 1) (by omega) K (Es ++ sg) hI.1)
              cases hK1 : (stl 1 K (Es ++ sg)).1 with
              | nil =>
                rw [hK1] at hb1
                have := hb1.2.2.2.1
                have : bK [] = 0 := rfl
                omega
              | cons y K2 =>
                obtain ⟨hI3, rfl⟩ := hI2.clo hK1 c4
                rw [hK1] at k4
                have hbb := hb1.2.2.2.1
                rw [hK1, bK_c, if_pos rfl] at hbb
                have hT1 := tstP_f (f := M 2) (n := n) (m := m) (p := q) (c := c) (K := K) (E := Es ++ sg)
                rw [hss, if_neg (fun z => by rw [ch26] at z; have := wd_hd z; omega), if_neg (fun z => by rw [ch27] at z; have := wd_hd z; omega), hK1] at hT1
                dsimp only at hT1
                rw [if_pos c4] at hT1
                have w2 : M4 84 2 = ((K2.length + 1 : Nat) : Int) := k4.1.1
                have w5 : M4 84 5 = ((bK K2 + 1 : Nat) : Int) := by
                  have := k4.1.2.2.2.2
                  rw [bK_c, if_pos rfl] at this
                  omega
                have w4 : M4 84 4 = ((dK K2 + 1 : Nat) : Int) := by
                  have := k4.1.2.2.2.1
                  rw [dK_c, if_pos (by omega)] at this
                  omega
                refine st_aload_n dX7_closeFacts_64 rfl ?_
                refine st_dup dX7_closeFacts_65 rfl ?_
                refine st_getfi dX7_closeFacts_66 f_X7_33 (by first | with_reducible assumption | rfl) (by rfl) ?_
                rw [w2, show ((K2.length + 1 : Nat) : Int) = (K2.length : Int) + 1 by omega]
                refine st_iconst dX7_closeFacts_69 ?_
                refine st_isub dX7_closeFacts_70 ?_
                refine st_putfi dX7_closeFacts_71 w_X7_33 (by first | with_reducible assumption | rfl) (by rfl) rfl rfl ?_
                refine st_aload_n dX7_closeFacts_74 rfl ?_
                refine st_dup dX7_closeFacts_75 rfl ?_
                refine st_getfi dX7_closeFacts_76 f_X7_42 (by first | with_reducible assumption | rfl) (by rfl) ?_
                rw [show q_up M4 84 2 ((K2.length : Int) + 1 - 1) 84 5 = (bK K2 : Int) + 1 by simp [q_up, w5]]
                refine st_iconst dX7_closeFacts_79 ?_
                refine st_isub dX7_closeFacts_80 ?_
                refine st_putfi dX7_closeFacts_81 w_X7_42 (by first | with_reducible assumption | rfl) (by rfl) rfl rfl ?_
                refine st_aload_n dX7_closeFacts_84 rfl ?_
                refine st_dup dX7_closeFacts_85 rfl ?_
                refine st_getfi dX7_closeFacts_86 f_X7_39 (by first | with_reducible assumption | rfl) (by rfl) ?_
                rw [show q_up (q_up M4 84 2 ((K2.length : Int) + 1 - 1)) 84 5 ((bK K2 : Int) + 1 - 1) 84 4 = (dK K2 : Int) + 1 by simp [q_up, w4]]
                refine st_iconst dX7_closeFacts_89 ?_
                refine st_isub dX7_closeFacts_90 ?_
                refine st_putfi dX7_closeFacts_91 w_X7_39 (by first | with_reducible assumption | rfl) (by rfl) rfl rfl ?_
                refine st_iinc (L' := [_, _, _]) dX7_closeFacts_94 rfl (by decide) rfl rfl ?_
                refine st_goto (tgt := 2) dX7_closeFacts_97 rfl ?_
                have S5 := k4.close ho
                rw [hT1]
                have e1 : ∀ z : Nat, (z : Int) + 1 - 1 = (z : Int) := fun z => by omega
                rw [e1, e1, e1]
                have ih2 := ih (i + 1) (q + 1) [] K2 (stl 1 K (Es ++ sg)).2 _ (by omega) (by omega) (((T4.ne (by decide)).ne (by decide)).ne (by decide)) (Or.inl rfl) S5 (((k2.up (by decide)).up (by decide)).up (by decide)) ((f3.tr k1).tr (((SF.up ho (by omega)).tr (SF.up ho (by omega))).tr (SF.up ho (by omega)))) (by rw [List.append_nil]; exact hI3)
                rw [List.append_nil] at ih2
                refine AW.mono (fun v S' M' N' hx => ?_) (AW.to ih2 (h2 := rfl))
                obtain ⟨j1, j2, j3, j4, m1, p1, K1, sg1, Es1, j5, ⟨j6, j7⟩, j8⟩ := hx
                exact ⟨j1, j2, j3, j4, m1, p1, K1, sg1, Es1, j5, ⟨j6, by omega⟩, j8⟩
            · refine st_goto (tgt := 100) dX7_closeFacts_38 rfl ?_
              refine r_v dX7_closeFacts_100 rfl ⟨rfl, ⟨V2, f2⟩, m + 1, q, K, sg, Es, rfl, ⟨by omega, hpq⟩, hsg, T2, S2, hI2, Or.inr (by rw [hss]; exact c4)⟩
  refine AC.of (L0 := [_, _, none]) pn_X7 (Nat.le_of_ble_eq_true rfl) rfl ?_
  refine st_iconst dX7_closeFacts_0 ?_
  refine st_istore_n (L' := [_, _, _]) dX7_closeFacts_1 (by decide) rfl rfl ?_
  have hbk := bK_le K
  have := hI.2.1
  exact AW.to (loop m 0 p sg K Es M (by omega) hm hT hsg h hV SF.rf hI)


/-! the reference reads a rule: terms, sums -/
theorem tmP_sk {f : Nat → Int} {n m p c : Nat} {E : List Int} : tmP f n m (skip f n p) c E = tmP f n m p c E := by
  cases m with
  | zero => rfl
  | succ m => rw [tmP_s, tmP_s, skip_skip]
theorem C_rblanksT {G : q_G} {d : Nat} {V : q_Mem} {N : q_MemL} {f : Nat → Int} {s n p c : Nat} {E : List Int} (hd : 1 ≤ d) (hf : V 132 = f) (hp : RP1 V n p) (hV : VR s c E V) : AC0 G d m_X11_blanks [.ref 112] V N (CN (fun V1 N1 => N1 = N ∧ RS1 s V V1 ∧ RP1 V1 n (skip f n p) ∧ VR s c E V1 ∧ Exc [112] V V1 ∧ fx V V1)) := by
  have hp0 := hp
  obtain ⟨a, b, e, hpn, h22⟩ := hp
  refine AC.mono (fun v S' M' N' hq => ?_) (C_blanks hd a b e (by omega))
  obtain ⟨hS, hv, hN, hM⟩ := hq
  rw [hf] at hM
  have f1 : fx V M' := by rw [hM]; exact fx.up (by omega)
  have E1 : Exc [112] V M' := by rw [hM]; exact Exc.up (by simp)
  exact ⟨hS, hv, hN, f1.rs E1, by rw [hM]; exact hp0.up ((skip_le f n p).2.1 hpn), hV.fx f1 E1, E1, f1⟩
theorem C_rblanksF {G : q_G} {d : Nat} {V : q_Mem} {N : q_MemL} {s n : Nat} {F k : Int} (hd : 1 ≤ d) (hp : RE1 V n F) (hV : VE s k V) : AC0 G d m_X11_blanks [.ref 112] V N (CN (fun V1 N1 => N1 = N ∧ RS1 s V V1 ∧ RE1 V1 n F ∧ VE s k V1)) := by
  refine AC.mono (fun v S' M' N' hq => ?_) (C_rblanksE hd hp)
  obtain ⟨hS, hv, hN, hE, hf, hT⟩ := hq
  exact ⟨hS, hv, hN, hf.rs hE, hT, hV.fx hf⟩
theorem C_rterm {G : q_G} {d : Nat} {V : q_Mem} {N : q_MemL} {f : Nat → Int} {s n p c : Nat} {E : List Int} (hd : 6 ≤ d) (hf : V 132 = f) (hb : tyB f n) (hp : RP1 V n p) (hV : VR s c E V) (hs : s ≤ 5) (hc : c ≤ 60) (hE : E.length + 2 * (60 - c) ≤ 290) : AC0 G d m_X11_term [.ref 112] V N (CN (fun V1 N1 => N1 = N ∧ rvQ s n V (teP f n p c E) V1)) := by
  have hn4 := hp.2.1
  have err : ∀ (V1 : q_Mem) (r : PS) (F : Int) (x1 : Option Value), RE1 V1 n F → VE s 100 V1 → RS1 s V V1 → r = .error F → AW0 G d m_X11_term 8 [some (.ref 112), x1] [] V1 N (CN (fun V1 N1 => N1 = N ∧ rvQ s n V r V1)) := by
    intro V1 r F x1 P1 W1 R1 hr
    have hF := P1.2.2.2.2
    refine st_aload_n dX11_term_8 rfl ?_
    refine st_getfi dX11_term_9 f_X11_220 (by first | with_reducible assumption | rfl) (by rfl) ?_
    rw [P1.2.2.2.1]
    refine st_if_ne (tgt := 100) dX11_term_12 (by omega) rfl (fun c1 => ?_) (fun c1 => ?_)
    · skip
      refine r_v dX11_term_100 rfl ⟨rfl, R1, Or.inr ⟨F, hr, P1, W1⟩⟩
    · skip
      exact absurd c1 P1.2.2.2.2.1
  have loop : ∀ (m p c : Nat) (E : List Int) (V1 : q_Mem) (x1 : Option Value), n - p < m → skip f n p = p → RP1 V1 n p → VR s c E V1 → RS1 s V V1 → c ≤ 60 → E.length + 2 * (60 - c) ≤ 290 → AW0 G d m_X11_term 8 [some (.ref 112), x1] [] V1 N (CN (fun V1 N1 => N1 = N ∧ rvQ s n V (tmP f n m p c E) V1)) := by
    intro m
    induction m with
    | zero =>
      intro p c E V1 x1 hm
      omega
    | succ m ih =>
      intro p c E V1 x1 hm hsk P1 W1 R1 hc hE
      have hf1 : V1 132 = f := R1.r132 hf
      have hbr := bytA_rng f n (p : Int)
      have hpn := P1.2.2.2.1
      rw [tmP_s, hsk]
      -- behind which sign
      have at72 : 13 ≤ opc (bytA f n (p : Int)) → ∀ w : Int, w = opR (opc (bytA f n (p : Int))) → AW0 G d m_X11_term 72 [some (.ref 112), x1] [I w] V1 N (CN (fun V1 N1 => N1 = N ∧ rvQ s n V (match valP f n (p + 1) c E with
            | .error F => .error F
            | .ok (p1, c1, E1) => tmP f n m p1 c1 (E1 ++ [opc (bytA f n (p : Int))])) V1)) := by
        intro ho w hw
        have hlt := opc_byte (f := f) (n := n) (p := p) (by omega)
        have hoc := opc_cs (bytA f n (p : Int))
        refine st_istore_n (L' := [_, _]) dX11_term_72 (by decide) rfl rfl ?_
        refine st_aload_n dX11_term_73 rfl ?_
        refine st_dup dX11_term_74 rfl ?_
        refine st_getfi dX11_term_75 f_X11_223 (by first | with_reducible assumption | rfl) (by rfl) ?_
        rw [P1.2.2.1]
        refine st_iconst dX11_term_78 ?_
        refine st_iadd dX11_term_79 ?_
        refine st_putfi dX11_term_80 w_X11_223 (by first | with_reducible assumption | rfl) (by rfl) rfl rfl ?_
        refine st_aload_n dX11_term_83 rfl ?_
        rw [show (p : Int) + 1 = ((p + 1 : Nat) : Int) by omega]
        have P2 : RP1 (q_up V1 112 21 ((p + 1 : Nat) : Int)) n (p + 1) := P1.up (by omega)
        have W2 : VR s c E (q_up V1 112 21 ((p + 1 : Nat) : Int)) := W1.fx (fx.up (by omega)) (Exc.up (by simp))
        have R2 : RS1 s V (q_up V1 112 21 ((p + 1 : Nat) : Int)) := R1.tr (RFk.up (by simp) (by simp))
        refine c_V0v (d' := d - 1) dX11_term_84 l_X11_280 k_X11_value i_X11_value (Or.inl ⟨_, _, _, _, _, (by first | with_reducible assumption | rfl), by rfl⟩) (by omega) (Nat.le_of_ble_eq_true rfl) (C_rvalue (by omega) (R2.r132 hf) hb P2 W2 hs hc (by omega)) (fun V3 N3 hx => ?_)
        obtain ⟨rfl, R3, hx⟩ := hx
        have R3' := R2.tr R3
        refine st_aload_n dX11_term_87 rfl ?_
        refine st_iload_n dX11_term_88 rfl ?_
        refine st_iconst dX11_term_89 ?_
        rcases hx with ⟨p1, c1, E1, k1, P3, W3⟩ | ⟨F, k1, P3, W3⟩
        · rw [k1]
          dsimp only
          obtain ⟨a1, a2, a3, a4, y, a5, a6⟩ := valP_ok (by omega) hc k1
          have hE1 : E1.length = E.length + 1 := by rw [a5]; simp
          refine c_V2v (d' := d - 1) dX11_term_90 l_X11_273 k_X11_entry i_X11_entry (Or.inl ⟨_, _, _, _, _, (by first | with_reducible assumption | rfl), by rfl⟩) (by omega) (Nat.le_of_ble_eq_true rfl) (C_entry (x := opc (bytA f n (p : Int))) P3 W3 hs (by omega) (Or.inr (Or.inr ⟨by omega, hw⟩))) (fun V4 N4 hx => ?_)
          obtain ⟨rfl, R4, P4, W4⟩ := hx
          refine st_aload_n dX11_term_93 rfl ?_
          refine c_V0v (d' := d - 1) dX11_term_94 l_X11_243 k_X11_blanks i_X11_blanks (Or.inl ⟨_, _, _, _, _, (by first | with_reducible assumption | rfl), by rfl⟩) (by omega) (Nat.le_of_ble_eq_true rfl) (C_rblanksT (by omega) (RS1.r132 (R3'.tr R4) hf) P4 W4) (fun V5 N5 hx => ?_)
          obtain ⟨rfl, R5, P5, W5, -⟩ := hx
          refine st_goto (tgt := 8) dX11_term_97 rfl ?_
          rw [← tmP_sk]
          have hs1 := skip_le f n p1
          exact ih (skip f n p1) c1 _ V5 _ (by omega) (skip_skip f n p1) P5 W5 ((R3'.tr R4).tr R5) (by omega) (by simp; omega)
        · rw [k1]
          refine c_V2v (d' := d - 1) dX11_term_90 l_X11_273 k_X11_entry i_X11_entry (Or.inl ⟨_, _, _, _, _, (by first | with_reducible assumption | rfl), by rfl⟩) (by omega) (Nat.le_of_ble_eq_true rfl) (C_entryE P3) (fun V4 N4 hx => ?_)
          obtain ⟨rfl, rfl⟩ := hx
          refine st_aload_n dX11_term_93 rfl ?_
          refine c_V0v (d' := d - 1) dX11_term_94 l_X11_243 k_X11_blanks i_X11_blanks (Or.inl ⟨_, _, _, _, _, (by first | with_reducible assumption | rfl), by rfl⟩) (by omega) (Nat.le_of_ble_eq_true rfl) (C_rblanksF (by omega) P3 W3) (fun V5 N5 hx => ?_)
          obtain ⟨rfl, R5, P5, W5⟩ := hx
          refine st_goto (tgt := 8) dX11_term_97 rfl ?_
          exact err V5 _ F _ P5 W5 (R3'.tr R5) rfl
      have at42 : 13 ≤ opc (bytA f n (p : Int)) → AW0 G d m_X11_term 42 [some (.ref 112), x1] [] V1 N (CN (fun V1 N1 => N1 = N ∧ rvQ s n V (match valP f n (p + 1) c E with
            | .error F => .error F
            | .ok (p1, c1, E1) => tmP f n m p1 c1 (E1 ++ [opc (bytA f n (p : Int))])) V1)) := by
        intro ho
        have hcs : bytA f n (p : Int) = 42 ∨ bytA f n (p : Int) = 47 ∨ bytA f n (p : Int) = 37 := by
          unfold opc at ho
          repeat' split at ho
          all_goals omega
        refine st_aload_n dX11_term_42 rfl ?_
        refine c_V0p (d' := d - 1) dX11_term_43 l_X11_226 k_X11_sign i_X11_sign (Or.inl ⟨_, _, _, _, _, (by first | with_reducible assumption | rfl), by rfl⟩) (by omega) (Nat.le_of_ble_eq_true rfl) (C_sign P1.1 hn4 P1.2.2.1 (by omega)) ?_
        rw [hf1]
        refine st_bipush dX11_term_46 (by decide) ?_
        refine st_icmp_ne (tgt := 56) dX11_term_48 (by omega) (by omega) rfl (fun c1 => ?_) (fun c1 => ?_)
        · refine st_aload_n dX11_term_56 rfl ?_
          refine c_V0p (d' := d - 1) dX11_term_57 l_X11_226 k_X11_sign i_X11_sign (Or.inl ⟨_, _, _, _, _, (by first | with_reducible assumption | rfl), by rfl⟩) (by omega) (Nat.le_of_ble_eq_true rfl) (C_sign P1.1 hn4 P1.2.2.1 (by omega)) ?_
          rw [hf1]
          refine st_bipush dX11_term_60 (by decide) ?_
          refine st_icmp_ne (tgt := 70) dX11_term_62 (by omega) (by omega) rfl (fun c2 => ?_) (fun c2 => ?_)
          · refine st_bipush dX11_term_70 (by decide) ?_
            exact at72 ho 15 (by rw [show bytA f n (p : Int) = 37 by omega]; rfl)
          · refine st_bipush dX11_term_65 (by decide) ?_
            refine st_goto (tgt := 72) dX11_term_67 rfl ?_
            exact at72 ho 14 (by rw [c2]; rfl)
        · refine st_bipush dX11_term_51 (by decide) ?_
          refine st_goto (tgt := 72) dX11_term_53 rfl ?_
          exact at72 ho 13 (by rw [c1]; rfl)
      have off : ¬ 13 ≤ opc (bytA f n (p : Int)) → AW0 G d m_X11_term 100 [some (.ref 112), x1] [] V1 N (CN (fun V1 N1 => N1 = N ∧ rvQ s n V (.ok (p, c, E)) V1)) := by
        intro ho
        refine r_v dX11_term_100 rfl ⟨rfl, R1, Or.inl ⟨_, _, _, rfl, P1, W1⟩⟩
      have yes : ∀ b : Int, (b = 42 ∨ b = 47 ∨ b = 37) → 13 ≤ opc b := by
        intro b hb
        rcases hb with rfl | rfl | rfl <;> decide
      refine st_aload_n dX11_term_8 rfl ?_
      refine st_getfi dX11_term_9 f_X11_220 (by first | with_reducible assumption | rfl) (by rfl) ?_
      rw [P1.2.2.2.2]
      refine st_if_ne (tgt := 100) dX11_term_12 (by omega) rfl (fun c1 => ?_) (fun c1 => ?_)
      · skip
        exact absurd rfl c1
      · refine st_aload_n dX11_term_15 rfl ?_
        refine c_V0p (d' := d - 1) dX11_term_16 l_X11_226 k_X11_sign i_X11_sign (Or.inl ⟨_, _, _, _, _, (by first | with_reducible assumption | rfl), by rfl⟩) (by omega) (Nat.le_of_ble_eq_true rfl) (C_sign P1.1 hn4 P1.2.2.1 (by omega)) ?_
        rw [hf1]
        refine st_bipush dX11_term_19 (by decide) ?_
        refine st_icmp_eq (tgt := 42) dX11_term_21 (by omega) (by omega) rfl (fun c2 => ?_) (fun c2 => ?_)
        · skip
          have ho := yes _ (Or.inl c2)
          rw [if_pos ho]
          exact at42 ho
        · refine st_aload_n dX11_term_24 rfl ?_
          refine c_V0p (d' := d - 1) dX11_term_25 l_X11_226 k_X11_sign i_X11_sign (Or.inl ⟨_, _, _, _, _, (by first | with_reducible assumption | rfl), by rfl⟩) (by omega) (Nat.le_of_ble_eq_true rfl) (C_sign P1.1 hn4 P1.2.2.1 (by omega)) ?_
          rw [hf1]
          refine st_bipush dX11_term_28 (by decide) ?_
          refine st_icmp_eq (tgt := 42) dX11_term_30 (by omega) (by omega) rfl (fun c3 => ?_) (fun c3 => ?_)
          · skip
            have ho := yes _ (Or.inr (Or.inl c3))
            rw [if_pos ho]
            exact at42 ho
          · refine st_aload_n dX11_term_33 rfl ?_
            refine c_V0p (d' := d - 1) dX11_term_34 l_X11_226 k_X11_sign i_X11_sign (Or.inl ⟨_, _, _, _, _, (by first | with_reducible assumption | rfl), by rfl⟩) (by omega) (Nat.le_of_ble_eq_true rfl) (C_sign P1.1 hn4 P1.2.2.1 (by omega)) ?_
            rw [hf1]
            refine st_bipush dX11_term_37 (by decide) ?_
            refine st_icmp_ne (tgt := 100) dX11_term_39 (by omega) (by omega) rfl (fun c4 => ?_) (fun c4 => ?_)
            · skip
              have ho : ¬ 13 ≤ opc (bytA f n (p : Int)) := by
                intro z
                unfold opc at z
                repeat' split at z
                all_goals omega
              rw [if_neg ho]
              exact off ho
            · skip
              have ho := yes _ (Or.inr (Or.inr c4))
              rw [if_pos ho]
              exact at42 ho
  unfold teP
  refine AC.of (L0 := [_, none]) pn_X11 (Nat.le_of_ble_eq_true rfl) rfl ?_
  refine st_aload_n dX11_term_0 rfl ?_
  refine c_V0v (d' := d - 1) dX11_term_1 l_X11_280 k_X11_value i_X11_value (Or.inl ⟨_, _, _, _, _, (by first | with_reducible assumption | rfl), by rfl⟩) (by omega) (Nat.le_of_ble_eq_true rfl) (C_rvalue (by omega) hf hb hp hV hs hc (by omega)) (fun V1 N1 hx => ?_)
  obtain ⟨rfl, R1, hx⟩ := hx
  rcases hx with ⟨p1, c1, E1, k1, P1, W1⟩ | ⟨F, k1, P1, W1⟩
  · rw [k1]
    dsimp only
    obtain ⟨a1, a2, a3, a4, y, a5, a6⟩ := valP_ok hp.2.2.2.1 hc k1
    have hE1 : E1.length = E.length + 1 := by rw [a5]; simp
    refine st_aload_n dX11_term_4 rfl ?_
    refine c_V0v (d' := d - 1) dX11_term_5 l_X11_243 k_X11_blanks i_X11_blanks (Or.inl ⟨_, _, _, _, _, (by first | with_reducible assumption | rfl), by rfl⟩) (by omega) (Nat.le_of_ble_eq_true rfl) (C_rblanksT (by omega) (R1.r132 hf) P1 W1) (fun V5 N5 hx => ?_)
    obtain ⟨rfl, R5, P5, W5, -⟩ := hx
    have hs1 := skip_le f n p1
    rw [← tmP_sk]
    exact loop 401 (skip f n p1) c1 E1 V5 _ (by omega) (skip_skip f n p1) P5 W5 (R1.tr R5) (by omega) (by omega)
  · rw [k1]
    refine st_aload_n dX11_term_4 rfl ?_
    refine c_V0v (d' := d - 1) dX11_term_5 l_X11_243 k_X11_blanks i_X11_blanks (Or.inl ⟨_, _, _, _, _, (by first | with_reducible assumption | rfl), by rfl⟩) (by omega) (Nat.le_of_ble_eq_true rfl) (C_rblanksF (by omega) P1 W1) (fun V5 N5 hx => ?_)
    obtain ⟨rfl, R5, P5, W5⟩ := hx
    exact err V5 _ F _ P5 W5 (R1.tr R5) rfl
theorem C_rtermE {G : q_G} {d : Nat} {V : q_Mem} {N : q_MemL} {f : Nat → Int} {s n : Nat} {F k : Int} (hd : 6 ≤ d) (hf : V 132 = f) (hb : tyB f n) (hp : RE1 V n F) (hV : VE s k V) (hk : k ≤ 40000) : AC0 G d m_X11_term [.ref 112] V N (CN (fun V1 N1 => N1 = N ∧ RS1 s V V1 ∧ RE1 V1 n F ∧ VE s (k + 1) V1)) := by
  refine AC.of (L0 := [_, none]) pn_X11 (Nat.le_of_ble_eq_true rfl) rfl ?_
  refine st_aload_n dX11_term_0 rfl ?_
  refine c_V0v (d' := d - 1) dX11_term_1 l_X11_280 k_X11_value i_X11_value (Or.inl ⟨_, _, _, _, _, (by first | with_reducible assumption | rfl), by rfl⟩) (by omega) (Nat.le_of_ble_eq_true rfl) (C_rvalueE (by omega) hf hb hp hV hk) (fun V1 N1 hx => ?_)
  obtain ⟨rfl, R1, P1, W1⟩ := hx
  refine st_aload_n dX11_term_4 rfl ?_
  refine c_V0v (d' := d - 1) dX11_term_5 l_X11_243 k_X11_blanks i_X11_blanks (Or.inl ⟨_, _, _, _, _, (by first | with_reducible assumption | rfl), by rfl⟩) (by omega) (Nat.le_of_ble_eq_true rfl) (C_rblanksF (by omega) P1 W1) (fun V2 N2 hx => ?_)
  obtain ⟨rfl, R2, P2, W2⟩ := hx
  have hF := P2.2.2.2.2
  refine st_aload_n dX11_term_8 rfl ?_
  refine st_getfi dX11_term_9 f_X11_220 (by first | with_reducible assumption | rfl) (by rfl) ?_
  rw [P2.2.2.2.1]
  refine st_if_ne (tgt := 100) dX11_term_12 (by omega) rfl (fun c1 => ?_) (fun c1 => ?_)
  · skip
    refine r_v dX11_term_100 rfl ⟨rfl, R1.tr R2, P2, W2⟩
  · skip
    exact absurd c1 P2.2.2.2.2.1
theorem C_rsum {G : q_G} {d : Nat} {V : q_Mem} {N : q_MemL} {f : Nat → Int} {s n p c : Nat} {E : List Int} (hd : 7 ≤ d) (hf : V 132 = f) (hb : tyB f n) (hp : RP1 V n p) (hV : VR s c E V) (hs : s ≤ 5) (hc : c ≤ 60) (hE : E.length + 2 * (60 - c) ≤ 290) : AC0 G d m_X11_sum [.ref 112] V N (CN (fun V1 N1 => N1 = N ∧ rvQ s n V (sumP f n p c E) V1)) := by
  have hn4 := hp.2.1
  have err : ∀ (V1 : q_Mem) (r : PS) (F : Int) (x1 : Option Value), RE1 V1 n F → VE s 100 V1 → RS1 s V V1 → r = .error F → AW0 G d m_X11_sum 4 [some (.ref 112), x1] [] V1 N (CN (fun V1 N1 => N1 = N ∧ rvQ s n V r V1)) := by
    intro V1 r F x1 P1 W1 R1 hr
    have hF := P1.2.2.2.2
    refine st_aload_n dX11_sum_4 rfl ?_
    refine st_getfi dX11_sum_5 f_X11_220 (by first | with_reducible assumption | rfl) (by rfl) ?_
    rw [P1.2.2.2.1]
    refine st_if_ne (tgt := 67) dX11_sum_8 (by omega) rfl (fun c1 => ?_) (fun c1 => ?_)
    · skip
      refine r_v dX11_sum_67 rfl ⟨rfl, R1, Or.inr ⟨F, hr, P1, W1⟩⟩
    · skip
      exact absurd c1 P1.2.2.2.2.1
  have loop : ∀ (m p c : Nat) (E : List Int) (V1 : q_Mem) (x1 : Option Value), n - p < m → skip f n p = p → RP1 V1 n p → VR s c E V1 → RS1 s V V1 → c ≤ 60 → E.length + 2 * (60 - c) ≤ 290 → AW0 G d m_X11_sum 4 [some (.ref 112), x1] [] V1 N (CN (fun V1 N1 => N1 = N ∧ rvQ s n V (smP f n m p c E) V1)) := by
    intro m
    induction m with
    | zero =>
      intro p c E V1 x1 hm
      omega
    | succ m ih =>
      intro p c E V1 x1 hm hsk P1 W1 R1 hc hE
      have hf1 : V1 132 = f := R1.r132 hf
      have hbr := bytA_rng f n (p : Int)
      have hpn := P1.2.2.2.1
      rw [smP_s, hsk]
      have at43 : (opc (bytA f n (p : Int)) = 11 ∨ opc (bytA f n (p : Int)) = 12) → ∀ w : Int, w = opR (opc (bytA f n (p : Int))) → AW0 G d m_X11_sum 43 [some (.ref 112), x1] [I w] V1 N (CN (fun V1 N1 => N1 = N ∧ rvQ s n V (match teP f n (p + 1) c E with
            | .error F => .error F
            | .ok (p1, c1, E1) => smP f n m p1 c1 (E1 ++ [opc (bytA f n (p : Int))])) V1)) := by
        intro ho w hw
        have hlt := opc_byte (f := f) (n := n) (p := p) (by omega)
        refine st_istore_n (L' := [_, _]) dX11_sum_43 (by decide) rfl rfl ?_
        refine st_aload_n dX11_sum_44 rfl ?_
        refine st_dup dX11_sum_45 rfl ?_
        refine st_getfi dX11_sum_46 f_X11_223 (by first | with_reducible assumption | rfl) (by rfl) ?_
        rw [P1.2.2.1]
        refine st_iconst dX11_sum_49 ?_
        refine st_iadd dX11_sum_50 ?_
        refine st_putfi dX11_sum_51 w_X11_223 (by first | with_reducible assumption | rfl) (by rfl) rfl rfl ?_
        refine st_aload_n dX11_sum_54 rfl ?_
        rw [show (p : Int) + 1 = ((p + 1 : Nat) : Int) by omega]
        have P2 : RP1 (q_up V1 112 21 ((p + 1 : Nat) : Int)) n (p + 1) := P1.up (by omega)
        have W2 : VR s c E (q_up V1 112 21 ((p + 1 : Nat) : Int)) := W1.fx (fx.up (by omega)) (Exc.up (by simp))
        have R2 : RS1 s V (q_up V1 112 21 ((p + 1 : Nat) : Int)) := R1.tr (RFk.up (by simp) (by simp))
        refine c_V0v (d' := d - 1) dX11_sum_55 l_X11_283 k_X11_term i_X11_term (Or.inl ⟨_, _, _, _, _, (by first | with_reducible assumption | rfl), by rfl⟩) (by omega) (Nat.le_of_ble_eq_true rfl) (C_rterm (by omega) (R2.r132 hf) hb P2 W2 hs hc (by omega)) (fun V3 N3 hx => ?_)
        obtain ⟨rfl, R3, hx⟩ := hx
        have R3' := R2.tr R3
        refine st_aload_n dX11_sum_58 rfl ?_
        refine st_iload_n dX11_sum_59 rfl ?_
        refine st_iconst dX11_sum_60 ?_
        rcases hx with ⟨p1, c1, E1, k1, P3, W3⟩ | ⟨F, k1, P3, W3⟩
        · rw [k1]
          dsimp only
          obtain ⟨⟨a1, a2, a3, a4, a5, -⟩, sa, a6, a7, a8⟩ := teP_ok (by omega) hc k1
          have hE1 : E1.length = E.length + sa.length := by rw [a6]; simp
          refine c_V2v (d' := d - 1) dX11_sum_61 l_X11_273 k_X11_entry i_X11_entry (Or.inl ⟨_, _, _, _, _, (by first | with_reducible assumption | rfl), by rfl⟩) (by omega) (Nat.le_of_ble_eq_true rfl) (C_entry (x := opc (bytA f n (p : Int))) P3 W3 hs (by omega) (Or.inr (Or.inr ⟨by omega, hw⟩))) (fun V4 N4 hx => ?_)
          obtain ⟨rfl, R4, P4, W4⟩ := hx
          refine st_goto (tgt := 4) dX11_sum_64 rfl ?_
          exact ih p1 c1 _ V4 _ (by omega) a5 P4 W4 (R3'.tr R4) (by omega) (by simp; omega)
        · rw [k1]
          refine c_V2v (d' := d - 1) dX11_sum_61 l_X11_273 k_X11_entry i_X11_entry (Or.inl ⟨_, _, _, _, _, (by first | with_reducible assumption | rfl), by rfl⟩) (by omega) (Nat.le_of_ble_eq_true rfl) (C_entryE P3) (fun V4 N4 hx => ?_)
          obtain ⟨rfl, rfl⟩ := hx
          refine st_goto (tgt := 4) dX11_sum_64 rfl ?_
          exact err V4 _ F _ P3 W3 R3' rfl
      have at29 : (opc (bytA f n (p : Int)) = 11 ∨ opc (bytA f n (p : Int)) = 12) → AW0 G d m_X11_sum 29 [some (.ref 112), x1] [] V1 N (CN (fun V1 N1 => N1 = N ∧ rvQ s n V (match teP f n (p + 1) c E with
            | .error F => .error F
            | .ok (p1, c1, E1) => smP f n m p1 c1 (E1 ++ [opc (bytA f n (p : Int))])) V1)) := by
        intro ho
        have hcs : bytA f n (p : Int) = 43 ∨ bytA f n (p : Int) = 45 := by
          unfold opc at ho
          repeat' split at ho
          all_goals omega
        refine st_aload_n dX11_sum_29 rfl ?_
        refine c_V0p (d' := d - 1) dX11_sum_30 l_X11_226 k_X11_sign i_X11_sign (Or.inl ⟨_, _, _, _, _, (by first | with_reducible assumption | rfl), by rfl⟩) (by omega) (Nat.le_of_ble_eq_true rfl) (C_sign P1.1 hn4 P1.2.2.1 (by omega)) ?_
        rw [hf1]
        refine st_bipush dX11_sum_33 (by decide) ?_
        refine st_icmp_ne (tgt := 42) dX11_sum_35 (by omega) (by omega) rfl (fun c1 => ?_) (fun c1 => ?_)
        · refine st_iconst dX11_sum_42 ?_
          exact at43 ho 3 (by rw [show bytA f n (p : Int) = 45 by omega]; rfl)
        · refine st_iconst dX11_sum_38 ?_
          refine st_goto (tgt := 43) dX11_sum_39 rfl ?_
          exact at43 ho 2 (by rw [c1]; rfl)
      have yes : ∀ b : Int, (b = 43 ∨ b = 45) → (opc b = 11 ∨ opc b = 12) := by
        intro b hb
        rcases hb with rfl | rfl <;> decide
      refine st_aload_n dX11_sum_4 rfl ?_
      refine st_getfi dX11_sum_5 f_X11_220 (by first | with_reducible assumption | rfl) (by rfl) ?_
      rw [P1.2.2.2.2]
      refine st_if_ne (tgt := 67) dX11_sum_8 (by omega) rfl (fun c1 => ?_) (fun c1 => ?_)
      · skip
        exact absurd rfl c1
      · refine st_aload_n dX11_sum_11 rfl ?_
        refine c_V0p (d' := d - 1) dX11_sum_12 l_X11_226 k_X11_sign i_X11_sign (Or.inl ⟨_, _, _, _, _, (by first | with_reducible assumption | rfl), by rfl⟩) (by omega) (Nat.le_of_ble_eq_true rfl) (C_sign P1.1 hn4 P1.2.2.1 (by omega)) ?_
        rw [hf1]
        refine st_bipush dX11_sum_15 (by decide) ?_
        refine st_icmp_eq (tgt := 29) dX11_sum_17 (by omega) (by omega) rfl (fun c2 => ?_) (fun c2 => ?_)
        · skip
          have ho := yes _ (Or.inl c2)
          rw [if_pos ho]
          exact at29 ho
        · refine st_aload_n dX11_sum_20 rfl ?_
          refine c_V0p (d' := d - 1) dX11_sum_21 l_X11_226 k_X11_sign i_X11_sign (Or.inl ⟨_, _, _, _, _, (by first | with_reducible assumption | rfl), by rfl⟩) (by omega) (Nat.le_of_ble_eq_true rfl) (C_sign P1.1 hn4 P1.2.2.1 (by omega)) ?_
          rw [hf1]
          refine st_bipush dX11_sum_24 (by decide) ?_
          refine st_icmp_ne (tgt := 67) dX11_sum_26 (by omega) (by omega) rfl (fun c4 => ?_) (fun c4 => ?_)
          · skip
            have ho : ¬ (opc (bytA f n (p : Int)) = 11 ∨ opc (bytA f n (p : Int)) = 12) := by
              intro z
              unfold opc at z
              repeat' split at z
              all_goals omega
            rw [if_neg ho]
            refine r_v dX11_sum_67 rfl ⟨rfl, R1, Or.inl ⟨_, _, _, rfl, P1, W1⟩⟩
          · skip
            have ho := yes _ (Or.inr c4)
            rw [if_pos ho]
            exact at29 ho
  unfold sumP
  refine AC.of (L0 := [_, none]) pn_X11 (Nat.le_of_ble_eq_true rfl) rfl ?_
  refine st_aload_n dX11_sum_0 rfl ?_
  refine c_V0v (d' := d - 1) dX11_sum_1 l_X11_283 k_X11_term i_X11_term (Or.inl ⟨_, _, _, _, _, (by first | with_reducible assumption | rfl), by rfl⟩) (by omega) (Nat.le_of_ble_eq_true rfl) (C_rterm (by omega) hf hb hp hV hs hc hE) (fun V1 N1 hx => ?_)
  obtain ⟨rfl, R1, hx⟩ := hx
  rcases hx with ⟨p1, c1, E1, k1, P1, W1⟩ | ⟨F, k1, P1, W1⟩
  · rw [k1]
    dsimp only
    obtain ⟨⟨a1, a2, a3, a4, a5, -⟩, sa, a6, a7, a8⟩ := teP_ok hp.2.2.2.1 hc k1
    have hE1 : E1.length = E.length + sa.length := by rw [a6]; simp
    exact loop 401 p1 c1 E1 V1 _ (by omega) a5 P1 W1 R1 (by omega) (by omega)
  · rw [k1]
    exact err V1 _ F _ P1 W1 R1 rfl
theorem C_rsumE {G : q_G} {d : Nat} {V : q_Mem} {N : q_MemL} {f : Nat → Int} {s n : Nat} {F k : Int} (hd : 7 ≤ d) (hf : V 132 = f) (hb : tyB f n) (hp : RE1 V n F) (hV : VE s k V) (hk : k ≤ 40000) : AC0 G d m_X11_sum [.ref 112] V N (CN (fun V1 N1 => N1 = N ∧ RS1 s V V1 ∧ RE1 V1 n F ∧ VE s (k + 1) V1)) := by
  refine AC.of (L0 := [_, none]) pn_X11 (Nat.le_of_ble_eq_true rfl) rfl ?_
  refine st_aload_n dX11_sum_0 rfl ?_
  refine c_V0v (d' := d - 1) dX11_sum_1 l_X11_283 k_X11_term i_X11_term (Or.inl ⟨_, _, _, _, _, (by first | with_reducible assumption | rfl), by rfl⟩) (by omega) (Nat.le_of_ble_eq_true rfl) (C_rtermE (by omega) hf hb hp hV hk) (fun V1 N1 hx => ?_)
  obtain ⟨rfl, R1, P1, W1⟩ := hx
  have hF := P1.2.2.2.2
  refine st_aload_n dX11_sum_4 rfl ?_
  refine st_getfi dX11_sum_5 f_X11_220 (by first | with_reducible assumption | rfl) (by rfl) ?_
  rw [P1.2.2.2.1]
  refine st_if_ne (tgt := 67) dX11_sum_8 (by omega) rfl (fun c1 => ?_) (fun c1 => ?_)
  · skip
    refine r_v dX11_sum_67 rfl ⟨rfl, R1, P1, W1⟩
  · skip
    exact absurd c1 P1.2.2.2.2.1


/-! the reference reads a rule: facts of a sign -/
theorem opR_sg {b : Int} {s : Bool} (hb : b = 60 ∨ b = 61 ∨ b = 62) : opR (sgC b s) = if b = 61 then 6 else if b = 60 then (if s = true then 5 else 4) else (if s = true then 7 else 8) := by
  rcases hb with rfl | rfl | rfl <;> cases s <;> rfl
/-- how the reading of a fact of a sign ends -/
def rcQ (s n : Nat) (V : q_Mem) (r : PS) (V1 : q_Mem) : Prop := RS1 s V V1 ∧ ((∃ p1 c1 E1, r = .ok (p1, c1, E1) ∧ RP1 V1 n p1 ∧ VR s c1 E1 V1) ∨ ∃ F, r = .error F ∧ RE1 V1 n F ∧ VE s 200 V1)
theorem C_rcmp {G : q_G} {d : Nat} {V : q_Mem} {N : q_MemL} {f : Nat → Int} {s n p c : Nat} {E : List Int} (hd : 8 ≤ d) (hf : V 132 = f) (hb : tyB f n) (hp : RP1 V n p) (hV : VR s c E V) (hs : s ≤ 5) (hc : c ≤ 60) (hE : E.length + 2 * (60 - c) ≤ 290) : AC0 G d m_X11_compared [.ref 112] V N (CN (fun V1 N1 => N1 = N ∧ rcQ s n V (cmpP f n p c E) V1)) := by
  have hn4 := hp.2.1
  -- the code of the sign
  have cd : ∀ (b : Int) (z : Bool) (V3 : q_Mem) (N3 : q_MemL) (Q : q_Mem → q_MemL → Prop), (b = 60 ∨ b = 61 ∨ b = 62) → AW0 G d m_X11_compared 139 [some (.ref 112), some (I b), some (I (if z = true then 1 else 0))] [I (opR (sgC b z)), .ref 112] V3 N3 (CN Q) → AW0 G d m_X11_compared 98 [some (.ref 112), some (I b), some (I (if z = true then 1 else 0))] [] V3 N3 (CN Q) := by
    intro b z V3 N3 Q hbs hA
    rw [opR_sg hbs] at hA
    rcases hbs with rfl | rfl | rfl
    · refine st_aload_n dX11_compared_98 rfl ?_
      refine st_iload_n dX11_compared_99 rfl ?_
      refine st_bipush dX11_compared_100 (by decide) ?_
      refine st_icmp_ne (tgt := 110) dX11_compared_102 (by omega) (by omega) rfl (fun c1 => ?_) (fun c1 => ?_)
      · refine st_iload_n dX11_compared_110 rfl ?_
        refine st_bipush dX11_compared_111 (by decide) ?_
        refine st_icmp_ne (tgt := 128) dX11_compared_113 (by omega) (by omega) rfl (fun c2 => ?_) (fun c2 => ?_)
        · skip
          omega
        · refine st_iload_n dX11_compared_116 rfl ?_
          cases z
          · skip
            refine st_if_eq (tgt := 124) dX11_compared_117 (by omega) rfl (fun c3 => ?_) (fun c3 => ?_)
            · refine st_iconst dX11_compared_124 ?_
              refine st_goto (tgt := 139) dX11_compared_125 rfl ?_
              exact hA
            · skip
              exact absurd rfl c3
          · skip
            refine st_if_eq (tgt := 124) dX11_compared_117 (by omega) rfl (fun c3 => ?_) (fun c3 => ?_)
            · skip
              exact absurd c3 (by decide)
            · refine st_iconst dX11_compared_120 ?_
              refine st_goto (tgt := 139) dX11_compared_121 rfl ?_
              exact hA
      · skip
        omega
    · refine st_aload_n dX11_compared_98 rfl ?_
      refine st_iload_n dX11_compared_99 rfl ?_
      refine st_bipush dX11_compared_100 (by decide) ?_
      refine st_icmp_ne (tgt := 110) dX11_compared_102 (by omega) (by omega) rfl (fun c1 => ?_) (fun c1 => ?_)
      · skip
        omega
      · refine st_bipush dX11_compared_105 (by decide) ?_
        refine st_goto (tgt := 139) dX11_compared_107 rfl ?_
        exact hA
    · refine st_aload_n dX11_compared_98 rfl ?_
      refine st_iload_n dX11_compared_99 rfl ?_
      refine st_bipush dX11_compared_100 (by decide) ?_
      refine st_icmp_ne (tgt := 110) dX11_compared_102 (by omega) (by omega) rfl (fun c1 => ?_) (fun c1 => ?_)
      · refine st_iload_n dX11_compared_110 rfl ?_
        refine st_bipush dX11_compared_111 (by decide) ?_
        refine st_icmp_ne (tgt := 128) dX11_compared_113 (by omega) (by omega) rfl (fun c2 => ?_) (fun c2 => ?_)
        · refine st_iload_n dX11_compared_128 rfl ?_
          cases z
          · skip
            refine st_if_eq (tgt := 137) dX11_compared_129 (by omega) rfl (fun c3 => ?_) (fun c3 => ?_)
            · refine st_bipush dX11_compared_137 (by decide) ?_
              exact hA
            · skip
              exact absurd rfl c3
          · skip
            refine st_if_eq (tgt := 137) dX11_compared_129 (by omega) rfl (fun c3 => ?_) (fun c3 => ?_)
            · skip
              exact absurd c3 (by decide)
            · refine st_bipush dX11_compared_132 (by decide) ?_
              refine st_goto (tgt := 139) dX11_compared_134 rfl ?_
              exact hA
        · skip
          omega
      · skip
        omega
  -- behind the count: the sign's end
  have tl : ∀ (q : Nat) (V3 : q_Mem) (N3 : q_MemL) (Q : q_Mem → q_MemL → Prop), q < n → (bytA f n (q : Nat) = 60 ∨ bytA f n (q : Nat) = 61 ∨ bytA f n (q : Nat) = 62) → V3 112 20 = (n : Int) → V3 112 21 = (q : Int) → V3 132 = f → AW0 G d m_X11_compared 94 [some (.ref 112), some (I (bytA f n (q : Int))), some (I (if decide (¬ bytA f n (q : Nat) = 61 ∧ bytA f n ((q + 1 : Nat) : Int) = 61) = true then 1 else 0))] [] (q_up V3 112 21 (((if ¬ bytA f n (q : Nat) = 61 ∧ bytA f n ((q + 1 : Nat) : Int) = 61 then q + 2 else q + 1 : Nat)) : Int)) N3 (CN Q) → AW0 G d m_X11_compared 45 [some (.ref 112), some (I (bytA f n (q : Int))), none] [] V3 N3 (CN Q) := by
    intro q V3 N3 Q hlt hsg m1 m2 m3 hA
    have hb1 := bytA_rng f n ((q + 1 : Nat) : Int)
    have z74 : ¬ (¬ bytA f n (q : Nat) = 61 ∧ bytA f n ((q + 1 : Nat) : Int) = 61) → AW0 G d m_X11_compared 74 [some (.ref 112), some (I (bytA f n (q : Int))), none] [] (q_up V3 112 21 ((q : Int) + 1)) N3 (CN Q) := by
      intro hz
      rw [if_neg hz, if_neg (by rw [decide_eq_true_iff]; exact hz)] at hA
      refine st_iconst dX11_compared_74 ?_
      refine st_istore_n (L' := [_, _, _]) dX11_compared_75 (by decide) rfl rfl ?_
      refine st_aload_n dX11_compared_76 rfl ?_
      refine st_dup dX11_compared_77 rfl ?_
      refine st_getfi dX11_compared_78 f_X11_223 (by first | with_reducible assumption | rfl) (by rfl) ?_
      rw [show q_up V3 112 21 ((q : Int) + 1) 112 21 = (q : Int) + 1 by simp [q_up]]
      refine st_iload_n dX11_compared_81 rfl ?_
      refine st_if_eq (tgt := 89) dX11_compared_82 (by omega) rfl (fun c5 => ?_) (fun c5 => ?_)
      · refine st_iconst dX11_compared_89 ?_
        refine st_iadd dX11_compared_90 ?_
        refine st_putfi dX11_compared_91 w_X11_223 (by first | with_reducible assumption | rfl) (by rfl) rfl rfl ?_
        refine AW.to hA (h4 := ?_)
        funext a j
        simp only [q_up]
        split
        · omega
        · rfl
      · skip
        exact absurd rfl c5
    refine st_aload_n dX11_compared_45 rfl ?_
    refine st_dup dX11_compared_46 rfl ?_
    refine st_getfi dX11_compared_47 f_X11_223 (by first | with_reducible assumption | rfl) (by rfl) ?_
    rw [m2]
    refine st_iconst dX11_compared_50 ?_
    refine st_iadd dX11_compared_51 ?_
    refine st_putfi dX11_compared_52 w_X11_223 (by first | with_reducible assumption | rfl) (by rfl) rfl rfl ?_
    refine st_iload_n dX11_compared_55 rfl ?_
    refine st_bipush dX11_compared_56 (by decide) ?_
    refine st_icmp_eq (tgt := 74) dX11_compared_58 (by omega) (by omega) rfl (fun c3 => ?_) (fun c3 => ?_)
    · skip
      exact z74 (by omega)
    · refine st_aload_n dX11_compared_61 rfl ?_
      refine c_V0p (d' := d - 1) dX11_compared_62 l_X11_226 k_X11_sign i_X11_sign (Or.inl ⟨_, _, _, _, _, (by first | with_reducible assumption | rfl), by rfl⟩) (by omega) (Nat.le_of_ble_eq_true rfl) (C_sign (p := q + 1) (n := n) (by simp [q_up, m1]) (by omega) (by simp [q_up]) (by omega)) ?_
      rw [show q_up V3 112 21 ((q : Int) + 1) 132 = f by rw [q_up_ne (by decide)]; exact m3]
      refine st_bipush dX11_compared_65 (by decide) ?_
      refine st_icmp_ne (tgt := 74) dX11_compared_67 (by omega) (by omega) rfl (fun c4 => ?_) (fun c4 => ?_)
      · skip
        exact z74 (by omega)
      · refine st_iconst dX11_compared_70 ?_
        refine st_goto (tgt := 75) dX11_compared_71 rfl ?_
        refine st_istore_n (L' := [_, _, _]) dX11_compared_75 (by decide) rfl rfl ?_
        refine st_aload_n dX11_compared_76 rfl ?_
        refine st_dup dX11_compared_77 rfl ?_
        refine st_getfi dX11_compared_78 f_X11_223 (by first | with_reducible assumption | rfl) (by rfl) ?_
        have hz : ¬ bytA f n (q : Nat) = 61 ∧ bytA f n ((q + 1 : Nat) : Int) = 61 := ⟨c3, c4⟩
        rw [if_pos hz, if_pos (by rw [decide_eq_true_iff]; exact hz)] at hA
        rw [show q_up V3 112 21 ((q : Int) + 1) 112 21 = (q : Int) + 1 by simp [q_up]]
        refine st_iload_n dX11_compared_81 rfl ?_
        refine st_if_eq (tgt := 89) dX11_compared_82 (by omega) rfl (fun c5 => ?_) (fun c5 => ?_)
        · skip
          exact absurd c5 (by decide)
        · refine st_iconst dX11_compared_85 ?_
          refine st_goto (tgt := 90) dX11_compared_86 rfl ?_
          refine st_iadd dX11_compared_90 ?_
          refine st_putfi dX11_compared_91 w_X11_223 (by first | with_reducible assumption | rfl) (by rfl) rfl rfl ?_
          refine AW.to hA (h4 := ?_)
          funext a j
          simp only [q_up]
          split
          · omega
          · rfl
  -- in a fault behind the sign
  have e94 : ∀ (V3 : q_Mem) (F : Int) (b : Int) (z : Bool) (r : PS), RE1 V3 n F → VE s 150 V3 → RS1 s V V3 → r = .error F → (b = 60 ∨ b = 61 ∨ b = 62) → AW0 G d m_X11_compared 94 [some (.ref 112), some (I b), some (I (if z = true then 1 else 0))] [] V3 N (CN (fun V1 N1 => N1 = N ∧ rcQ s n V r V1)) := by
    intro V3 F b z r P3 W3 R3 hr hbs
    refine st_aload_n dX11_compared_94 rfl ?_
    refine c_V0v (d' := d - 1) dX11_compared_95 l_X11_286 k_X11_sum i_X11_sum (Or.inl ⟨_, _, _, _, _, (by first | with_reducible assumption | rfl), by rfl⟩) (by omega) (Nat.le_of_ble_eq_true rfl) (C_rsumE (by omega) (R3.r132 hf) hb P3 W3 (by omega)) (fun V4 N4 hx => ?_)
    obtain ⟨rfl, R4, P4, W4⟩ := hx
    refine cd b z V4 N4 _ hbs ?_
    refine st_iconst dX11_compared_139 ?_
    refine c_V2v (d' := d - 1) dX11_compared_140 l_X11_273 k_X11_entry i_X11_entry (Or.inl ⟨_, _, _, _, _, (by first | with_reducible assumption | rfl), by rfl⟩) (by omega) (Nat.le_of_ble_eq_true rfl) (C_entryE P4) (fun V5 N5 hx => ?_)
    obtain ⟨rfl, rfl⟩ := hx
    refine r_v dX11_compared_143 rfl ⟨rfl, R3.tr R4, Or.inr ⟨F, hr, P4, W4.mono (by omega)⟩⟩
  have hp12 : ∀ q : Nat, q < n → q + 1 ≤ (if ¬ bytA f n (q : Nat) = 61 ∧ bytA f n ((q + 1 : Nat) : Int) = 61 then q + 2 else q + 1) ∧ (if ¬ bytA f n (q : Nat) = 61 ∧ bytA f n ((q + 1 : Nat) : Int) = 61 then q + 2 else q + 1) ≤ n := by
    intro q hq
    split
    · rename_i hz
      have := byt_lt hz.2 (by decide)
      omega
    · omega
  -- a fault ahead of the sign
  have e4 : ∀ (V3 : q_Mem) (F : Int) (r : PS), RE1 V3 n F → VE s 110 V3 → RS1 s V V3 → r = .error F → AW0 G d m_X11_compared 4 [some (.ref 112), none, none] [] V3 N (CN (fun V1 N1 => N1 = N ∧ rcQ s n V r V1)) := by
    intro V3 F r P3 W3 R3 hr
    obtain ⟨q, hq⟩ : ∃ q : Nat, V3 112 21 = (q : Int) := ⟨(V3 112 21).toNat, by have := P3.2.2.1; omega⟩
    have hq4 : q ≤ 400 := by have := P3.2.2.1; omega
    have hf3 : V3 132 = f := R3.r132 hf
    have hbr := bytA_rng f n (q : Int)
    have on : (bytA f n (q : Int) = 60 ∨ bytA f n (q : Int) = 61 ∨ bytA f n (q : Int) = 62) → AW0 G d m_X11_compared 37 [some (.ref 112), some (I (bytA f n (q : Int))), none] [] V3 N (CN (fun V1 N1 => N1 = N ∧ rcQ s n V r V1)) := by
      intro hsg
      have hlt : q < n := by rcases hsg with z | z | z <;> exact byt_lt z (by decide)
      have h12 := hp12 q hlt
      refine st_aload_n dX11_compared_37 rfl ?_
      refine st_aload_n dX11_compared_38 rfl ?_
      refine st_getfi dX11_compared_39 f_X11_223 (by first | with_reducible assumption | rfl) (by rfl) ?_
      rw [hq]
      refine c_V1v (d' := d - 1) dX11_compared_42 l_X11_270 k_X11_isCounted i_X11_isCounted (Or.inl ⟨_, _, _, _, _, (by first | with_reducible assumption | rfl), by rfl⟩) (by omega) (Nat.le_of_ble_eq_true rfl) (C_isCntE (by omega) P3 W3 (by omega)) (fun V4 N4 hx => ?_)
      obtain ⟨rfl, hV4⟩ := hx
      have P4 : RE1 V4 n F := by rw [hV4]; exact P3.f23 (by decide)
      have W4 : VE s 111 V4 := by rw [hV4]; exact W3.cnt
      have R4 : RS1 s V V4 := R3.tr (by rw [hV4]; exact RFk.up (by simp) (by simp))
      refine tl q V4 N4 _ hlt hsg P4.1 (by rw [hV4]; simp [q_up, hq]) (R4.r132 hf) ?_
      exact e94 _ F _ _ r (P4.upp (by omega)) ((W4.fx (fx.up (by omega))).mono (by omega)) (R4.tr (RFk.up (by simp) (by simp))) hr hsg
    refine st_aload_n dX11_compared_4 rfl ?_
    refine c_V0p (d' := d - 1) dX11_compared_5 l_X11_226 k_X11_sign i_X11_sign (Or.inl ⟨_, _, _, _, _, (by first | with_reducible assumption | rfl), by rfl⟩) (by omega) (Nat.le_of_ble_eq_true rfl) (C_sign P3.1 hn4 hq (by omega)) ?_
    rw [hf3]
    refine st_istore_n (L' := [_, _, _]) dX11_compared_8 (by decide) rfl rfl ?_
    refine st_iload_n dX11_compared_9 rfl ?_
    refine st_bipush dX11_compared_10 (by decide) ?_
    refine st_icmp_eq (tgt := 37) dX11_compared_12 (by omega) (by omega) rfl (fun c1 => ?_) (fun c1 => ?_)
    · skip
      exact on (Or.inl c1)
    · refine st_iload_n dX11_compared_15 rfl ?_
      refine st_bipush dX11_compared_16 (by decide) ?_
      refine st_icmp_eq (tgt := 37) dX11_compared_18 (by omega) (by omega) rfl (fun c2 => ?_) (fun c2 => ?_)
      · skip
        exact on (Or.inr (Or.inl c2))
      · refine st_iload_n dX11_compared_21 rfl ?_
        refine st_bipush dX11_compared_22 (by decide) ?_
        refine st_icmp_eq (tgt := 37) dX11_compared_24 (by omega) (by omega) rfl (fun c3 => ?_) (fun c3 => ?_)
        · skip
          exact on (Or.inr (Or.inr c3))
        · refine st_aload_n dX11_compared_27 rfl ?_
          refine st_iconst dX11_compared_28 ?_
          refine st_aload_n dX11_compared_29 rfl ?_
          refine st_getfi dX11_compared_30 f_X11_223 (by first | with_reducible assumption | rfl) (by rfl) ?_
          refine c_V2v (d' := d - 1) dX11_compared_33 l_X11_259 k_X11_fails i_X11_fails (Or.inl ⟨_, _, _, _, _, (by first | with_reducible assumption | rfl), by rfl⟩) (by omega) (Nat.le_of_ble_eq_true rfl) (C_rfailE P3) (fun V4 N4 hx => ?_)
          obtain ⟨rfl, rfl⟩ := hx
          refine r_v dX11_compared_36 rfl ⟨rfl, R3, Or.inr ⟨F, hr, P3, W3.mono (by omega)⟩⟩
  rw [cmpP_sg]
  refine AC.of (L0 := [_, none, none]) pn_X11 (Nat.le_of_ble_eq_true rfl) rfl ?_
  refine st_aload_n dX11_compared_0 rfl ?_
  refine c_V0v (d' := d - 1) dX11_compared_1 l_X11_286 k_X11_sum i_X11_sum (Or.inl ⟨_, _, _, _, _, (by first | with_reducible assumption | rfl), by rfl⟩) (by omega) (Nat.le_of_ble_eq_true rfl) (C_rsum (by omega) hf hb hp hV hs hc hE) (fun V1 N1 hx => ?_)
  obtain ⟨rfl, R1, hx⟩ := hx
  rcases hx with ⟨p1, c1, E1, k1, P1, W1⟩ | ⟨F, k1, P1, W1⟩
  · rw [k1]
    dsimp only
    obtain ⟨⟨a1, a2, a3, a4, a5⟩, sa, a6, a7, a8⟩ := sumP_ok hp.2.2.2.1 hc k1
    have hE1 : E1.length = E.length + sa.length := by rw [a6]; simp
    have hf1 : V1 132 = f := R1.r132 hf
    have hbr := bytA_rng f n (p1 : Int)
    have on : (bytA f n (p1 : Int) = 60 ∨ bytA f n (p1 : Int) = 61 ∨ bytA f n (p1 : Int) = 62) → AW0 G d m_X11_compared 37 [some (.ref 112), some (I (bytA f n (p1 : Int))), none] [] V1 N1 (CN (fun V2 N2 => N2 = N1 ∧ rcQ s n V (match sgP f n p1 c1 with
        | .error F => .error F
        | .ok (p2, c2, s) => match sumP f n p2 c2 E1 with
          | .error F => .error F
          | .ok (p3, c3, E3) => .ok (p3, c3, E3 ++ [s])) V2)) := by
      intro hsg
      have hlt : p1 < n := by rcases hsg with z | z | z <;> exact byt_lt z (by decide)
      have h12 := hp12 p1 hlt
      have hsr := sgC_rng (bytA f n (p1 : Int)) (decide (¬ bytA f n (p1 : Nat) = 61 ∧ bytA f n ((p1 + 1 : Nat) : Int) = 61))
      by_cases c60 : c1 = 60
      · have hsp : sgP f n p1 c1 = .error (1 + 8 * (p1 : Int) + 3) := by
          unfold sgP
          rw [if_pos hsg, if_pos c60]
        rw [hsp]
        subst c60
        refine st_aload_n dX11_compared_37 rfl ?_
        refine st_aload_n dX11_compared_38 rfl ?_
        refine st_getfi dX11_compared_39 f_X11_223 (by first | with_reducible assumption | rfl) (by rfl) ?_
        rw [P1.2.2.1]
        refine c_V1v (d' := d - 1) dX11_compared_42 l_X11_270 k_X11_isCounted i_X11_isCounted (Or.inl ⟨_, _, _, _, _, (by first | with_reducible assumption | rfl), by rfl⟩) (by omega) (Nat.le_of_ble_eq_true rfl) (C_isCntF (by omega) P1 W1 (by omega)) (fun V2 N2 hx => ?_)
        obtain ⟨rfl, hV2, P2⟩ := hx
        have R2 : RS1 s V V2 := R1.tr (by rw [hV2]; exact (RFk.up (by simp) (by simp)).tr (RFk.up (by simp) (by simp)))
        have W2 : VE s 80 V2 := by
          obtain ⟨z1, z2, z3, z4, -⟩ := W1
          rw [hV2]
          refine ⟨by simp [q_up, z1], by simp [q_up]; omega, by simp [q_up], by simp [q_up, z4]⟩
        refine tl p1 V2 N2 _ hlt hsg P2.1 (by rw [hV2]; simp [q_up, P1.2.2.1]) (R2.r132 hf) ?_
        exact e94 _ _ _ _ _ (P2.upp (by omega)) ((W2.fx (fx.up (by omega))).mono (by omega)) (R2.tr (RFk.up (by simp) (by simp))) rfl hsg
      · have hsp : sgP f n p1 c1 = .ok (if ¬ bytA f n (p1 : Nat) = 61 ∧ bytA f n ((p1 + 1 : Nat) : Int) = 61 then p1 + 2 else p1 + 1, c1 + 1, sgC (bytA f n (p1 : Nat)) (decide (¬ bytA f n (p1 : Nat) = 61 ∧ bytA f n ((p1 + 1 : Nat) : Int) = 61))) := by
          unfold sgP
          rw [if_pos hsg, if_neg c60]
        rw [hsp]
        dsimp only
        refine st_aload_n dX11_compared_37 rfl ?_
        refine st_aload_n dX11_compared_38 rfl ?_
        refine st_getfi dX11_compared_39 f_X11_223 (by first | with_reducible assumption | rfl) (by rfl) ?_
        rw [P1.2.2.1]
        refine c_V1v (d' := d - 1) dX11_compared_42 l_X11_270 k_X11_isCounted i_X11_isCounted (Or.inl ⟨_, _, _, _, _, (by first | with_reducible assumption | rfl), by rfl⟩) (by omega) (Nat.le_of_ble_eq_true rfl) (C_isCnt W1 (by omega)) (fun V2 N2 hx => ?_)
        obtain ⟨rfl, hV2⟩ := hx
        have P2 : RP1 V2 n p1 := by rw [hV2]; exact P1.f23 (by decide)
        have W2 : VR s (c1 + 1) E1 V2 := by rw [hV2]; exact W1.cnt
        have R2 : RS1 s V V2 := R1.tr (by rw [hV2]; exact RFk.up (by simp) (by simp))
        refine tl p1 V2 N2 _ hlt hsg P2.1 P2.2.2.1 (R2.r132 hf) ?_
        have P3 := P2.up h12.2
        generalize (if ¬ bytA f n (p1 : Nat) = 61 ∧ bytA f n ((p1 + 1 : Nat) : Int) = 61 then p1 + 2 else p1 + 1) = q1 at *
        have W3 : VR s (c1 + 1) E1 (q_up V2 112 21 (q1 : Int)) := W2.fx (fx.up (by omega)) (Exc.up (by simp))
        have R3 : RS1 s V (q_up V2 112 21 (q1 : Int)) := R2.tr (RFk.up (by simp) (by simp))
        generalize decide (¬ bytA f n (p1 : Nat) = 61 ∧ bytA f n ((p1 + 1 : Nat) : Int) = 61) = z at *
        refine st_aload_n dX11_compared_94 rfl ?_
        refine c_V0v (d' := d - 1) dX11_compared_95 l_X11_286 k_X11_sum i_X11_sum (Or.inl ⟨_, _, _, _, _, (by first | with_reducible assumption | rfl), by rfl⟩) (by omega) (Nat.le_of_ble_eq_true rfl) (C_rsum (by omega) (R3.r132 hf) hb P3 W3 hs (by omega) (by omega)) (fun V4 N4 hx => ?_)
        obtain ⟨rfl, R4, hx⟩ := hx
        have R4' := R3.tr R4
        refine cd _ z V4 N4 _ hsg ?_
        rcases hx with ⟨p2, c2, E2, l1, P4, W4⟩ | ⟨F, l1, P4, W4⟩
        · rw [l1]
          dsimp only
          obtain ⟨⟨b1, b2, b3, b4, b5⟩, sb, b6, b7, b8⟩ := sumP_ok P3.2.2.2.1 (by omega) l1
          have hE2 : E2.length = E1.length + sb.length := by rw [b6]; simp
          refine st_iconst dX11_compared_139 ?_
          refine c_V2v (d' := d - 1) dX11_compared_140 l_X11_273 k_X11_entry i_X11_entry (Or.inl ⟨_, _, _, _, _, (by first | with_reducible assumption | rfl), by rfl⟩) (by omega) (Nat.le_of_ble_eq_true rfl) (C_entry (x := sgC (bytA f n (p1 : Int)) z) P4 W4 hs (by omega) (Or.inr (Or.inr ⟨by omega, rfl⟩))) (fun V5 N5 hx => ?_)
          obtain ⟨rfl, R5, P5, W5⟩ := hx
          refine r_v dX11_compared_143 rfl ⟨rfl, RFk.tr R4' R5, Or.inl ⟨_, _, _, rfl, P5, W5⟩⟩
        · rw [l1]
          refine st_iconst dX11_compared_139 ?_
          refine c_V2v (d' := d - 1) dX11_compared_140 l_X11_273 k_X11_entry i_X11_entry (Or.inl ⟨_, _, _, _, _, (by first | with_reducible assumption | rfl), by rfl⟩) (by omega) (Nat.le_of_ble_eq_true rfl) (C_entryE P4) (fun V5 N5 hx => ?_)
          obtain ⟨rfl, rfl⟩ := hx
          refine r_v dX11_compared_143 rfl ⟨rfl, R4', Or.inr ⟨F, rfl, P4, W4.mono (by omega)⟩⟩
    refine st_aload_n dX11_compared_4 rfl ?_
    refine c_V0p (d' := d - 1) dX11_compared_5 l_X11_226 k_X11_sign i_X11_sign (Or.inl ⟨_, _, _, _, _, (by first | with_reducible assumption | rfl), by rfl⟩) (by omega) (Nat.le_of_ble_eq_true rfl) (C_sign P1.1 hn4 P1.2.2.1 (by omega)) ?_
    rw [hf1]
    refine st_istore_n (L' := [_, _, _]) dX11_compared_8 (by decide) rfl rfl ?_
    refine st_iload_n dX11_compared_9 rfl ?_
    refine st_bipush dX11_compared_10 (by decide) ?_
    refine st_icmp_eq (tgt := 37) dX11_compared_12 (by omega) (by omega) rfl (fun d1 => ?_) (fun d1 => ?_)
    · skip
      exact on (Or.inl d1)
    · refine st_iload_n dX11_compared_15 rfl ?_
      refine st_bipush dX11_compared_16 (by decide) ?_
      refine st_icmp_eq (tgt := 37) dX11_compared_18 (by omega) (by omega) rfl (fun d2 => ?_) (fun d2 => ?_)
      · skip
        exact on (Or.inr (Or.inl d2))
      · refine st_iload_n dX11_compared_21 rfl ?_
        refine st_bipush dX11_compared_22 (by decide) ?_
        refine st_icmp_eq (tgt := 37) dX11_compared_24 (by omega) (by omega) rfl (fun d3 => ?_) (fun d3 => ?_)
        · skip
          exact on (Or.inr (Or.inr d3))
        · refine st_aload_n dX11_compared_27 rfl ?_
          refine st_iconst dX11_compared_28 ?_
          refine st_aload_n dX11_compared_29 rfl ?_
          refine st_getfi dX11_compared_30 f_X11_223 (by first | with_reducible assumption | rfl) (by rfl) ?_
          have hsp : sgP f n p1 c1 = .error (1 + 8 * (p1 : Int)) := by
            unfold sgP
            rw [if_neg (by omega)]
          rw [hsp, P1.2.2.1]
          refine c_V2v (d' := d - 1) dX11_compared_33 l_X11_259 k_X11_fails i_X11_fails (Or.inl ⟨_, _, _, _, _, (by first | with_reducible assumption | rfl), by rfl⟩) (by omega) (Nat.le_of_ble_eq_true rfl) (C_rfailT (k := 0) P1 (by omega) (by omega)) (fun V4 N4 hx => ?_)
          obtain ⟨rfl, k1, k2, k3⟩ := hx
          refine r_v dX11_compared_36 rfl ⟨rfl, R1.tr (k2.rs k1), Or.inr ⟨_, rfl, ?_, (W1.fx k2 k1).ve (by omega) (by omega)⟩⟩
          rw [show (1 + 8 * (p1 : Int)) = 1 + 8 * (p1 : Int) + ((0 : Nat) : Int) by omega]
          exact k3
  · rw [k1]
    exact e4 V1 F _ P1 (W1.mono (by omega)) R1 rfl


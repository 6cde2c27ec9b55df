/-! the system reads a rule: tests -/
theorem sgP_ok {f : Nat → Int} {n p c p1 c1 : Nat} {s : Int} (hc : c ≤ 60) (h : sgP f n p c = .ok (p1, c1, s)) : p < p1 ∧ c1 = c + 1 ∧ c1 ≤ 60 ∧ 16 ≤ s ∧ s ≤ 20 := by
  unfold sgP at h
  split at h
  · split at h
    · cases h
    · have hr := sgC_rng (bytA f n (p : Nat)) (decide (¬ bytA f n (p : Nat) = 61 ∧ bytA f n ((p + 1 : Nat) : Int) = 61))
      cases h
      refine ⟨?_, rfl, by omega, hr⟩
      split <;> omega
  · cases h
/-- how the reading of a test ends -/
def tsQ (o n : Nat) (M : q_Mem) (r : PS) (M1 : q_Mem) : Prop := (VW M1 ∧ SF o M M1) ∧ ((∃ p1 c1 E1, r = .ok (p1, c1, E1) ∧ TP M1 n p1 ∧ SR o c1 [] E1 M1) ∨ ∃ F, r = .error F ∧ TE M1 n F ∧ SE o 3000 M1)
theorem C_readTest {G : q_G} {d : Nat} {M : q_Mem} {N : q_MemL} {o n p c : Nat} {E E0 : List Int} (hd : 7 ≤ d) (ho : isRu o) (hT : TP M n p) (h : SR o c [] E M) (hV : VW M) (hI : TI n 0 p c [] E E0) : AC0 G d m_X7_readTest [.ref 84, .ref o] M N (CN (fun M1 N1 => N1 = N ∧ tsQ o n M (tstP (M 2) n 401 true p c [] E) M1)) := by
  have hn4 := hT.2.1
  -- in a fault
  have e109 : ∀ (M1 : q_Mem) (F : Int) (x2 x3 x4 : Option Value), TE M1 n F → SE o 2500 M1 → VW M1 → SF o M M1 → AW0 G d m_X7_readTest 109 [some (.ref 84), some (.ref o), x2, x3, x4] [] M1 N (CN (fun M2 N1 => N1 = N ∧ (VW M2 ∧ SF o M M2) ∧ TE M2 n F ∧ SE o 3000 M2)) := by
    intro M1 F x2 x3 x4 t1 t2 t3 t4
    refine st_aload_n dX7_readTest_109 rfl ?_
    refine st_aload_n dX7_readTest_110 rfl ?_
    refine st_bipush dX7_readTest_111 (by decide) ?_
    refine c_S1p (d' := d - 1) dX7_readTest_113 l_X7_122 k_X7_level s_X7_level (by omega) (Nat.le_of_ble_eq_true rfl) (C_level (by unfold i32; omega)) ?_
    rw [show lvl 23 = 1 by decide]
    refine c_V2v (d' := d - 1) dX7_readTest_116 l_X7_125 k_X7_settle i_X7_settle (Or.inl ⟨_, _, _, _, _, (by first | with_reducible assumption | rfl), by rfl⟩) (by omega) (Nat.le_of_ble_eq_true rfl) (C_settleE (by omega) ho t2 (by omega) t3 (by omega)) (fun M2 N2 hx => ?_)
    obtain ⟨rfl, k1, k2, k3, k4⟩ := hx
    have T2 := t1.exc7 ho k3
    have h5 := k4.2.2.2.1
    refine st_aload_n dX7_readTest_119 rfl ?_
    refine st_getfi dX7_readTest_120 f_X7_42 (by first | with_reducible assumption | rfl) (by rfl) ?_
    refine st_if_le (tgt := 149) dX7_readTest_123 (by omega) rfl (fun c1 => ?_) (fun c1 => ?_)
    · skip
      refine r_v dX7_readTest_149 rfl ⟨rfl, ⟨k2, t4.tr k1⟩, T2, k4.mono (by omega)⟩
    · refine st_aload_n dX7_readTest_126 rfl ?_
      refine st_getfr dX7_readTest_127 f_X7_15 (by first | with_reducible assumption | rfl) (by rfl) ?_
      refine c_V0i (d' := d - 1) dX7_readTest_130 l_X7_56 k_X8_peek i_X8_peek (Or.inl ⟨_, _, _, _, _, (by first | with_reducible assumption | rfl), by rfl⟩) (by omega) (Nat.le_of_ble_eq_true rfl) (C_peekE (by omega) T2) (fun x M3 N3 hx => ?_)
      obtain ⟨rfl, b, rfl, hM3, T3⟩ := hx
      have x3 : Exc [1] M2 M3 := by rw [hM3]; exact Exc.up (by simp)
      refine st_pop dX7_readTest_133 rfl ?_
      refine st_aload_n dX7_readTest_134 rfl ?_
      refine st_getfr dX7_readTest_135 f_X7_15 (by first | with_reducible assumption | rfl) (by rfl) ?_
      refine st_aload_n dX7_readTest_138 rfl ?_
      refine st_getfr dX7_readTest_139 f_X7_15 (by first | with_reducible assumption | rfl) (by rfl) ?_
      refine st_getfi dX7_readTest_142 f_X7_60 (by first | with_reducible assumption | rfl) (by rfl) ?_
      refine st_iconst dX7_readTest_145 ?_
      refine c_V2v (d' := d - 1) dX7_readTest_146 l_X7_69 k_X8_fail i_X8_fail (Or.inl ⟨_, _, _, _, _, (by first | with_reducible assumption | rfl), by rfl⟩) (by omega) (Nat.le_of_ble_eq_true rfl) (C_failE T3) (fun M4 N4 hx => ?_)
      obtain ⟨rfl, rfl⟩ := hx
      refine r_v dX7_readTest_149 rfl ⟨rfl, ⟨k2.exc x3 (by simp), (t4.tr k1).tr (x3.sf ho (by simp))⟩, T3, (k4.exc1 ho x3).mono (by omega)⟩
  have e42 : ∀ (M1 : q_Mem) (F w2 : Int) (x3 x4 : Option Value), TE M1 n F → SE o 2500 M1 → VW M1 → SF o M M1 → AW0 G d m_X7_readTest 42 [some (.ref 84), some (.ref o), some (I w2), x3, x4] [] M1 N (CN (fun M2 N1 => N1 = N ∧ (VW M2 ∧ SF o M M2) ∧ TE M2 n F ∧ SE o 3000 M2)) := by
    intro M1 F w2 x3 x4 t1 t2 t3 t4
    refine st_aload_n dX7_readTest_42 rfl ?_
    refine st_getfr dX7_readTest_43 f_X7_15 (by first | with_reducible assumption | rfl) (by rfl) ?_
    refine c_V0p (d' := d - 1) dX7_readTest_46 l_X7_89 k_X8_failed i_X8_failed (Or.inl ⟨_, _, _, _, _, (by first | with_reducible assumption | rfl), by rfl⟩) (by omega) (Nat.le_of_ble_eq_true rfl) (C_failed (by rw [t1.2.2.2.1]; unfold i32; have := t1.2.2.2.2; omega)) ?_
    refine b_eq (tgt := 56) dX7_readTest_49 rfl (fun c2 => ?_) (fun c2 => ?_)
    · skip
      exact absurd (by rw [t1.2.2.2.1]; exact t1.2.2.2.2.1) c2
    · refine st_iconst dX7_readTest_52 ?_
      refine st_goto (tgt := 65) dX7_readTest_53 rfl ?_
      refine st_istore_n (L' := [_, _, _, _, _]) dX7_readTest_65 (by decide) rfl rfl ?_
      refine st_iload_n dX7_readTest_66 rfl ?_
      refine st_iconst dX7_readTest_67 ?_
      refine st_icmp_ne (tgt := 74) dX7_readTest_68 (by omega) (by omega) rfl (fun c3 => ?_) (fun c3 => ?_)
      · skip
        exact absurd rfl c3
      · refine st_goto (tgt := 109) dX7_readTest_71 rfl ?_
        exact e109 M1 F _ _ _ t1 t2 t3 t4
  have e39 : ∀ (M1 : q_Mem) (F w2 : Int) (x3 x4 : Option Value), TE M1 n F → SE o 2500 M1 → VW M1 → SF o M M1 → AW0 G d m_X7_readTest 37 [some (.ref 84), some (.ref o), some (I w2), x3, x4] [] M1 N (CN (fun M2 N1 => N1 = N ∧ (VW M2 ∧ SF o M M2) ∧ TE M2 n F ∧ SE o 3000 M2)) := by
    intro M1 F w2 x3 x4 t1 t2 t3 t4
    refine st_aload_n dX7_readTest_37 rfl ?_
    refine st_aload_n dX7_readTest_38 rfl ?_
    refine c_V1v (d' := d - 1) dX7_readTest_39 l_X7_137 k_X7_closeFacts i_X7_closeFacts (Or.inl ⟨_, _, _, _, _, (by first | with_reducible assumption | rfl), by rfl⟩) (by omega) (Nat.le_of_ble_eq_true rfl) (C_closeFactsE (by omega) t1 t2 (by omega)) (fun M2 N2 hx => ?_)
    obtain ⟨rfl, rfl⟩ := hx
    exact e42 M2 F _ _ _ t1 t2 t3 t4
  have e32 : ∀ (M1 : q_Mem) (F w2 : Int) (x3 x4 : Option Value), TE M1 n F → SE o 2400 M1 → VW M1 → SF o M M1 → AW0 G d m_X7_readTest 32 [some (.ref 84), some (.ref o), some (I w2), x3, x4] [] M1 N (CN (fun M2 N1 => N1 = N ∧ (VW M2 ∧ SF o M M2) ∧ TE M2 n F ∧ SE o 3000 M2)) := by
    intro M1 F w2 x3 x4 t1 t2 t3 t4
    refine st_aload_n dX7_readTest_32 rfl ?_
    refine st_aload_n dX7_readTest_33 rfl ?_
    refine c_V1v (d' := d - 1) dX7_readTest_34 l_X7_83 k_X7_readSum i_X7_readSum (Or.inl ⟨_, _, _, _, _, (by first | with_reducible assumption | rfl), by rfl⟩) (by omega) (Nat.le_of_ble_eq_true rfl) (C_readSumE (by omega) ho t1 t2 (by omega) t3) (fun M2 N2 hx => ?_)
    obtain ⟨rfl, ⟨k1, k2⟩, k3, k4⟩ := hx
    exact e39 M2 F _ _ _ k3 (k4.mono (by omega)) k1 (t4.tr k2)
  have e28 : ∀ (M1 : q_Mem) (F w2 : Int) (x3 x4 : Option Value), TE M1 n F → SE o 2400 M1 → VW M1 → SF o M M1 → AW0 G d m_X7_readTest 28 [some (.ref 84), some (.ref o), some (I w2), x3, x4] [] M1 N (CN (fun M2 N1 => N1 = N ∧ (VW M2 ∧ SF o M M2) ∧ TE M2 n F ∧ SE o 3000 M2)) := by
    intro M1 F w2 x3 x4 t1 t2 t3 t4
    refine st_aload_n dX7_readTest_28 rfl ?_
    refine c_V0v (d' := d - 1) dX7_readTest_29 l_X7_134 k_X7_readSign i_X7_readSign (Or.inl ⟨_, _, _, _, _, (by first | with_reducible assumption | rfl), by rfl⟩) (by omega) (Nat.le_of_ble_eq_true rfl) (C_readSignE (by omega) t1) (fun M2 N2 hx => ?_)
    obtain ⟨rfl, rfl⟩ := hx
    exact e32 M2 F _ _ _ t1 t2 t3 t4
  have e23 : ∀ (M1 : q_Mem) (F w2 : Int) (x3 x4 : Option Value), TE M1 n F → SE o 2300 M1 → VW M1 → SF o M M1 → AW0 G d m_X7_readTest 23 [some (.ref 84), some (.ref o), some (I w2), x3, x4] [] M1 N (CN (fun M2 N1 => N1 = N ∧ (VW M2 ∧ SF o M M2) ∧ TE M2 n F ∧ SE o 3000 M2)) := by
    intro M1 F w2 x3 x4 t1 t2 t3 t4
    refine st_aload_n dX7_readTest_23 rfl ?_
    refine st_aload_n dX7_readTest_24 rfl ?_
    refine c_V1v (d' := d - 1) dX7_readTest_25 l_X7_83 k_X7_readSum i_X7_readSum (Or.inl ⟨_, _, _, _, _, (by first | with_reducible assumption | rfl), by rfl⟩) (by omega) (Nat.le_of_ble_eq_true rfl) (C_readSumE (by omega) ho t1 t2 (by omega) t3) (fun M2 N2 hx => ?_)
    obtain ⟨rfl, ⟨k1, k2⟩, k3, k4⟩ := hx
    exact e28 M2 F _ _ _ k3 (k4.mono (by omega)) k1 (t4.tr k2)
  have toQ : ∀ {L : List (Option Value)} {pc : Nat} {M1 : q_Mem} {r : PS} {F : Int}, r = .error F → AW0 G d m_X7_readTest pc L [] M1 N (CN (fun M2 N1 => N1 = N ∧ (VW M2 ∧ SF o M M2) ∧ TE M2 n F ∧ SE o 3000 M2)) → AW0 G d m_X7_readTest pc L [] M1 N (CN (fun M2 N1 => N1 = N ∧ tsQ o n M r M2)) := by
    intro L pc M1 r F hr hA
    refine AW.mono (fun v S' M' N' hx => ?_) hA
    obtain ⟨hS, hv, hN, h1, h2, h3⟩ := hx
    exact ⟨hS, hv, hN, h1, Or.inr ⟨F, hr, h2, h3⟩⟩
  have loop : ∀ (k m i p c : Nat) (K E : List Int) (M1 : q_Mem), 2 * i ≤ p → n - p < k → n - p < m → TP M1 n p → SR o c K E M1 → VW M1 → SF o M M1 → TI n 0 p c K E E0 → AW0 G d m_X7_readTest 2 [some (.ref 84), some (.ref o), some (I i), none, none] [] M1 N (CN (fun M2 N1 => N1 = N ∧ tsQ o n M (tstP (M 2) n m true p c K E) M2)) := by
    intro k
    induction k with
    | zero =>
      intro m i p c K E M1 hi hk
      omega
    | succ k ih =>
      intro m i p c K E M1 hi hk hm hT h hV hf hI
      have e2 := hf.row2 ho
      have hpn := hT.2.2.2.1
      have hc := hI.2.2.2.1
      refine st_iload_n dX7_readTest_2 rfl ?_
      refine st_sipush dX7_readTest_3 (by decide) ?_
      refine st_icmp_ge (tgt := 109) dX7_readTest_6 (by omega) (by omega) rfl (fun c1 => ?_) (fun c1 => ?_)
      · skip
        omega
      · refine st_aload_n dX7_readTest_9 rfl ?_
        refine st_getfr dX7_readTest_10 f_X7_15 (by first | with_reducible assumption | rfl) (by rfl) ?_
        refine c_V0p (d' := d - 1) dX7_readTest_13 l_X7_89 k_X8_failed i_X8_failed (Or.inl ⟨_, _, _, _, _, (by first | with_reducible assumption | rfl), by rfl⟩) (by omega) (Nat.le_of_ble_eq_true rfl) (C_failed (by rw [hT.2.2.2.2]; unfold i32; omega)) ?_
        refine b_ne (tgt := 109) dX7_readTest_16 rfl (fun c2 => ?_) (fun c2 => ?_)
        · skip
          exact absurd hT.2.2.2.2 c2
        · refine st_aload_n dX7_readTest_19 rfl ?_
          refine c_V0v (d' := d - 1) dX7_readTest_20 l_X7_131 k_X7_openFacts i_X7_openFacts (Or.inl ⟨_, _, _, _, _, (by first | with_reducible assumption | rfl), by rfl⟩) (by omega) (Nat.le_of_ble_eq_true rfl) (C_openFacts (by omega) ho hT h hV hI hm) (fun M2 N2 hx => ?_)
          obtain ⟨rfl, ⟨V2, f12⟩, hx⟩ := hx
          have f2 := hf.tr f12
          have r2 := f2.row2 ho
          rw [e2] at hx
          rcases hx with ⟨m1, p1, K1, j1, ⟨j2, j3⟩, j4, T2, S2, I2, j5, j6⟩ | ⟨F, j1, T2, S2⟩
          · rw [j1, tstP_t, j4, if_neg j5, if_neg j6]
            have hl1 := I2.len hn4
            have hEb : E.length + nbK K1 + 0 ≤ 2 * c + p1 / 3 := I2.2.2.2.2.2.2
            have hp1 := T2.2.2.2.1
            have hKm := fun x hx => SK_mem I2.1 x hx
            have hKv := fun x hx => SK_lv I2.1 x hx
            refine st_aload_n dX7_readTest_23 rfl ?_
            refine st_aload_n dX7_readTest_24 rfl ?_
            refine c_V1v (d' := d - 1) dX7_readTest_25 l_X7_83 k_X7_readSum i_X7_readSum (Or.inl ⟨_, _, _, _, _, (by first | with_reducible assumption | rfl), by rfl⟩) (by omega) (Nat.le_of_ble_eq_true rfl) (C_readSum (by omega) ho T2 S2 V2 hc (fun y hy => by have := hKv y (List.mem_of_head? hy); omega) (fun x hx => by have := hKm x hx; omega) (by omega) (by omega)) (fun M3 N3 hx => ?_)
            obtain ⟨rfl, ⟨V3, f23⟩, hx⟩ := hx
            have f3 := f2.tr f23
            have r3 := f3.row2 ho
            rw [r2] at hx
            rcases hx with ⟨pa, ca, Ea, k1, T3, S3⟩ | ⟨F, k1, T3, S3⟩
            · obtain ⟨⟨b1, b2, b3, b4, b5⟩, sa, b6, b7, b8⟩ := sumP_ok hp1 hc k1
              have hEa : Ea.length = E.length + sa.length := by rw [b6, List.length_append]
              refine st_aload_n dX7_readTest_28 rfl ?_
              refine c_V0v (d' := d - 1) dX7_readTest_29 l_X7_134 k_X7_readSign i_X7_readSign (Or.inl ⟨_, _, _, _, _, (by first | with_reducible assumption | rfl), by rfl⟩) (by omega) (Nat.le_of_ble_eq_true rfl) (C_readSign (by omega) ho T3 (by rw [r3]; exact b5) S3 V3 (by omega) (by omega) (by omega)) (fun M4 N4 hx => ?_)
              obtain ⟨rfl, ⟨V4, f34⟩, hx⟩ := hx
              have f4 := f3.tr f34
              have r4 := f4.row2 ho
              rw [r3] at hx
              rcases hx with ⟨pb, cb, s, l1, T4, S4⟩ | ⟨F, l1, T4, S4⟩
              · obtain ⟨g1, g2, g3, g4⟩ := sgP_ok b4 l1
                refine st_aload_n dX7_readTest_32 rfl ?_
                refine st_aload_n dX7_readTest_33 rfl ?_
                have hK2 : ∀ x, x ∈ s :: K1 → 11 ≤ x ∧ x ≤ 24 := by
                  intro x hx
                  rcases List.mem_cons.1 hx with rfl | hx
                  · omega
                  · have := hKm x hx
                    omega
                refine c_V1v (d' := d - 1) dX7_readTest_34 l_X7_83 k_X7_readSum i_X7_readSum (Or.inl ⟨_, _, _, _, _, (by first | with_reducible assumption | rfl), by rfl⟩) (by omega) (Nat.le_of_ble_eq_true rfl) (C_readSum (by omega) ho T4 S4 V4 g3 (fun y hy => by cases hy; rw [lvl_s g4]; omega) hK2 (by simp; omega) (by omega)) (fun M5 N5 hx => ?_)
                obtain ⟨rfl, ⟨V5, f45⟩, hx⟩ := hx
                have f5 := f4.tr f45
                have r5 := f5.row2 ho
                rw [r4] at hx
                rcases hx with ⟨p3, c3, E3, n1, T5, S5⟩ | ⟨F, n1, T5, S5⟩
                · have hcmp : cmpP (M 2) n p1 c E = .ok (p3, c3, E3 ++ [s]) := by
                    rw [cmpP_sg, k1]
                    dsimp only
                    rw [l1]
                    dsimp only
                    rw [n1]
                  rw [hcmp]
                  dsimp only
                  obtain ⟨I3, hlt⟩ := I2.cmp hcmp
                  refine st_aload_n dX7_readTest_37 rfl ?_
                  refine st_aload_n dX7_readTest_38 rfl ?_
                  refine c_V1v (d' := d - 1) dX7_readTest_39 l_X7_137 k_X7_closeFacts i_X7_closeFacts (Or.inl ⟨_, _, _, _, _, (by first | with_reducible assumption | rfl), by rfl⟩) (by omega) (Nat.le_of_ble_eq_true rfl) (C_closeFacts (m := m1) (sg := [s]) (K := K1) (by omega) ho T5 (Or.inr ⟨s, rfl, g4⟩) S5 V5 I3 (by omega)) (fun M6 N6 hx => ?_)
                  obtain ⟨rfl, ⟨V6, f56⟩, m2, p4, K2, sg1, Es1, q1, ⟨q2, q3⟩, q4, T6, S6, I4, q5⟩ := hx
                  have f6 := f5.tr f56
                  have r6 := f6.row2 ho
                  rw [r5] at q1 q5
                  rw [q1]
                  have hsk := q4.k (K := K2)
                  have hl2 := I4.len hn4
                  rw [List.length_append] at hl2
                  have hs := skip_le (M 2) n p4
                  have hqn := hs.2.1 T6.2.2.2.1
                  have hss := skip_skip (M 2) n p4
                  have I5 := I4.skp (f := M 2)
                  rw [← tstP_sk]
                  refine st_aload_n dX7_readTest_42 rfl ?_
                  refine st_getfr dX7_readTest_43 f_X7_15 (by first | with_reducible assumption | rfl) (by rfl) ?_
                  refine c_V0p (d' := d - 1) dX7_readTest_46 l_X7_89 k_X8_failed i_X8_failed (Or.inl ⟨_, _, _, _, _, (by first | with_reducible assumption | rfl), by rfl⟩) (by omega) (Nat.le_of_ble_eq_true rfl) (C_failed (by rw [T6.2.2.2.2]; unfold i32; omega)) ?_
                  refine b_eq (tgt := 56) dX7_readTest_49 rfl (fun c9 => ?_) (fun c9 => ?_)
                  · refine st_aload_n dX7_readTest_56 rfl ?_
                    refine st_getfr dX7_readTest_57 f_X7_15 (by first | with_reducible assumption | rfl) (by rfl) ?_
                    refine st_ldcS (i := 5) dX7_readTest_60 rfl ?_
                    refine c_V1i (d' := d - 1) dX7_readTest_62 l_X7_65 k_X8_readWord i_X8_readWord (Or.inl ⟨_, _, _, _, _, (by first | with_reducible assumption | rfl), by rfl⟩) (by omega) (Nat.le_of_ble_eq_true rfl) (C_readWord (i := 5) (ws := [chL 26, chL 27]) (by omega) (by decide) ch5 (by simp) (by decide +kernel) T6.1 T6.2.1 T6.2.2.1 (by have := T6.2.2.2.1; omega)) (fun x M7 N7 hx => ?_)
                    obtain ⟨rfl, rfl, hM7⟩ := hx
                    rw [r6, findW2] at hM7
                    rw [r6, findW2]
                    have hpq := hs.1
                    generalize skip (M 2) n p4 = q at *
                    have x7 : Exc [1] M6 M7 := by rw [hM7]; exact Exc.up (by simp)
                    have S7 : SR o c3 (sg1 ++ K2) Es1 M7 := S6.exc1 ho x7
                    have V7 : VW M7 := V6.exc x7 (by simp)
                    have f7 : SF o M M7 := f6.tr (x7.sf ho (by simp))
                    have hWc : ∀ x, x ∈ sg1 ++ K2 → 11 ≤ x ∧ x ≤ 24 := by
                      intro x hx
                      rcases List.mem_append.1 hx with hx | hx
                      · exact hsk.2.2.2.2 x hx
                      · have := SK_mem I4.1 x hx
                        omega
                    obtain ⟨m3, rfl⟩ : ∃ m3, m2 = m3 + 1 := ⟨m2 - 1, by omega⟩
                    have hT1 := tstP_f (f := M 2) (n := n) (m := m3) (p := q) (c := c3) (K := K2) (E := Es1 ++ sg1)
                    rw [hss] at hT1
                    -- behind a word that joins
                    have jo : ∀ (x lv w3 : Int) (j : Nat), (x = 22 ∧ lv = 2 ∨ x = 23 ∧ lv = 1) → 2 ≤ j → q + j ≤ n → TP M7 n (q + j) → AW0 G d m_X7_readTest 85 [some (.ref 84), some (.ref o), some (I i), some (I w3), none] [I x] M7 N7 (CN (fun M2 N1 => N1 = N7 ∧ tsQ o n M (tstP (M 2) n m3 true (q + j) c3 (x :: (stl lv K2 (Es1 ++ sg1)).1) (stl lv K2 (Es1 ++ sg1)).2) M2)) := by
                      intro x lv w3 j hx hj hjn T7
                      have hlv : lvl x = lv := by rcases hx with ⟨rfl, rfl⟩ | ⟨rfl, rfl⟩ <;> decide
                      have hst := stl_ok (lv := lv) (by omega) K2 (Es1 ++ sg1) I5.1
                      have hst2 := SK_len2 hst.1
                      have hd10 := I5.2.1
                      refine st_istore (L' := [_, _, _, _, _]) dX7_readTest_85 (by decide) rfl rfl ?_
                      refine st_aload_n dX7_readTest_87 rfl ?_
                      refine st_aload_n dX7_readTest_88 rfl ?_
                      refine st_iload dX7_readTest_89 rfl ?_
                      refine c_S1p (d' := d - 1) dX7_readTest_91 l_X7_122 k_X7_level s_X7_level (by omega) (Nat.le_of_ble_eq_true rfl) (C_level (by unfold i32; omega)) ?_
                      rw [hlv]
                      refine c_V2v (d' := d - 1) dX7_readTest_94 l_X7_125 k_X7_settle i_X7_settle (Or.inl ⟨_, _, _, _, _, (by first | with_reducible assumption | rfl), by rfl⟩) (by omega) (Nat.le_of_ble_eq_true rfl) (C_settle (by omega) ho S7 V7 (by omega) (by omega) (by omega) hWc) (fun M8 N8 hx => ?_)
                      obtain ⟨rfl, k1, k2, k3, k4⟩ := hx
                      rw [q4.stl (by omega)] at k4
                      have T8 := T7.exc7 ho k3
                      refine st_aload_n dX7_readTest_97 rfl ?_
                      refine st_iload dX7_readTest_98 rfl ?_
                      refine c_V1v (d' := d - 1) dX7_readTest_100 l_X7_128 k_X7_hold i_X7_hold (Or.inl ⟨_, _, _, _, _, (by first | with_reducible assumption | rfl), by rfl⟩) (by omega) (Nat.le_of_ble_eq_true rfl) (C_hold (by omega) (by rw [k4.1.1]; omega)) (fun M9 N9 hx => ?_)
                      obtain ⟨rfl, hM9⟩ := hx
                      refine st_iinc (L' := [_, _, _, _, _]) dX7_readTest_103 rfl (by decide) rfl rfl ?_
                      refine st_goto (tgt := 2) dX7_readTest_106 rfl ?_
                      exact AW.le (AW.to (ih m3 (i + 1) (q + j) c3 (x :: (stl lv K2 (Es1 ++ sg1)).1) (stl lv K2 (Es1 ++ sg1)).2 M9 (by omega) (by omega) (by omega) (by rw [hM9]; exact T8.hold) (by rw [hM9]; exact k4.hold ho (by omega) (by omega)) (by rw [hM9]; exact k2.hold (by omega)) ((f7.tr k1).tr (by rw [hM9]; exact SF.hold ho)) (I5.jo ⟨hjn, hj⟩ hx)) (h2 := rfl)) (by simp [q_le])
                    refine st_istore_n (L' := [_, _, _, _, _]) dX7_readTest_65 (by decide) rfl rfl ?_
                    refine st_iload_n dX7_readTest_66 rfl ?_
                    refine st_iconst dX7_readTest_67 ?_
                    by_cases hand : isWd (M 2) n q (chL 26) = true
                    · rw [if_pos hand] at hT1
                      rw [if_pos hand] at hM7
                      rw [if_pos hand]
                      have hwl := wd_len hand
                      rw [ch26] at hwl
                      simp at hwl
                      rw [if_neg (by decide), hwl.2] at hM7
                      rw [hT1]
                      refine st_icmp_ne (tgt := 74) dX7_readTest_68 (by omega) (by omega) rfl (fun c4 => ?_) (fun c4 => ?_)
                      · refine st_iload_n dX7_readTest_74 rfl ?_
                        refine st_if_ne (tgt := 83) dX7_readTest_75 (by omega) rfl (fun c5 => ?_) (fun c5 => ?_)
                        · skip
                          exact absurd rfl c5
                        · refine st_bipush dX7_readTest_78 (by decide) ?_
                          refine st_goto (tgt := 85) dX7_readTest_80 rfl ?_
                          exact jo 22 2 _ 3 (Or.inl ⟨rfl, rfl⟩) (by omega) (by omega) (by rw [hM7]; exact T6.up (by omega))
                      · skip
                        exact absurd c4 (by decide)
                    · rw [if_neg hand] at hT1
                      rw [if_neg hand] at hM7
                      rw [if_neg hand]
                      by_cases hor : isWd (M 2) n q (chL 27) = true
                      · rw [if_pos hor] at hT1
                        rw [if_pos hor] at hM7
                        rw [if_pos hor]
                        have hwl := wd_len hor
                        rw [ch27] at hwl
                        simp at hwl
                        rw [if_neg (by decide), hwl.2] at hM7
                        rw [hT1]
                        refine st_icmp_ne (tgt := 74) dX7_readTest_68 (by omega) (by omega) rfl (fun c4 => ?_) (fun c4 => ?_)
                        · refine st_iload_n dX7_readTest_74 rfl ?_
                          refine st_if_ne (tgt := 83) dX7_readTest_75 (by omega) rfl (fun c5 => ?_) (fun c5 => ?_)
                          · refine st_bipush dX7_readTest_83 (by decide) ?_
                            exact jo 23 1 _ 2 (Or.inr ⟨rfl, rfl⟩) (by omega) (by omega) (by rw [hM7]; exact T6.up (by omega))
                          · skip
                            exact absurd c5 (by decide)
                        · skip
                          exact absurd c4 (by decide)
                      · rw [if_neg hor] at hT1
                        rw [if_neg hor] at hM7
                        rw [if_neg hor]
                        rw [if_pos rfl] at hM7
                        have T7 : TP M7 n q := by rw [hM7]; exact T6.up hqn
                        have hst := stl_ok (lv := 1) (by omega) K2 (Es1 ++ sg1) I5.1
                        rw [hT1]
                        refine st_icmp_ne (tgt := 74) dX7_readTest_68 (by omega) (by omega) rfl (fun c4 => ?_) (fun c4 => ?_)
                        · skip
                          exact absurd rfl c4
                        · refine st_goto (tgt := 109) dX7_readTest_71 rfl ?_
                          refine st_aload_n dX7_readTest_109 rfl ?_
                          refine st_aload_n dX7_readTest_110 rfl ?_
                          refine st_bipush dX7_readTest_111 (by decide) ?_
                          refine c_S1p (d' := d - 1) dX7_readTest_113 l_X7_122 k_X7_level s_X7_level (by omega) (Nat.le_of_ble_eq_true rfl) (C_level (by unfold i32; omega)) ?_
                          rw [show lvl 23 = 1 by decide]
                          refine c_V2v (d' := d - 1) dX7_readTest_116 l_X7_125 k_X7_settle i_X7_settle (Or.inl ⟨_, _, _, _, _, (by first | with_reducible assumption | rfl), by rfl⟩) (by omega) (Nat.le_of_ble_eq_true rfl) (C_settle (by omega) ho S7 V7 (by omega) (by omega) (by omega) hWc) (fun M8 N8 hx => ?_)
                          obtain ⟨rfl, k1, k2, k3, k4⟩ := hx
                          rw [q4.stl (by omega)] at k4
                          have T8 := T7.exc7 ho k3
                          have f8 := f7.tr k1
                          have a5 : M8 84 5 = (bK K2 : Int) := by
                            rw [← hst.2.2.2.1]
                            exact k4.1.2.2.2.2
                          refine st_aload_n dX7_readTest_119 rfl ?_
                          refine st_getfi dX7_readTest_120 f_X7_42 (by first | with_reducible assumption | rfl) (by rfl) ?_
                          rw [a5]
                          cases hK1 : (stl 1 K2 (Es1 ++ sg1)).1 with
                          | nil =>
                            rw [hK1] at k4 hst
                            have hz : bK K2 = 0 := hst.2.2.2.1.symm
                            refine st_if_le (tgt := 149) dX7_readTest_123 (by omega) rfl (fun c6 => ?_) (fun c6 => ?_)
                            · skip
                              refine r_v dX7_readTest_149 rfl ⟨rfl, ⟨k2, f8⟩, Or.inl ⟨_, _, _, rfl, T8, k4⟩⟩
                            · skip
                              omega
                          | cons y K3 =>
                            rw [hK1] at k4 hst
                            have hy : y = 24 := lvl_0.1 (hst.2.1 y rfl)
                            subst hy
                            have hb := hst.2.2.2.1
                            rw [bK_c, if_pos rfl] at hb
                            have h93 : ¬ bytA (M 2) n (q : Int) = 93 := by
                              rcases q5 with z | z
                              · omega
                              · exact z
                            dsimp only
                            rw [if_neg h93]
                            refine st_if_le (tgt := 149) dX7_readTest_123 (by omega) rfl (fun c6 => ?_) (fun c6 => ?_)
                            · skip
                              omega
                            · refine st_aload_n dX7_readTest_126 rfl ?_
                              refine st_getfr dX7_readTest_127 f_X7_15 (by first | with_reducible assumption | rfl) (by rfl) ?_
                              refine c_V0i (d' := d - 1) dX7_readTest_130 l_X7_56 k_X8_peek i_X8_peek (Or.inl ⟨_, _, _, _, _, (by first | with_reducible assumption | rfl), by rfl⟩) (by omega) (Nat.le_of_ble_eq_true rfl) (C_peekT (by omega) T8) (fun x M9 N9 hx => ?_)
                              obtain ⟨rfl, rfl, hM9, T9⟩ := hx
                              have r8 := f8.row2 ho
                              rw [r8, hss] at hM9 T9
                              have x9 : Exc [1] M8 M9 := by rw [hM9]; exact Exc.up (by simp)
                              refine st_pop dX7_readTest_133 rfl ?_
                              refine st_aload_n dX7_readTest_134 rfl ?_
                              refine st_getfr dX7_readTest_135 f_X7_15 (by first | with_reducible assumption | rfl) (by rfl) ?_
                              refine st_aload_n dX7_readTest_138 rfl ?_
                              refine st_getfr dX7_readTest_139 f_X7_15 (by first | with_reducible assumption | rfl) (by rfl) ?_
                              refine st_getfi dX7_readTest_142 f_X7_60 (by first | with_reducible assumption | rfl) (by rfl) ?_
                              rw [T9.2.2.1]
                              refine st_iconst dX7_readTest_145 ?_
                              refine c_V2v (d' := d - 1) dX7_readTest_146 l_X7_69 k_X8_fail i_X8_fail (Or.inl ⟨_, _, _, _, _, (by first | with_reducible assumption | rfl), by rfl⟩) (by omega) (Nat.le_of_ble_eq_true rfl) (C_failT (k := 0) T9 (by omega) (by omega)) (fun M10 N10 hx => ?_)
                              obtain ⟨rfl, u1, u2⟩ := hx
                              refine r_v dX7_readTest_149 rfl ⟨rfl, ⟨(k2.exc x9 (by simp)).exc u1 (by simp), (f8.tr (x9.sf ho (by simp))).tr (u1.sf ho (by simp))⟩, Or.inr ⟨_, rfl, ?_, ?_⟩⟩
                              · rw [show (1 + 8 * (q : Int)) = 1 + 8 * (q : Int) + ((0 : Nat) : Int) by omega]
                                exact u2
                              · have hst2 := SK_len2 hst.1
                                have hd10 := I5.2.1
                                have hEl : (stl 1 K2 (Es1 ++ sg1)).2.length ≤ 2000 := by
                                  obtain ⟨sg9, z1, -, z2⟩ := hst.2.2.2.2.2
                                  rw [z1]
                                  have := bK_le K2
                                  simp
                                  omega
                                exact ((k4.se (k := 2000) (by omega) (by have := I5.2.2.2.1; omega) (by omega)).exc1 ho x9).exc1 ho u1 |>.mono (by omega)
                  · skip
                    exact absurd T6.2.2.2.2 c9
                · have hcmp : cmpP (M 2) n p1 c E = .error F := by
                    rw [cmpP_sg, k1]
                    dsimp only
                    rw [l1]
                    dsimp only
                    rw [n1]
                  rw [hcmp]
                  exact toQ rfl (e39 M5 F _ _ _ T5 (S5.mono (by omega)) V5 f5)
              · have hcmp : cmpP (M 2) n p1 c E = .error F := by
                  rw [cmpP_sg, k1]
                  dsimp only
                  rw [l1]
                rw [hcmp]
                exact toQ rfl (e32 M4 F _ _ _ T4 (S4.mono (by omega)) V4 f4)
            · have hcmp : cmpP (M 2) n p1 c E = .error F := by rw [cmpP_sg, k1]
              rw [hcmp]
              exact toQ rfl (e28 M3 F _ _ _ T3 (S3.mono (by omega)) V3 f3)
          · rw [j1]
            exact toQ rfl (e23 M2 F _ _ _ T2 (S2.mono (by omega)) V2 f2)
  refine AC.of (L0 := [_, _, none, none, none]) pn_X7 (Nat.le_of_ble_eq_true rfl) rfl ?_
  refine st_iconst dX7_readTest_0 ?_
  refine st_istore_n (L' := [_, _, _, _, _]) dX7_readTest_1 (by decide) rfl rfl ?_
  exact AW.to (loop 401 401 0 p c [] E M (by omega) (by omega) (by omega) hT h hV SF.rf hI)


/-! the system reads a rule: what opens and closes, signs -/
theorem wd_hd {f : Nat → Int} {n q : Nat} {c : Int} {w : List Int} (h : isWd f n q (c :: w) = true) : bytA f n (q : Int) = c := by
  unfold isWd mtB at h
  simp at h
  exact h.2.1
theorem ch25 : chL 25 = [110, 111, 116] := by decide +kernel
theorem ch26 : chL 26 = [97, 110, 100] := by decide +kernel
theorem ch27 : chL 27 = [111, 114] := by decide +kernel
theorem ch4 : chL 4 = jnW [chL 25] := by decide +kernel
theorem ch5 : chL 5 = jnW [chL 26, chL 27] := by decide +kernel
theorem findW1 {f : Nat → Int} {n p : Nat} {w : List Int} : findW f n p [w] 0 = if isWd f n p w = true then 0 else -1 := rfl
theorem findW2 {f : Nat → Int} {n p : Nat} {w w2 : List Int} : findW f n p [w, w2] 0 = if isWd f n p w = true then 0 else if isWd f n p w2 = true then 1 else -1 := rfl
theorem SK_mem : ∀ {K : List Int}, SK K → ∀ x, x ∈ K → 21 ≤ x ∧ x ≤ 24
  | [], _, x, hx => by simp at hx
  | y :: K, h, x, hx => by
    obtain ⟨h1, -, h3⟩ := h
    rcases List.mem_cons.1 hx with rfl | hx
    · omega
    · exact SK_mem h3 x hx
theorem SK_lv {K : List Int} (h : SK K) : ∀ x, x ∈ K → lvl x ≤ 3 := by
  intro x hx
  have := SK_mem h x hx
  have hc : x = 21 ∨ x = 22 ∨ x = 23 ∨ x = 24 := by omega
  rcases hc with rfl | rfl | rfl | rfl <;> decide
theorem tstP_sk {f : Nat → Int} {n m p c : Nat} {w : Bool} {K E : List Int} : tstP f n m w (skip f n p) c K E = tstP f n m w p c K E := by
  cases m with
  | zero => rfl
  | succ m =>
    cases w with
    | true => rw [tstP_t, tstP_t, skip_skip]
    | false => rw [tstP_f, tstP_f, skip_skip]
/-- one that opens, held -/
theorem SR.open1 {o c : Nat} {W E : List Int} {M M2 : q_Mem} {x : Int} (ho : isRu o) (h : SR o c W E M) (hW : W.length < 64) (hx : x = 21 ∧ M2 = q_up M 84 4 ((dK W : Int) + 1) ∨ x = 24 ∧ M2 = q_up (q_up M 84 5 ((bK W : Int) + 1)) 84 4 ((dK W : Int) + 1)) : SR o c (x :: W) E (q_up (if M2 84 2 < 64 then q_up M2 85 (M2 84 2).toNat x else M2) 84 2 (M2 84 2 + 1)) := by
  unfold isRu at ho
  obtain ⟨⟨a1, a2, a3, a4, a5⟩, a6, a7⟩ := h
  have b2 : M2 84 2 = (W.length : Int) := by rcases hx with ⟨-, rfl⟩ | ⟨-, rfl⟩ <;> simp [q_up, a1]
  have b3 : M2 84 3 = (c : Int) := by rcases hx with ⟨-, rfl⟩ | ⟨-, rfl⟩ <;> simp [q_up, a3]
  have b4 : M2 84 4 = (dK W : Int) + 1 := by rcases hx with ⟨-, rfl⟩ | ⟨-, rfl⟩ <;> simp [q_up]
  have b5 : M2 84 5 = (bK (x :: W) : Int) := by
    rw [bK_c]
    rcases hx with ⟨rfl, rfl⟩ | ⟨rfl, rfl⟩
    · simp [q_up, a5]
    · simp [q_up]
      omega
  have b85 : M2 85 = M 85 := by
    rcases hx with ⟨-, rfl⟩ | ⟨-, rfl⟩
    · rw [q_up_ne (by decide)]
    · rw [q_up_ne (by decide), q_up_ne (by decide)]
  have bo : ∀ a, ¬ a = 84 → M2 a = M a := by
    intro a ha
    rcases hx with ⟨-, rfl⟩ | ⟨-, rfl⟩
    · rw [q_up_ne ha]
    · rw [q_up_ne ha, q_up_ne ha]
  have hd : (dK (x :: W) : Int) = (dK W : Int) + 1 := by
    rw [dK_c, if_pos (by rcases hx with ⟨rfl, -⟩ | ⟨rfl, -⟩ <;> omega)]
    omega
  rw [b2, if_pos (by omega), Int.toNat_natCast]
  refine ⟨⟨?_, ?_, ?_, ?_, ?_⟩, ?_, ?_⟩
  · simp [q_up]
  · rw [q_up_ne (by decide), q_upR, b85]
    exact a2.push
  · simp [q_up, b3]
  · rw [hd]
    simp [q_up, b4]
  · simp [q_up, b5]
  · rw [q_up_ne (by omega), q_up_ne (by omega), bo o (by omega)]
    exact a6
  · rw [q_up_ne (by omega), q_up_ne (by omega), bo (o + 1) (by omega)]
    exact a7
theorem SE.up4 {o : Nat} {k : Int} {M : q_Mem} (ho : isRu o) (h : SE o k M) : SE o (k + 1) (q_up M 84 4 (M 84 4 + 1)) := by
  unfold isRu at ho
  obtain ⟨⟨a1, a2⟩, ⟨b1, b2⟩, ⟨c1, c2⟩, ⟨d1, d2⟩, e1, e2⟩ := h
  unfold SE
  rw [show q_up M 84 4 (M 84 4 + 1) o 1 = M o 1 by rw [q_up_ne (by omega)]]
  simp [q_up]
  omega
/-- where a fact begins -/
theorem C_openFacts {G : q_G} {d : Nat} {M : q_Mem} {N : q_MemL} {o n p c m : Nat} {K E E0 : List Int} (hd : 6 ≤ d) (ho : isRu o) (hT : TP M n p) (h : SR o c K E M) (hV : VW M) (hI : TI n 0 p c K E E0) (hm : n - p < m) : AC0 G d m_X7_openFacts [.ref 84] M N (CN (fun M1 N1 => N1 = N ∧ (VW M1 ∧ SF o M M1) ∧ ((∃ m1 p1 K1, tstP (M 2) n m true p c K E = tstP (M 2) n (m1 + 1) true p1 c K1 E ∧ (n - p1 < m1 + 1 ∧ p ≤ p1) ∧ skip (M 2) n p1 = p1 ∧ TP M1 n p1 ∧ SR o c K1 E M1 ∧ TI n 0 p1 c K1 E E0 ∧ ¬ isWd (M 2) n p1 (chL 25) = true ∧ ¬ bytA (M 2) n (p1 : Int) = 91) ∨ ∃ F, tstP (M 2) n m true p c K E = .error F ∧ TE M1 n F ∧ SE o 1000 M1))) := by
  have hn4 := hT.2.1
  have loop : ∀ (m i p : Nat) (K : List Int) (M1 : q_Mem), i ≤ dK K → n - p < m → TP M1 n p → SR o c K E M1 → VW M1 → SF o M M1 → TI n 0 p c K E E0 → AW0 G d m_X7_openFacts 2 [some (.ref 84), some (I i), none, none] [] M1 N (CN (fun M2 N1 => N1 = N ∧ (VW M2 ∧ SF o M M2) ∧ ((∃ m1 p1 K1, tstP (M 2) n m true p c K E = tstP (M 2) n (m1 + 1) true p1 c K1 E ∧ (n - p1 < m1 + 1 ∧ p ≤ p1) ∧ skip (M 2) n p1 = p1 ∧ TP M2 n p1 ∧ SR o c K1 E M2 ∧ TI n 0 p1 c K1 E E0 ∧ ¬ isWd (M 2) n p1 (chL 25) = true ∧ ¬ bytA (M 2) n (p1 : Int) = 91) ∨ ∃ F, tstP (M 2) n m true p c K E = .error F ∧ TE M2 n F ∧ SE o 1000 M2))) := by
    intro m
    induction m with
    | zero =>
      intro i p K M1 hi hm
      omega
    | succ m ih =>
      intro i p K M1 hi hm hT h hV hf hI
      have e2 := hf.row2 ho
      have hl := hI.len hn4
      have hd10 := hI.2.1
      have hc60 := hI.2.2.2.1
      have hs := skip_le (M 2) n p
      have hqn := hs.2.1 hT.2.2.2.1
      have hss := skip_skip (M 2) n p
      have hI2 := hI.skp (f := M 2)
      have hskE := tstP_sk (f := M 2) (n := n) (m := m + 1) (p := p) (c := c) (w := true) (K := K) (E := E)
      rw [← hskE]
      refine st_iload_n dX7_openFacts_2 rfl ?_
      refine st_sipush dX7_openFacts_3 (by decide) ?_
      refine st_icmp_ge (tgt := 140) dX7_openFacts_6 (by omega) (by omega) rfl (fun c1 => ?_) (fun c1 => ?_)
      · skip
        omega
      · refine st_aload_n dX7_openFacts_9 rfl ?_
        refine st_getfr dX7_openFacts_10 f_X7_15 (by first | with_reducible assumption | rfl) (by rfl) ?_
        refine c_V0p (d' := d - 1) dX7_openFacts_13 l_X7_89 k_X8_failed i_X8_failed (Or.inl ⟨_, _, _, _, _, (by first | with_reducible assumption | rfl), by rfl⟩) (by omega) (Nat.le_of_ble_eq_true rfl) (C_failed (by rw [hT.2.2.2.2]; unfold i32; omega)) ?_
        refine b_ne (tgt := 140) dX7_openFacts_16 rfl (fun c2 => ?_) (fun c2 => ?_)
        · skip
          exact absurd hT.2.2.2.2 c2
        · refine st_aload_n dX7_openFacts_19 rfl ?_
          refine st_getfr dX7_openFacts_20 f_X7_15 (by first | with_reducible assumption | rfl) (by rfl) ?_
          refine c_V0i (d' := d - 1) dX7_openFacts_23 l_X7_56 k_X8_peek i_X8_peek (Or.inl ⟨_, _, _, _, _, (by first | with_reducible assumption | rfl), by rfl⟩) (by omega) (Nat.le_of_ble_eq_true rfl) (C_peekT (by omega) hT) (fun x M2 N2 hx => ?_)
          obtain ⟨rfl, rfl, hM2, T2⟩ := hx
          rw [e2] at hM2 T2
          rw [e2]
          have x2 : Exc [1] M1 M2 := by rw [hM2]; exact Exc.up (by simp)
          have hpq := hs.1
          generalize skip (M 2) n p = q at *
          have S2 : SR o c K E M2 := h.exc1 ho x2
          have V2 : VW M2 := hV.exc x2 (by simp)
          have f2 : SF o M M2 := hf.tr (x2.sf ho (by simp))
          have r2 : M2 2 = M 2 := f2.row2 ho
          have hb := bytA_rng (M 2) n (q : Int)
          -- behind one that opens, held
          have nx : ∀ (K2 : List Int) (p2 : Nat) (M5 : q_Mem) (x2 x3 : Option Value), dK K2 = dK K + 1 → ¬ dK K = 10 → q < p2 → TI n 0 p2 c K2 E E0 → TP M5 n p2 → SR o c K2 E M5 → VW M5 → SF o M M5 → tstP (M 2) n (m + 1) true q c K E = tstP (M 2) n m true p2 c K2 E → AW0 G d m_X7_openFacts 2 [some (.ref 84), some (I ((i : Int) + 1)), x2, x3] [] M5 N2 (CN (fun M2 N1 => N1 = N2 ∧ (VW M2 ∧ SF o M M2) ∧ ((∃ m1 p1 K1, tstP (M 2) n (m + 1) true q c K E = tstP (M 2) n (m1 + 1) true p1 c K1 E ∧ (n - p1 < m1 + 1 ∧ p ≤ p1) ∧ skip (M 2) n p1 = p1 ∧ TP M2 n p1 ∧ SR o c K1 E M2 ∧ TI n 0 p1 c K1 E E0 ∧ ¬ isWd (M 2) n p1 (chL 25) = true ∧ ¬ bytA (M 2) n (p1 : Int) = 91) ∨ ∃ F, tstP (M 2) n (m + 1) true q c K E = .error F ∧ TE M2 n F ∧ SE o 1000 M2))) := by
            intro K2 p2 M5 x2 x3 hd2 hd3 hp2 hI5 T5 S5 V5 f5 he
            rw [he]
            have hp2n := hI5.2.2.1
            have ih2 := ih (i + 1) p2 K2 M5 (by omega) (by omega) T5 S5 V5 f5 hI5
            refine AW.mono (fun v S' M' N' hx => ?_) (AW.le (AW.to ih2 (h2 := rfl)) (by simp [q_le]))
            obtain ⟨k1, k2, k3, k4, k5⟩ := hx
            refine ⟨k1, k2, k3, k4, ?_⟩
            rcases k5 with ⟨m1, p1, K1, j1, ⟨j2, j3⟩, j4⟩ | k5
            · exact Or.inl ⟨m1, p1, K1, j1, ⟨j2, by omega⟩, j4⟩
            · exact Or.inr k5
          -- in a fault
          have out : ∀ (M5 : q_Mem) (F : Int) (x2 x3 : Option Value), TE M5 n F → SE o 900 M5 → VW M5 → SF o M M5 → tstP (M 2) n (m + 1) true q c K E = .error F → AW0 G d m_X7_openFacts 2 [some (.ref 84), some (I ((i : Int) + 1)), x2, x3] [] M5 N2 (CN (fun M2 N1 => N1 = N2 ∧ (VW M2 ∧ SF o M M2) ∧ ((∃ m1 p1 K1, tstP (M 2) n (m + 1) true q c K E = tstP (M 2) n (m1 + 1) true p1 c K1 E ∧ (n - p1 < m1 + 1 ∧ p ≤ p1) ∧ skip (M 2) n p1 = p1 ∧ TP M2 n p1 ∧ SR o c K1 E M2 ∧ TI n 0 p1 c K1 E E0 ∧ ¬ isWd (M 2) n p1 (chL 25) = true ∧ ¬ bytA (M 2) n (p1 : Int) = 91) ∨ ∃ F, tstP (M 2) n (m + 1) true q c K E = .error F ∧ TE M2 n F ∧ SE o 1000 M2))) := by
            intro M5 F x2 x3 T5 S5 V5 f5 he
            refine st_iload_n dX7_openFacts_2 rfl ?_
            refine st_sipush dX7_openFacts_3 (by decide) ?_
            refine st_icmp_ge (tgt := 140) dX7_openFacts_6 (by omega) (by omega) rfl (fun d1 => ?_) (fun d1 => ?_)
            · skip
              omega
            · refine st_aload_n dX7_openFacts_9 rfl ?_
              refine st_getfr dX7_openFacts_10 f_X7_15 (by first | with_reducible assumption | rfl) (by rfl) ?_
              refine c_V0p (d' := d - 1) dX7_openFacts_13 l_X7_89 k_X8_failed i_X8_failed (Or.inl ⟨_, _, _, _, _, (by first | with_reducible assumption | rfl), by rfl⟩) (by omega) (Nat.le_of_ble_eq_true rfl) (C_failed (by rw [T5.2.2.2.1]; unfold i32; have := T5.2.2.2.2; omega)) ?_
              refine b_ne (tgt := 140) dX7_openFacts_16 rfl (fun d2 => ?_) (fun d2 => ?_)
              · skip
                refine r_v dX7_openFacts_140 rfl ⟨rfl, ⟨V5, f5⟩, Or.inr ⟨F, he, T5, S5.mono (by omega)⟩⟩
              · skip
                exact absurd (by rw [T5.2.2.2.1]; exact T5.2.2.2.2.1) d2
          have hw1 := fun (z : isWd (M 2) n q (chL 25) = true) => wd_hd (by rw [ch25] at z; exact z)
          refine st_bipush dX7_openFacts_26 (by decide) ?_
          refine st_icmp_ne (tgt := 35) dX7_openFacts_28 (by omega) (by omega) rfl (fun c3 => ?_) (fun c3 => ?_)
          · refine st_iconst dX7_openFacts_35 ?_
            refine st_istore_n (L' := [_, _, _, _]) dX7_openFacts_36 (by decide) rfl rfl ?_
            refine st_aload_n dX7_openFacts_37 rfl ?_
            refine st_getfr dX7_openFacts_38 f_X7_15 (by first | with_reducible assumption | rfl) (by rfl) ?_
            refine st_getfi dX7_openFacts_41 f_X7_60 (by first | with_reducible assumption | rfl) (by rfl) ?_
            rw [T2.2.2.1]
            refine st_istore_n (L' := [_, _, _, _]) dX7_openFacts_44 (by decide) rfl rfl ?_
            refine st_iload_n dX7_openFacts_45 rfl ?_
            refine st_if_eq (tgt := 75) dX7_openFacts_46 (by omega) rfl (fun c4 => ?_) (fun c4 => ?_)
            · refine st_aload_n dX7_openFacts_75 rfl ?_
              refine st_getfr dX7_openFacts_76 f_X7_15 (by first | with_reducible assumption | rfl) (by rfl) ?_
              refine st_ldcS (i := 4) dX7_openFacts_79 rfl ?_
              refine c_V1i (d' := d - 1) dX7_openFacts_81 l_X7_65 k_X8_readWord i_X8_readWord (Or.inl ⟨_, _, _, _, _, (by first | with_reducible assumption | rfl), by rfl⟩) (by omega) (Nat.le_of_ble_eq_true rfl) (C_readWord (i := 4) (ws := [chL 25]) (by omega) (by decide) ch4 (by simp) (by decide +kernel) T2.1 T2.2.1 T2.2.2.1 (by omega)) (fun x M3 N3 hx => ?_)
              obtain ⟨rfl, rfl, hM3⟩ := hx
              rw [r2, hss, findW1] at hM3
              rw [r2, hss, findW1]
              refine st_iconst dX7_openFacts_84 ?_
              by_cases hw : isWd (M 2) n q (chL 25) = true
              · rw [if_pos hw] at hM3
                rw [if_pos hw]
                have hwl := wd_len hw
                rw [ch25] at hwl
                simp at hwl
                rw [if_neg (by decide), hwl.2] at hM3
                have T3 : TP M3 n (q + 3) := by rw [hM3]; exact T2.up (by omega)
                have x3 : Exc [1] M2 M3 := by rw [hM3]; exact Exc.up (by simp)
                have S3 : SR o c K E M3 := S2.exc1 ho x3
                have V3 : VW M3 := V2.exc x3 (by simp)
                have f3 : SF o M M3 := f2.tr (x3.sf ho (by simp))
                have a4 : M3 84 4 = (dK K : Int) := S3.1.2.2.2.1
                have hT1 := tstP_t (f := M 2) (n := n) (m := m) (p := q) (c := c) (K := K) (E := E)
                rw [hss, if_pos hw] at hT1
                refine st_icmp_ne (tgt := 91) dX7_openFacts_85 (by omega) (by omega) rfl (fun c5 => ?_) (fun c5 => ?_)
                · refine st_aload_n dX7_openFacts_91 rfl ?_
                  refine st_dup dX7_openFacts_92 rfl ?_
                  refine st_getfi dX7_openFacts_93 f_X7_39 (by first | with_reducible assumption | rfl) (by rfl) ?_
                  rw [a4]
                  refine st_iconst dX7_openFacts_96 ?_
                  refine st_iadd dX7_openFacts_97 ?_
                  refine st_putfi dX7_openFacts_98 w_X7_39 (by first | with_reducible assumption | rfl) (by rfl) rfl rfl ?_
                  refine st_aload_n dX7_openFacts_101 rfl ?_
                  refine st_getfi dX7_openFacts_102 f_X7_39 (by first | with_reducible assumption | rfl) (by rfl) ?_
                  rw [show q_up M3 84 4 ((dK K : Int) + 1) 84 4 = (dK K : Int) + 1 by simp [q_up]]
                  refine st_bipush dX7_openFacts_105 (by decide) ?_
                  have T4 : TP (q_up M3 84 4 ((dK K : Int) + 1)) n (q + 3) := T3.ne (by decide)
                  have V4 : VW (q_up M3 84 4 ((dK K : Int) + 1)) := V3.up (by decide)
                  have f4 : SF o M (q_up M3 84 4 ((dK K : Int) + 1)) := f3.tr (SF.up ho (by omega))
                  have w4 : q_up M3 84 4 ((dK K : Int) + 1) 84 2 = (K.length : Int) := by simp [q_up, S3.1.1]
                  refine st_icmp_le (tgt := 119) dX7_openFacts_107 (by omega) (by omega) rfl (fun c6 => ?_) (fun c6 => ?_)
                  · refine st_aload_n dX7_openFacts_119 rfl ?_
                    refine st_iload_n dX7_openFacts_120 rfl ?_
                    rw [if_neg (by omega)] at hT1
                    refine st_if_eq (tgt := 129) dX7_openFacts_121 (by omega) rfl (fun c7 => ?_) (fun c7 => ?_)
                    · refine st_bipush dX7_openFacts_129 (by decide) ?_
                      refine c_V1v (d' := d - 1) dX7_openFacts_131 l_X7_128 k_X7_hold i_X7_hold (Or.inl ⟨_, _, _, _, _, (by first | with_reducible assumption | rfl), by rfl⟩) (by omega) (Nat.le_of_ble_eq_true rfl) (C_hold (by omega) (by rw [w4]; omega)) (fun M5 N5 hx => ?_)
                      obtain ⟨rfl, hM5⟩ := hx
                      refine st_iinc (L' := [_, _, _, _]) dX7_openFacts_134 rfl (by decide) rfl rfl ?_
                      refine st_goto (tgt := 2) dX7_openFacts_137 rfl ?_
                      exact nx (21 :: K) (q + 3) M5 _ _ (by rw [dK_c, if_pos (by omega)]; omega) (by omega) (by omega) (hI2.not hw (by omega)) (by rw [hM5]; exact T4.hold) (by rw [hM5]; exact S3.open1 ho (by omega) (Or.inl ⟨rfl, rfl⟩)) (by rw [hM5]; exact V4.hold (by omega)) (f4.tr (by rw [hM5]; exact SF.hold ho)) hT1
                    · skip
                      exact absurd rfl c7
                  · refine st_aload_n dX7_openFacts_110 rfl ?_
                    refine st_getfr dX7_openFacts_111 f_X7_15 (by first | with_reducible assumption | rfl) (by rfl) ?_
                    refine st_iload_n dX7_openFacts_114 rfl ?_
                    refine st_iconst dX7_openFacts_115 ?_
                    rw [if_pos (by omega)] at hT1
                    refine c_V2v (d' := d - 1) dX7_openFacts_116 l_X7_69 k_X8_fail i_X8_fail (Or.inl ⟨_, _, _, _, _, (by first | with_reducible assumption | rfl), by rfl⟩) (by omega) (Nat.le_of_ble_eq_true rfl) (C_failT (k := 2) T4 (by omega) (by omega)) (fun M4 N4 hx => ?_)
                    obtain ⟨rfl, k1, k2⟩ := hx
                    refine st_aload_n dX7_openFacts_119 rfl ?_
                    refine st_iload_n dX7_openFacts_120 rfl ?_
                    refine st_if_eq (tgt := 129) dX7_openFacts_121 (by omega) rfl (fun c7 => ?_) (fun c7 => ?_)
                    · refine st_bipush dX7_openFacts_129 (by decide) ?_
                      have E4 : SE o 500 M4 := by
                        have := (S3.se (k := 400) (by omega) (by omega) (by omega)).up4 ho
                        rw [a4] at this
                        exact (this.exc1 ho k1).mono (by omega)
                      refine c_V1v (d' := d - 1) dX7_openFacts_131 l_X7_128 k_X7_hold i_X7_hold (Or.inl ⟨_, _, _, _, _, (by first | with_reducible assumption | rfl), by rfl⟩) (by omega) (Nat.le_of_ble_eq_true rfl) (C_hold (by omega) (by have := E4.1; omega)) (fun M5 N5 hx => ?_)
                      obtain ⟨rfl, hM5⟩ := hx
                      refine st_iinc (L' := [_, _, _, _]) dX7_openFacts_134 rfl (by decide) rfl rfl ?_
                      refine st_goto (tgt := 2) dX7_openFacts_137 rfl ?_
                      exact out M5 _ _ _ (by rw [hM5]; exact k2.hold) (by rw [hM5]; exact (E4.hold ho).mono (by omega)) (by rw [hM5]; exact (V4.exc k1 (by simp)).hold (by omega)) ((f4.tr (k1.sf ho (by simp))).tr (by rw [hM5]; exact SF.hold ho)) (by rw [hT1]; congr 1)
                    · skip
                      exact absurd rfl c7
                · skip
                  exact absurd c5 (by decide)
              · rw [if_neg hw] at hM3
                rw [if_neg hw]
                rw [if_pos rfl] at hM3
                have T3 : TP M3 n q := by rw [hM3]; exact T2.up hqn
                have x3 : Exc [1] M2 M3 := by rw [hM3]; exact Exc.up (by simp)
                refine st_icmp_ne (tgt := 91) dX7_openFacts_85 (by omega) (by omega) rfl (fun c5 => ?_) (fun c5 => ?_)
                · skip
                  exact absurd rfl c5
                · refine st_goto (tgt := 140) dX7_openFacts_88 rfl ?_
                  refine r_v dX7_openFacts_140 rfl ⟨rfl, ⟨V2.exc x3 (by simp), f2.tr (x3.sf ho (by simp))⟩, Or.inl ⟨m, q, K, rfl, ⟨by omega, hpq⟩, hss, T3, S2.exc1 ho x3, hI2, hw, c3⟩⟩
            · skip
              exact absurd rfl c4
          · refine st_iconst dX7_openFacts_31 ?_
            refine st_goto (tgt := 36) dX7_openFacts_32 rfl ?_
            refine st_istore_n (L' := [_, _, _, _]) dX7_openFacts_36 (by decide) rfl rfl ?_
            refine st_aload_n dX7_openFacts_37 rfl ?_
            refine st_getfr dX7_openFacts_38 f_X7_15 (by first | with_reducible assumption | rfl) (by rfl) ?_
            refine st_getfi dX7_openFacts_41 f_X7_60 (by first | with_reducible assumption | rfl) (by rfl) ?_
            rw [T2.2.2.1]
            refine st_istore_n (L' := [_, _, _, _]) dX7_openFacts_44 (by decide) rfl rfl ?_
            refine st_iload_n dX7_openFacts_45 rfl ?_
            refine st_if_eq (tgt := 75) dX7_openFacts_46 (by omega) rfl (fun c4 => ?_) (fun c4 => ?_)
            · skip
              omega
            · refine st_aload_n dX7_openFacts_49 rfl ?_
              refine st_getfr dX7_openFacts_50 f_X7_15 (by first | with_reducible assumption | rfl) (by rfl) ?_
              refine st_dup dX7_openFacts_53 rfl ?_
              refine st_getfi dX7_openFacts_54 f_X7_60 (by first | with_reducible assumption | rfl) (by rfl) ?_
              rw [T2.2.2.1]
              refine st_iconst dX7_openFacts_57 ?_
              refine st_iadd dX7_openFacts_58 ?_
              refine st_putfi dX7_openFacts_59 w_X7_60 (by first | with_reducible assumption | rfl) (by rfl) rfl rfl ?_
              refine st_aload_n dX7_openFacts_62 rfl ?_
              refine st_dup dX7_openFacts_63 rfl ?_
              refine st_getfi dX7_openFacts_64 f_X7_42 (by first | with_reducible assumption | rfl) (by rfl) ?_
              have hlt := byt_lt c3 (by decide)
              have hw : ¬ isWd (M 2) n q (chL 25) = true := fun z => by have := hw1 z; omega
              have hT1 := tstP_t (f := M 2) (n := n) (m := m) (p := q) (c := c) (K := K) (E := E)
              rw [hss, if_neg hw, if_pos c3] at hT1
              have T3 : TP (q_up M2 1 2 ((q : Int) + 1)) n (q + 1) := by
                have := T2.up (q := q + 1) (by omega)
                rw [show ((q + 1 : Nat) : Int) = (q : Int) + 1 by omega] at this
                exact this
              have x3 : Exc [1] M2 (q_up M2 1 2 ((q : Int) + 1)) := Exc.up (by simp)
              have S3 : SR o c K E (q_up M2 1 2 ((q : Int) + 1)) := S2.exc1 ho x3
              have V3 : VW (q_up M2 1 2 ((q : Int) + 1)) := V2.exc x3 (by simp)
              have f3 : SF o M (q_up M2 1 2 ((q : Int) + 1)) := f2.tr (x3.sf ho (by simp))
              generalize q_up M2 1 2 ((q : Int) + 1) = M3 at *
              have a5 : M3 84 5 = (bK K : Int) := S3.1.2.2.2.2
              have a4 : M3 84 4 = (dK K : Int) := S3.1.2.2.2.1
              rw [a5]
              refine st_iconst dX7_openFacts_67 ?_
              refine st_iadd dX7_openFacts_68 ?_
              refine st_putfi dX7_openFacts_69 w_X7_42 (by first | with_reducible assumption | rfl) (by rfl) rfl rfl ?_
              refine st_goto (tgt := 91) dX7_openFacts_72 rfl ?_
              refine st_aload_n dX7_openFacts_91 rfl ?_
              refine st_dup dX7_openFacts_92 rfl ?_
              refine st_getfi dX7_openFacts_93 f_X7_39 (by first | with_reducible assumption | rfl) (by rfl) ?_
              rw [show q_up M3 84 5 ((bK K : Int) + 1) 84 4 = (dK K : Int) by simp [q_up, a4]]
              refine st_iconst dX7_openFacts_96 ?_
              refine st_iadd dX7_openFacts_97 ?_
              refine st_putfi dX7_openFacts_98 w_X7_39 (by first | with_reducible assumption | rfl) (by rfl) rfl rfl ?_
              refine st_aload_n dX7_openFacts_101 rfl ?_
              refine st_getfi dX7_openFacts_102 f_X7_39 (by first | with_reducible assumption | rfl) (by rfl) ?_
              rw [show q_up (q_up M3 84 5 ((bK K : Int) + 1)) 84 4 ((dK K : Int) + 1) 84 4 = (dK K : Int) + 1 by simp [q_up]]
              refine st_bipush dX7_openFacts_105 (by decide) ?_
              have T4 : TP (q_up (q_up M3 84 5 ((bK K : Int) + 1)) 84 4 ((dK K : Int) + 1)) n (q + 1) := (T3.ne (by decide)).ne (by decide)
              have V4 : VW (q_up (q_up M3 84 5 ((bK K : Int) + 1)) 84 4 ((dK K : Int) + 1)) := (V3.up (by decide)).up (by decide)
              have f4 : SF o M (q_up (q_up M3 84 5 ((bK K : Int) + 1)) 84 4 ((dK K : Int) + 1)) := f3.tr ((SF.up ho (by omega)).tr (SF.up ho (by omega)))
              have w4 : q_up (q_up M3 84 5 ((bK K : Int) + 1)) 84 4 ((dK K : Int) + 1) 84 2 = (K.length : Int) := by simp [q_up, S3.1.1]
              refine st_icmp_le (tgt := 119) dX7_openFacts_107 (by omega) (by omega) rfl (fun c6 => ?_) (fun c6 => ?_)
              · refine st_aload_n dX7_openFacts_119 rfl ?_
                refine st_iload_n dX7_openFacts_120 rfl ?_
                rw [if_neg (by omega)] at hT1
                refine st_if_eq (tgt := 129) dX7_openFacts_121 (by omega) rfl (fun c7 => ?_) (fun c7 => ?_)
                · skip
                  omega
                · refine st_bipush dX7_openFacts_124 (by decide) ?_
                  refine st_goto (tgt := 131) dX7_openFacts_126 rfl ?_
                  refine c_V1v (d' := d - 1) dX7_openFacts_131 l_X7_128 k_X7_hold i_X7_hold (Or.inl ⟨_, _, _, _, _, (by first | with_reducible assumption | rfl), by rfl⟩) (by omega) (Nat.le_of_ble_eq_true rfl) (C_hold (by omega) (by rw [w4]; omega)) (fun M5 N5 hx => ?_)
                  obtain ⟨rfl, hM5⟩ := hx
                  refine st_iinc (L' := [_, _, _, _]) dX7_openFacts_134 rfl (by decide) rfl rfl ?_
                  refine st_goto (tgt := 2) dX7_openFacts_137 rfl ?_
                  exact nx (24 :: K) (q + 1) M5 _ _ (by rw [dK_c, if_pos (by omega)]; omega) (by omega) (by omega) (hI2.bra c3 (by omega)) (by rw [hM5]; exact T4.hold) (by rw [hM5]; exact S3.open1 ho (by omega) (Or.inr ⟨rfl, rfl⟩)) (by rw [hM5]; exact V4.hold (by omega)) (f4.tr (by rw [hM5]; exact SF.hold ho)) hT1
              · refine st_aload_n dX7_openFacts_110 rfl ?_
                refine st_getfr dX7_openFacts_111 f_X7_15 (by first | with_reducible assumption | rfl) (by rfl) ?_
                refine st_iload_n dX7_openFacts_114 rfl ?_
                refine st_iconst dX7_openFacts_115 ?_
                rw [if_pos (by omega)] at hT1
                refine c_V2v (d' := d - 1) dX7_openFacts_116 l_X7_69 k_X8_fail i_X8_fail (Or.inl ⟨_, _, _, _, _, (by first | with_reducible assumption | rfl), by rfl⟩) (by omega) (Nat.le_of_ble_eq_true rfl) (C_failT (k := 2) T4 (by omega) (by omega)) (fun M4 N4 hx => ?_)
                obtain ⟨rfl, k1, k2⟩ := hx
                refine st_aload_n dX7_openFacts_119 rfl ?_
                refine st_iload_n dX7_openFacts_120 rfl ?_
                refine st_if_eq (tgt := 129) dX7_openFacts_121 (by omega) rfl (fun c7 => ?_) (fun c7 => ?_)
                · skip
                  omega
                · refine st_bipush dX7_openFacts_124 (by decide) ?_
                  refine st_goto (tgt := 131) dX7_openFacts_126 rfl ?_
                  have hbk := bK_le K
                  have E4 : SE o 500 M4 := by
                    have : SE o 500 (q_up (q_up M3 84 5 ((bK K : Int) + 1)) 84 4 ((dK K : Int) + 1)) := by
                      unfold isRu at ho
                      obtain ⟨⟨b1, b2, b3, b4, b5⟩, b6, b7⟩ := S3
                      unfold SE
                      rw [show q_up (q_up M3 84 5 ((bK K : Int) + 1)) 84 4 ((dK K : Int) + 1) o 1 = (E.length : Int) by rw [q_up_ne (by omega), q_up_ne (by omega)]; exact b6]
                      have := hI.2.2.2.1
                      simp [q_up, b1, b3]
                      omega
                    exact this.exc1 ho k1
                  refine c_V1v (d' := d - 1) dX7_openFacts_131 l_X7_128 k_X7_hold i_X7_hold (Or.inl ⟨_, _, _, _, _, (by first | with_reducible assumption | rfl), by rfl⟩) (by omega) (Nat.le_of_ble_eq_true rfl) (C_hold (by omega) (by have := E4.1; omega)) (fun M5 N5 hx => ?_)
                  obtain ⟨rfl, hM5⟩ := hx
                  refine st_iinc (L' := [_, _, _, _]) dX7_openFacts_134 rfl (by decide) rfl rfl ?_
                  refine st_goto (tgt := 2) dX7_openFacts_137 rfl ?_
                  exact out M5 _ _ _ (by rw [hM5]; exact k2.hold) (by rw [hM5]; exact (E4.hold ho).mono (by omega)) (by rw [hM5]; exact (V4.exc k1 (by simp)).hold (by omega)) ((f4.tr (k1.sf ho (by simp))).tr (by rw [hM5]; exact SF.hold ho)) (by rw [hT1]; congr 1)
  refine AC.of (L0 := [_, none, none, none]) pn_X7 (Nat.le_of_ble_eq_true rfl) rfl ?_
  refine st_iconst dX7_openFacts_0 ?_
  refine st_istore_n (L' := [_, _, _, _]) dX7_openFacts_1 (by decide) rfl rfl ?_
  exact AW.to (loop m 0 p K M (by omega) hm hT h hV SF.rf hI)


/-! the system reads a rule: parts counted, sums -/
theorem wsR_jn : chL 2 = jnW wsR := by decide +kernel
theorem wsR_32 : wsR.all (fun w => w.all (fun c => decide (¬ c = 32))) = true := by decide +kernel
theorem TE.up {M : q_Mem} {n : Nat} {F q : Int} (h : TE M n F) (hq : 0 ≤ q ∧ q ≤ 400) : TE (q_up M 1 2 q) n F := by
  obtain ⟨a, b, c, e, f⟩ := h
  exact ⟨by simp [q_up, a], b, by simp [q_up]; omega, by simp [q_up, e], f⟩
theorem C_peekE {G : q_G} {d : Nat} {M : q_Mem} {N : q_MemL} {n : Nat} {F : Int} (hd : 1 ≤ d) (h : TE M n F) : AC0 G d m_X8_peek [.ref 1] M N (CV (fun x M' N' => N' = N ∧ ∃ q : Nat, x = I (bytA (M 2) n (q : Int)) ∧ M' = q_up M 1 2 (q : Int) ∧ TE M' n F)) := by
  have h0 := h
  obtain ⟨a, b, c, e, f⟩ := h
  obtain ⟨p, hp⟩ : ∃ p : Nat, M 1 2 = (p : Int) := ⟨(M 1 2).toNat, by omega⟩
  have hs := skip_le (M 2) n p
  refine AC.mono (fun v S' M' N' hq => ?_) (C_peek hd a b hp (by omega))
  obtain ⟨hS, x, hv, hN, hx, hM⟩ := hq
  refine ⟨hS, x, hv, hN, skip (M 2) n p, hx, hM, ?_⟩
  rw [hM]
  refine h0.up ⟨by omega, ?_⟩
  by_cases hpn : p ≤ n
  · have := hs.2.1 hpn
    omega
  · rw [hs.2.2 (by omega)]
    omega
theorem C_failE {G : q_G} {d : Nat} {M : q_Mem} {N : q_MemL} {n : Nat} {F a k : Int} (h : TE M n F) : AC0 G d m_X8_fail [.ref 1, I a, I k] M N (CN (fun M' N' => N' = N ∧ M' = M)) := by
  obtain ⟨h1, b, c, e, f, g1, g2⟩ := h
  refine AC.mono (fun v S' M' N' hq => ?_) (C_fail (G := G) (d := d) (N := N) (a := a) (k := k) (M := M) (by rw [e]; unfold i32; omega))
  obtain ⟨hS, hv, hN, hM⟩ := hq
  refine ⟨hS, hv, hN, ?_⟩
  rw [hM, e, flt, if_neg f]
  exact q_up_id e.symm
theorem SR.cnt {o c : Nat} {W E : List Int} {M : q_Mem} (ho : isRu o) (h : SR o c W E M) : SR o (c + 1) W E (q_up M 84 3 ((c + 1 : Nat) : Int)) := by
  unfold isRu at ho
  obtain ⟨⟨a1, a2, a3, a4, a5⟩, a6, a7⟩ := h
  refine ⟨⟨?_, ?_, ?_, ?_, ?_⟩, ?_, ?_⟩
  · simp [q_up, a1]
  · rw [q_up_ne (by omega)]
    exact a2
  · simp [q_up]
  · simp [q_up, a4]
  · simp [q_up, a5]
  · rw [q_up_ne (by omega)]
    exact a6
  · rw [q_up_ne (by omega)]
    exact a7
theorem SE.cnt {o : Nat} {k : Int} {M : q_Mem} (ho : isRu o) (h : SE o k M) : SE o (k + 1) (q_up M 84 3 (M 84 3 + 1)) := by
  unfold isRu at ho
  obtain ⟨⟨a1, a2⟩, ⟨b1, b2⟩, ⟨c1, c2⟩, ⟨d1, d2⟩, e1, e2⟩ := h
  unfold SE
  rw [show q_up M 84 3 (M 84 3 + 1) o 1 = M o 1 by rw [q_up_ne (by omega)]]
  simp [q_up]
  omega
theorem VW.up {M : q_Mem} {a i : Nat} {z : Int} (h : VW M) (ha : ¬ a = 85) : VW (q_up M a i z) := by
  unfold VW at *
  rw [q_up_ne (fun e => ha e.symm)]
  exact h
theorem TP.ne {M : q_Mem} {n p a i : Nat} {z : Int} (h : TP M n p) (ha : ¬ a = 1) : TP (q_up M a i z) n p := h.exc (Exc.up (L := [a]) (by simp)) (by simp; omega)
theorem TE.ne {M : q_Mem} {n a i : Nat} {z F : Int} (h : TE M n F) (ha : ¬ a = 1) : TE (q_up M a i z) n F := h.exc (Exc.up (L := [a]) (by simp)) (by simp; omega)
theorem C_countP {G : q_G} {d : Nat} {M : q_Mem} {N : q_MemL} {o c q : Nat} {W E : List Int} (hS : SR o c W E M) (hq : q ≤ 400) (hc : c < 60) : AC0 G d m_X7_countPart [.ref 84, I q] M N (CN (fun M1 N1 => N1 = N ∧ M1 = q_up M 84 3 ((c + 1 : Nat) : Int))) := by
  have h3 := hS.1.2.2.1
  refine AC.of (L0 := [_, _]) pn_X7 (Nat.le_of_ble_eq_true rfl) rfl ?_
  refine st_aload_n dX7_countPart_0 rfl ?_
  refine st_dup dX7_countPart_1 rfl ?_
  refine st_getfi dX7_countPart_2 f_X7_36 (by first | with_reducible assumption | rfl) (by rfl) ?_
  rw [h3]
  refine st_iconst dX7_countPart_5 ?_
  refine st_iadd dX7_countPart_6 ?_
  refine st_putfi dX7_countPart_7 w_X7_36 (by first | with_reducible assumption | rfl) (by rfl) rfl rfl ?_
  refine st_aload_n dX7_countPart_10 rfl ?_
  refine st_getfi dX7_countPart_11 f_X7_36 (by first | with_reducible assumption | rfl) (by rfl) ?_
  rw [show q_up M 84 3 ((c : Int) + 1) 84 3 = ((c + 1 : Nat) : Int) by simp [q_up]]
  refine st_bipush dX7_countPart_14 (by decide) ?_
  refine st_icmp_le (tgt := 28) dX7_countPart_16 (by omega) (by omega) rfl (fun c1 => ?_) (fun c1 => ?_)
  · skip
    refine r_v dX7_countPart_28 rfl ⟨rfl, by rw [show ((c + 1 : Nat) : Int) = (c : Int) + 1 by omega]⟩
  · skip
    omega
theorem TE.of {M : q_Mem} {n p : Nat} {F : Int} (h : TP M n p) (hF : 0 < F ∧ F ≤ 3300) : TE (q_up M 1 3 F) n F := by
  obtain ⟨a, b, c, d, e⟩ := h
  exact ⟨by simp [q_up, a], b, by simp [q_up]; omega, by simp [q_up], by omega, by omega, hF.2⟩
theorem C_countF {G : q_G} {d : Nat} {M : q_Mem} {N : q_MemL} {o n p q : Nat} {W E : List Int} (hd : 1 ≤ d) (hT : TP M n p) (hS : SR o 60 W E M) (hq : q ≤ 400) : AC0 G d m_X7_countPart [.ref 84, I q] M N (CN (fun M1 N1 => N1 = N ∧ M1 = q_up (q_up M 84 3 61) 1 3 (1 + 8 * (q : Int) + 3) ∧ Exc [1] (q_up M 84 3 61) M1 ∧ TE M1 n (1 + 8 * (q : Int) + 3))) := by
  have h3 : M 84 3 = 60 := hS.1.2.2.1
  have e0 : q_up M 84 3 61 1 3 = 0 := by rw [q_up_ne (by decide)]; exact hT.2.2.2.2
  refine AC.of (L0 := [_, _]) pn_X7 (Nat.le_of_ble_eq_true rfl) rfl ?_
  refine st_aload_n dX7_countPart_0 rfl ?_
  refine st_dup dX7_countPart_1 rfl ?_
  refine st_getfi dX7_countPart_2 f_X7_36 (by first | with_reducible assumption | rfl) (by rfl) ?_
  rw [h3]
  refine st_iconst dX7_countPart_5 ?_
  refine st_iadd dX7_countPart_6 ?_
  refine st_putfi dX7_countPart_7 w_X7_36 (by first | with_reducible assumption | rfl) (by rfl) rfl rfl ?_
  refine st_aload_n dX7_countPart_10 rfl ?_
  refine st_getfi dX7_countPart_11 f_X7_36 (by first | with_reducible assumption | rfl) (by rfl) ?_
  rw [show q_up M 84 3 ((60 : Int) + 1) 84 3 = 61 by simp [q_up]]
  refine st_bipush dX7_countPart_14 (by decide) ?_
  refine st_icmp_le (tgt := 28) dX7_countPart_16 (by omega) (by omega) rfl (fun c1 => ?_) (fun c1 => ?_)
  · skip
    omega
  · refine st_aload_n dX7_countPart_19 rfl ?_
    refine st_getfr dX7_countPart_20 f_X7_15 (by first | with_reducible assumption | rfl) (by rfl) ?_
    refine st_iload_n dX7_countPart_23 rfl ?_
    refine st_iconst dX7_countPart_24 ?_
    refine c_V2v (d' := d - 1) dX7_countPart_25 l_X7_69 k_X8_fail i_X8_fail (Or.inl ⟨_, _, _, _, _, (by first | with_reducible assumption | rfl), by rfl⟩) (by omega) (Nat.le_of_ble_eq_true rfl) (C_fail (by rw [show (60 : Int) + 1 = 61 by decide, e0]; unfold i32; omega)) (fun M1 N1 hx => ?_)
    obtain ⟨rfl, hM⟩ := hx
    rw [show (60 : Int) + 1 = 61 by decide, e0, flt, if_pos rfl] at hM
    refine r_v dX7_countPart_28 rfl ⟨rfl, hM, by rw [hM]; exact Exc.up (by simp), by rw [hM]; exact TE.of (hT.ne (by decide)) (by omega)⟩
theorem C_countE {G : q_G} {d : Nat} {M : q_Mem} {N : q_MemL} {o n q : Nat} {k F : Int} (hd : 1 ≤ d) (hT : TE M n F) (hS : SE o k M) (hk : k ≤ 50000) (hq : q ≤ 400) : AC0 G d m_X7_countPart [.ref 84, I q] M N (CN (fun M1 N1 => N1 = N ∧ M1 = q_up M 84 3 (M 84 3 + 1))) := by
  have h3 := hS.2.1
  refine AC.of (L0 := [_, _]) pn_X7 (Nat.le_of_ble_eq_true rfl) rfl ?_
  refine st_aload_n dX7_countPart_0 rfl ?_
  refine st_dup dX7_countPart_1 rfl ?_
  refine st_getfi dX7_countPart_2 f_X7_36 (by first | with_reducible assumption | rfl) (by rfl) ?_
  refine st_iconst dX7_countPart_5 ?_
  refine st_iadd dX7_countPart_6 ?_
  refine st_putfi dX7_countPart_7 w_X7_36 (by first | with_reducible assumption | rfl) (by rfl) rfl rfl ?_
  refine st_aload_n dX7_countPart_10 rfl ?_
  refine st_getfi dX7_countPart_11 f_X7_36 (by first | with_reducible assumption | rfl) (by rfl) ?_
  rw [show q_up M 84 3 (M 84 3 + 1) 84 3 = M 84 3 + 1 by simp [q_up]]
  refine st_bipush dX7_countPart_14 (by decide) ?_
  refine st_icmp_le (tgt := 28) dX7_countPart_16 (by omega) (by omega) rfl (fun c1 => ?_) (fun c1 => ?_)
  · skip
    refine r_v dX7_countPart_28 rfl ⟨rfl, rfl⟩
  · refine st_aload_n dX7_countPart_19 rfl ?_
    refine st_getfr dX7_countPart_20 f_X7_15 (by first | with_reducible assumption | rfl) (by rfl) ?_
    refine st_iload_n dX7_countPart_23 rfl ?_
    refine st_iconst dX7_countPart_24 ?_
    refine c_V2v (d' := d - 1) dX7_countPart_25 l_X7_69 k_X8_fail i_X8_fail (Or.inl ⟨_, _, _, _, _, (by first | with_reducible assumption | rfl), by rfl⟩) (by omega) (Nat.le_of_ble_eq_true rfl) (C_failE (hT.ne (by decide))) (fun M1 N1 hx => ?_)
    obtain ⟨rfl, rfl⟩ := hx
    refine r_v dX7_countPart_28 rfl ⟨rfl, rfl⟩
/-- one operator held -/
theorem SR.hold {o c : Nat} {W E : List Int} {M : q_Mem} {x : Int} (ho : isRu o) (h : SR o c W E M) (hW : W.length < 64) (hx : ¬ x = 21 ∧ ¬ x = 24) : SR o c (x :: W) E (q_up (if M 84 2 < 64 then q_up M 85 (M 84 2).toNat x else M) 84 2 (M 84 2 + 1)) := by
  unfold isRu at ho
  obtain ⟨⟨a1, a2, a3, a4, a5⟩, a6, a7⟩ := h
  rw [a1, if_pos (by omega), Int.toNat_natCast]
  refine ⟨⟨?_, ?_, ?_, ?_, ?_⟩, ?_, ?_⟩
  · simp [q_up]
  · rw [q_up_ne (by decide), q_upR]
    exact a2.push
  · simp [q_up, a3]
  · rw [dK_c, if_neg (by omega)]
    simp [q_up, a4]
  · rw [bK_c, if_neg (by omega)]
    simp [q_up, a5]
  · rw [q_up_ne (by omega), q_up_ne (by omega)]
    exact a6
  · rw [q_up_ne (by omega), q_up_ne (by omega)]
    exact a7
theorem TP.hold {M : q_Mem} {n p : Nat} {x z : Int} (h : TP M n p) {a : Nat} : TP (q_up (if M 84 2 < 64 then q_up M 85 a x else M) 84 2 z) n p := by
  split
  · exact (h.ne (by decide)).ne (by decide)
  · exact h.ne (by decide)
theorem TE.hold {M : q_Mem} {n : Nat} {x z F : Int} (h : TE M n F) {a : Nat} : TE (q_up (if M 84 2 < 64 then q_up M 85 a x else M) 84 2 z) n F := by
  split
  · exact (h.ne (by decide)).ne (by decide)
  · exact h.ne (by decide)
theorem TP.emit {M : q_Mem} {n p o : Nat} {x z : Int} (ho : isRu o) (h : TP M n p) {a : Nat} : TP (q_up (if M o 1 < 400 then q_up M (o + 1) a x else M) o 1 z) n p := by
  unfold isRu at ho
  split
  · exact (h.ne (by omega)).ne (by omega)
  · exact h.ne (by omega)
theorem TE.emit {M : q_Mem} {n o : Nat} {x z F : Int} (ho : isRu o) (h : TE M n F) {a : Nat} : TE (q_up (if M o 1 < 400 then q_up M (o + 1) a x else M) o 1 z) n F := by
  unfold isRu at ho
  split
  · exact (h.ne (by omega)).ne (by omega)
  · exact h.ne (by omega)
theorem TP.exc7 {o n p : Nat} {M M1 : q_Mem} (ho : isRu o) (h : TP M n p) (hE : Exc [84, o, o + 1] M M1) : TP M1 n p := by
  unfold isRu at ho
  exact h.exc hE (by simp; omega)
theorem TE.exc7 {o n : Nat} {F : Int} {M M1 : q_Mem} (ho : isRu o) (h : TE M n F) (hE : Exc [84, o, o + 1] M M1) : TE M1 n F := by
  unfold isRu at ho
  exact h.exc hE (by simp; omega)
theorem SF.row2 {o : Nat} {M M1 : q_Mem} (ho : isRu o) (h : SF o M M1) : M1 2 = M 2 := by
  unfold isRu at ho
  exact h.1 2 (by simp; omega)
/-- how the reading of a part ends -/
def smQ (o n : Nat) (K : List Int) (M : q_Mem) (r : PS) (M1 : q_Mem) : Prop := (VW M1 ∧ SF o M M1) ∧ ((∃ p1 c1 E1, r = .ok (p1, c1, E1) ∧ TP M1 n p1 ∧ SR o c1 K E1 M1) ∨ ∃ F, r = .error F ∧ TE M1 n F ∧ SE o 1000 M1)
theorem rd_at {M : q_Mem} {n q : Nat} {lo hi : Int} (h : TP M n q) (hs : skip (M 2) n q = q) : rd M n lo hi = if numF (M 2) n q lo hi = 0 then .ok (numV (M 2) n q, q_up M 1 2 ((q + numK (M 2) n q : Nat) : Int)) else .error (numF (M 2) n q lo hi) := by
  unfold rd
  rw [show (M 1 2).toNat = q by have := h.2.2.1; omega, hs]
theorem C_readSum {G : q_G} {d : Nat} {M : q_Mem} {N : q_MemL} {o n p c : Nat} {K E : List Int} (hd : 6 ≤ d) (ho : isRu o) (hT : TP M n p) (h : SR o c K E M) (hV : VW M) (hc : c ≤ 60) (hK : ∀ y, K.head? = some y → lvl y < 5) (hK2 : ∀ x, x ∈ K → 11 ≤ x ∧ x ≤ 24) (hKl : K.length ≤ 40) (hE : E.length + 2 * (60 - c) ≤ 300) : AC0 G d m_X7_readSum [.ref 84, .ref o] M N (CN (fun M1 N1 => N1 = N ∧ smQ o n K M (sumP (M 2) n p c E) M1)) := by
  have hn4 := hT.2.1
  -- in a fault
  have o166 : ∀ (M1 : q_Mem) (F : Int) (x2 x3 x4 x5 x6 : Option Value), TE M1 n F → SE o 900 M1 → VW M1 → SF o M M1 → AW0 G d m_X7_readSum 166 [some (.ref 84), some (.ref o), x2, x3, x4, x5, x6] [] M1 N (CN (fun M2 N1 => N1 = N ∧ (VW M2 ∧ SF o M M2) ∧ TE M2 n F ∧ SE o 1000 M2)) := by
    intro M1 F x2 x3 x4 x5 x6 t1 t2 t3 t4
    refine st_aload_n dX7_readSum_166 rfl ?_
    refine st_aload_n dX7_readSum_167 rfl ?_
    refine st_bipush dX7_readSum_168 (by decide) ?_
    refine c_S1p (d' := d - 1) dX7_readSum_170 l_X7_122 k_X7_level s_X7_level (by omega) (Nat.le_of_ble_eq_true rfl) (C_level (by unfold i32; omega)) ?_
    rw [lvl_a (x := 11) (by omega)]
    refine c_V2v (d' := d - 1) dX7_readSum_173 l_X7_125 k_X7_settle i_X7_settle (Or.inl ⟨_, _, _, _, _, (by first | with_reducible assumption | rfl), by rfl⟩) (by omega) (Nat.le_of_ble_eq_true rfl) (C_settleE (by omega) ho t2 (by omega) t3 (by omega)) (fun M2 N2 hx => ?_)
    obtain ⟨rfl, k1, k2, k3, k4⟩ := hx
    refine r_v dX7_readSum_176 rfl ⟨rfl, ⟨k2, t4.tr k1⟩, t1.exc7 ho k3, k4.mono (by omega)⟩
  have out : ∀ (i : Nat) (M1 : q_Mem) (F : Int) (x3 x4 x5 x6 : Option Value), i ≤ 500 → TE M1 n F → SE o 900 M1 → VW M1 → SF o M M1 → AW0 G d m_X7_readSum 2 [some (.ref 84), some (.ref o), some (I i), x3, x4, x5, x6] [] M1 N (CN (fun M2 N1 => N1 = N ∧ (VW M2 ∧ SF o M M2) ∧ TE M2 n F ∧ SE o 1000 M2)) := by
    intro i M1 F x3 x4 x5 x6 hi t1 t2 t3 t4
    refine st_iload_n dX7_readSum_2 rfl ?_
    refine st_sipush dX7_readSum_3 (by decide) ?_
    refine st_icmp_ge (tgt := 166) dX7_readSum_6 (by omega) (by omega) rfl (fun c1 => ?_) (fun c1 => ?_)
    · skip
      exact o166 M1 F _ _ _ _ _ t1 t2 t3 t4
    · refine st_aload_n dX7_readSum_9 rfl ?_
      refine st_getfr dX7_readSum_10 f_X7_15 (by first | with_reducible assumption | rfl) (by rfl) ?_
      refine c_V0p (d' := d - 1) dX7_readSum_13 l_X7_89 k_X8_failed i_X8_failed (Or.inl ⟨_, _, _, _, _, (by first | with_reducible assumption | rfl), by rfl⟩) (by omega) (Nat.le_of_ble_eq_true rfl) (C_failed (by rw [t1.2.2.2.1]; unfold i32; have := t1.2.2.2.2; omega)) ?_
      refine b_ne (tgt := 166) dX7_readSum_16 rfl (fun c2 => ?_) (fun c2 => ?_)
      · skip
        exact o166 M1 F _ _ _ _ _ t1 t2 t3 t4
      · skip
        exact absurd (by rw [t1.2.2.2.1]; exact t1.2.2.2.2.1) c2
  have e110 : ∀ (i q : Nat) (M1 : q_Mem) (F w5 : Int) (x3 x6 : Option Value), i ≤ 400 → TE M1 n F → SE o 800 M1 → VW M1 → SF o M M1 → AW0 G d m_X7_readSum 110 [some (.ref 84), some (.ref o), some (I i), x3, some (I q), some (I w5), x6] [] M1 N (CN (fun M2 N1 => N1 = N ∧ (VW M2 ∧ SF o M M2) ∧ TE M2 n F ∧ SE o 1000 M2)) := by
    intro i q M1 F w5 x3 x6 hi t1 t2 t3 t4
    refine st_aload_n dX7_readSum_110 rfl ?_
    refine st_getfr dX7_readSum_111 f_X7_15 (by first | with_reducible assumption | rfl) (by rfl) ?_
    refine c_V0i (d' := d - 1) dX7_readSum_114 l_X7_56 k_X8_peek i_X8_peek (Or.inl ⟨_, _, _, _, _, (by first | with_reducible assumption | rfl), by rfl⟩) (by omega) (Nat.le_of_ble_eq_true rfl) (C_peekE (by omega) t1) (fun x M2 N2 hx => ?_)
    obtain ⟨rfl, b, rfl, hM2, t5⟩ := hx
    have hb := bytA_rng (M1 2) n (b : Int)
    have hoc := opc_cs (bytA (M1 2) n (b : Int))
    have hob := opc_byte (f := M1 2) (n := n) (p := b)
    have s2 : SF o M1 M2 := by rw [hM2]; exact SF.up ho (by omega)
    have v2 : VW M2 := by rw [hM2]; exact t3.up (by decide)
    have E2 : SE o 800 M2 := t2.exc1 ho (by rw [hM2]; exact Exc.up (by simp))
    have b2 : M2 1 2 = (b : Int) := by rw [hM2]; simp [q_up]
    refine c_S1p (d' := d - 1) dX7_readSum_117 l_X7_118 k_X7_operatorOf s_X7_operatorOf (by omega) (Nat.le_of_ble_eq_true rfl) (C_operatorOf hb) ?_
    generalize opc (bytA (M1 2) n (b : Int)) = op at *
    refine st_istore (L' := [_, _, _, _, _, _, _]) dX7_readSum_120 (by decide) rfl rfl ?_
    refine st_iload dX7_readSum_122 rfl ?_
    refine st_iconst dX7_readSum_124 ?_
    refine st_icmp_ne (tgt := 131) dX7_readSum_125 (by omega) (by omega) rfl (fun c1 => ?_) (fun c1 => ?_)
    · skip
      have hbn := hob (by omega)
      refine st_aload_n dX7_readSum_131 rfl ?_
      refine st_getfr dX7_readSum_132 f_X7_15 (by first | with_reducible assumption | rfl) (by rfl) ?_
      refine st_dup dX7_readSum_135 rfl ?_
      refine st_getfi dX7_readSum_136 f_X7_60 (by first | with_reducible assumption | rfl) (by rfl) ?_
      rw [b2]
      refine st_iconst dX7_readSum_139 ?_
      refine st_iadd dX7_readSum_140 ?_
      refine st_putfi dX7_readSum_141 w_X7_60 (by first | with_reducible assumption | rfl) (by rfl) rfl rfl ?_
      refine st_aload_n dX7_readSum_144 rfl ?_
      refine st_aload_n dX7_readSum_145 rfl ?_
      refine st_iload dX7_readSum_146 rfl ?_
      have t6 : TE (q_up M2 1 2 ((b : Int) + 1)) n F := t5.up (by omega)
      have s6 : SF o M2 (q_up M2 1 2 ((b : Int) + 1)) := SF.up ho (by omega)
      have v6 : VW (q_up M2 1 2 ((b : Int) + 1)) := v2.up (by decide)
      have E6 : SE o 800 (q_up M2 1 2 ((b : Int) + 1)) := E2.exc1 ho (Exc.up (by simp))
      have hlr := lvl_rng op
      refine c_S1p (d' := d - 1) dX7_readSum_148 l_X7_122 k_X7_level s_X7_level (by omega) (Nat.le_of_ble_eq_true rfl) (C_level (by unfold i32; omega)) ?_
      refine c_V2v (d' := d - 1) dX7_readSum_151 l_X7_125 k_X7_settle i_X7_settle (Or.inl ⟨_, _, _, _, _, (by first | with_reducible assumption | rfl), by rfl⟩) (by omega) (Nat.le_of_ble_eq_true rfl) (C_settleE (by omega) ho E6 (by omega) v6 (by omega)) (fun M3 N3 hx => ?_)
      obtain ⟨rfl, k1, k2, k3, k4⟩ := hx
      refine st_aload_n dX7_readSum_154 rfl ?_
      refine st_iload dX7_readSum_155 rfl ?_
      refine c_V1v (d' := d - 1) dX7_readSum_157 l_X7_128 k_X7_hold i_X7_hold (Or.inl ⟨_, _, _, _, _, (by first | with_reducible assumption | rfl), by rfl⟩) (by omega) (Nat.le_of_ble_eq_true rfl) (C_hold (by omega) (by have := k4.1; omega)) (fun M4 N4 hx => ?_)
      obtain ⟨rfl, hM4⟩ := hx
      refine st_iinc (L' := [_, _, _, _, _, _, _]) dX7_readSum_160 rfl (by decide) rfl rfl ?_
      refine st_goto (tgt := 2) dX7_readSum_163 rfl ?_
      have ih := out (i + 1) M4 F x3 (some (I q)) (some (I w5)) (some (I op)) (by omega) (by rw [hM4]; exact (t6.exc7 ho k3).hold) (by rw [hM4]; exact (k4.hold ho).mono (by omega)) (by rw [hM4]; exact k2.hold (by omega)) (((t4.tr s2).tr (s6.tr k1)).tr (by rw [hM4]; exact SF.hold ho))
      exact AW.to ih (h2 := by simp)
    · refine st_goto (tgt := 166) dX7_readSum_128 rfl ?_
      exact o166 M2 F _ _ _ _ _ t5 (E2.mono (by omega)) v2 (t4.tr s2)
  have e104 : ∀ (i q : Nat) (M1 : q_Mem) (F w5 : Int) (x3 x6 : Option Value), i ≤ 400 → q ≤ 400 → TE M1 n F → SE o 700 M1 → VW M1 → SF o M M1 → AW0 G d m_X7_readSum 104 [some (.ref 84), some (.ref o), some (I i), x3, some (I q), some (I w5), x6] [] M1 N (CN (fun M2 N1 => N1 = N ∧ (VW M2 ∧ SF o M M2) ∧ TE M2 n F ∧ SE o 1000 M2)) := by
    intro i q M1 F w5 x3 x6 hi hq t1 t2 t3 t4
    refine st_aload_n dX7_readSum_104 rfl ?_
    refine st_iload dX7_readSum_105 rfl ?_
    refine c_V1v (d' := d - 1) dX7_readSum_107 l_X7_114 k_X7_countPart i_X7_countPart (Or.inl ⟨_, _, _, _, _, (by first | with_reducible assumption | rfl), by rfl⟩) (by omega) (Nat.le_of_ble_eq_true rfl) (C_countE (by omega) t1 t2 (by omega) hq) (fun M2 N2 hx => ?_)
    obtain ⟨rfl, hM2⟩ := hx
    refine e110 i q M2 F w5 x3 x6 hi (by rw [hM2]; exact t1.ne (by decide)) ?_ (by rw [hM2]; exact t3.up (by decide)) (t4.tr (by rw [hM2]; exact SF.up ho (by omega)))
    rw [hM2]
    exact (t2.cnt ho).mono (by omega)
  have toQ : ∀ {L : List (Option Value)} {pc : Nat} {M1 : q_Mem} {r : PS} {F : Int}, r = .error F → AW0 G d m_X7_readSum pc L [] M1 N (CN (fun M2 N1 => N1 = N ∧ (VW M2 ∧ SF o M M2) ∧ TE M2 n F ∧ SE o 1000 M2)) → AW0 G d m_X7_readSum pc L [] M1 N (CN (fun M2 N1 => N1 = N ∧ smQ o n K M r M2)) := by
    intro L pc M1 r F hr hA
    refine AW.mono (fun v S' M' N' hx => ?_) hA
    obtain ⟨hS, hv, hN, h1, h2, h3⟩ := hx
    exact ⟨hS, hv, hN, h1, Or.inr ⟨F, hr, h2, h3⟩⟩
  have loop : ∀ (m i p c : Nat) (mu ad E : List Int) (M1 : q_Mem), 2 * i ≤ p → n - p < m → TP M1 n p → SR o c (mu ++ ad ++ K) E M1 → VW M1 → SF o M M1 → c ≤ 60 → muOk mu → adOk ad → E.length + (mu.length + ad.length) + 2 * (60 - c) ≤ 300 → AW0 G d m_X7_readSum 2 [some (.ref 84), some (.ref o), some (I i), none, none, none, none] [] M1 N (CN (fun M2 N1 => N1 = N ∧ smQ o n K M (rsP (M 2) n m p c (mu ++ ad) E) M2)) := by
    intro m
    induction m with
    | zero =>
      intro i p c mu ad E M1 hi hm
      omega
    | succ m ih =>
      intro i p c mu ad E M1 hi hm hT h hV hf hc hmu had hE
      have e2 := hf.row2 ho
      have hpn := hT.2.2.2.1
      have hml : mu.length ≤ 1 := by rcases hmu with rfl | ⟨x, rfl, -⟩ <;> simp
      have hal : ad.length ≤ 1 := by rcases had with rfl | ⟨x, rfl, -⟩ <;> simp
      have hWl : (mu ++ ad ++ K).length = mu.length + ad.length + K.length := by simp; omega
      have hWc : ∀ x, x ∈ mu ++ ad ++ K → 11 ≤ x ∧ x ≤ 24 := by
        intro x hx
        rcases List.mem_append.1 hx with hx | hx
        · rcases List.mem_append.1 hx with hx | hx
          · rcases hmu with rfl | ⟨y, rfl, hy⟩
            · simp at hx
            · simp at hx
              omega
          · rcases had with rfl | ⟨y, rfl, hy⟩
            · simp at hx
            · simp at hx
              omega
        · exact hK2 x hx
      have hs := skip_le (M 2) n p
      have hss := skip_skip (M 2) n p
      rw [rsP_s]
      have hval : valP (M 2) n p c E = valP (M 2) n (skip (M 2) n p) c E := by unfold valP; rw [hss]
      rw [hval]
      have hqn := hs.2.1 hpn
      have hpq := hs.1
      refine st_iload_n dX7_readSum_2 rfl ?_
      refine st_sipush dX7_readSum_3 (by decide) ?_
      refine st_icmp_ge (tgt := 166) dX7_readSum_6 (by omega) (by omega) rfl (fun c1 => ?_) (fun c1 => ?_)
      · skip
        omega
      · refine st_aload_n dX7_readSum_9 rfl ?_
        refine st_getfr dX7_readSum_10 f_X7_15 (by first | with_reducible assumption | rfl) (by rfl) ?_
        refine c_V0p (d' := d - 1) dX7_readSum_13 l_X7_89 k_X8_failed i_X8_failed (Or.inl ⟨_, _, _, _, _, (by first | with_reducible assumption | rfl), by rfl⟩) (by omega) (Nat.le_of_ble_eq_true rfl) (C_failed (by rw [hT.2.2.2.2]; unfold i32; omega)) ?_
        refine b_ne (tgt := 166) dX7_readSum_16 rfl (fun c2 => ?_) (fun c2 => ?_)
        · skip
          exact absurd hT.2.2.2.2 c2
        · refine st_aload_n dX7_readSum_19 rfl ?_
          refine st_getfr dX7_readSum_20 f_X7_15 (by first | with_reducible assumption | rfl) (by rfl) ?_
          refine c_V0i (d' := d - 1) dX7_readSum_23 l_X7_100 k_X8_digitIsNext i_X8_digitIsNext (Or.inl ⟨_, _, _, _, _, (by first | with_reducible assumption | rfl), by rfl⟩) (by omega) (Nat.le_of_ble_eq_true rfl) (C_digitIsNext (by omega) hT.1 hT.2.1 hT.2.2.1 (by omega)) (fun x M2 N2 hx => ?_)
          obtain ⟨rfl, rfl, hM2⟩ := hx
          rw [e2] at hM2
          rw [e2]
          have T2 : TP M2 n (skip (M 2) n p) := by rw [hM2]; exact hT.up hqn
          have x2 : Exc [1] M1 M2 := by rw [hM2]; exact Exc.up (by simp)
          generalize skip (M 2) n p = q at *
          have S2 : SR o c (mu ++ ad ++ K) E M2 := h.exc1 ho x2
          have V2 : VW M2 := hV.exc x2 (by simp)
          have f2 : SF o M M2 := hf.tr (x2.sf ho (by simp))
          have r2 : M2 2 = M 2 := f2.row2 ho
          -- behind the value
          have at104 : ∀ (p1 : Nat) (x : Int) (M4 : q_Mem) (w5 : Int) (x3 : Option Value), TP M4 n p1 → SR o c (mu ++ ad ++ K) (E ++ [x]) M4 → VW M4 → SF o M M4 → q < p1 → valP (M 2) n q c E = (if c = 60 then .error (1 + 8 * (q : Int) + 3) else .ok (p1, c + 1, E ++ [x])) → AW0 G d m_X7_readSum 104 [some (.ref 84), some (.ref o), some (I i), x3, some (I q), some (I w5), none] [] M4 N2 (CN (fun M2 N1 => N1 = N2 ∧ smQ o n K M (match valP (M 2) n q c E with
              | .error F => .error F
              | .ok (p1, c1, E1) =>
                if opc (bytA (M 2) n (skip (M 2) n p1 : Nat)) = -1 then .ok (skip (M 2) n p1, c1, (stl 5 (mu ++ ad) E1).2)
                else rsP (M 2) n m (skip (M 2) n p1 + 1) c1 (opc (bytA (M 2) n (skip (M 2) n p1 : Nat)) :: (stl (lvl (opc (bytA (M 2) n (skip (M 2) n p1 : Nat)))) (mu ++ ad) E1).1) (stl (lvl (opc (bytA (M 2) n (skip (M 2) n p1 : Nat)))) (mu ++ ad) E1).2) M2)) := by
            intro p1 x M4 w5 x3 T4 S4 V4 f4 hp1 hv
            rw [hv]
            by_cases c60 : c = 60
            · rw [if_pos c60]
              subst c60
              refine st_aload_n dX7_readSum_104 rfl ?_
              refine st_iload dX7_readSum_105 rfl ?_
              refine c_V1v (d' := d - 1) dX7_readSum_107 l_X7_114 k_X7_countPart i_X7_countPart (Or.inl ⟨_, _, _, _, _, (by first | with_reducible assumption | rfl), by rfl⟩) (by omega) (Nat.le_of_ble_eq_true rfl) (C_countF (by omega) T4 S4 (by omega)) (fun M5 N5 hx => ?_)
              obtain ⟨rfl, -, k1, k2⟩ := hx
              refine toQ rfl (e110 i q M5 _ w5 x3 none (by omega) k2 ?_ ((V4.up (by decide)).exc k1 (by simp)) (f4.tr ((SF.up ho (by omega)).tr (k1.sf ho (by simp)))))
              have := (S4.cnt ho).se (k := 800) (by omega) (by omega) (by simp; omega)
              exact this.exc1 ho k1
            · rw [if_neg c60]
              dsimp only
              refine st_aload_n dX7_readSum_104 rfl ?_
              refine st_iload dX7_readSum_105 rfl ?_
              refine c_V1v (d' := d - 1) dX7_readSum_107 l_X7_114 k_X7_countPart i_X7_countPart (Or.inl ⟨_, _, _, _, _, (by first | with_reducible assumption | rfl), by rfl⟩) (by omega) (Nat.le_of_ble_eq_true rfl) (C_countP S4 (by omega) (by omega)) (fun M5 N5 hx => ?_)
              obtain ⟨rfl, hM5⟩ := hx
              have T5 : TP M5 n p1 := by rw [hM5]; exact T4.ne (by decide)
              have S5 : SR o (c + 1) (mu ++ ad ++ K) (E ++ [x]) M5 := by rw [hM5]; exact S4.cnt ho
              have V5 : VW M5 := by rw [hM5]; exact V4.up (by decide)
              have f5 : SF o M M5 := f4.tr (by rw [hM5]; exact SF.up ho (by omega))
              have r5 : M5 2 = M 2 := f5.row2 ho
              have hs1 := skip_le (M 2) n p1
              have hq1 := hs1.2.1 T5.2.2.2.1
              refine st_aload_n dX7_readSum_110 rfl ?_
              refine st_getfr dX7_readSum_111 f_X7_15 (by first | with_reducible assumption | rfl) (by rfl) ?_
              refine c_V0i (d' := d - 1) dX7_readSum_114 l_X7_56 k_X8_peek i_X8_peek (Or.inl ⟨_, _, _, _, _, (by first | with_reducible assumption | rfl), by rfl⟩) (by omega) (Nat.le_of_ble_eq_true rfl) (C_peekT (by omega) T5) (fun x M6 N6 hx => ?_)
              obtain ⟨rfl, rfl, hM6, T6⟩ := hx
              rw [r5] at hM6 T6
              rw [r5]
              have x6 : Exc [1] M5 M6 := by rw [hM6]; exact Exc.up (by simp)
              have S6 : SR o (c + 1) (mu ++ ad ++ K) (E ++ [x]) M6 := S5.exc1 ho x6
              have V6 : VW M6 := V5.exc x6 (by simp)
              have f6 : SF o M M6 := f5.tr (x6.sf ho (by simp))
              generalize skip (M 2) n p1 = q1 at *
              have hb := bytA_rng (M 2) n (q1 : Int)
              have hoc := opc_cs (bytA (M 2) n (q1 : Int))
              have hob := opc_byte (f := M 2) (n := n) (p := q1)
              refine c_S1p (d' := d - 1) dX7_readSum_117 l_X7_118 k_X7_operatorOf s_X7_operatorOf (by omega) (Nat.le_of_ble_eq_true rfl) (C_operatorOf hb) ?_
              generalize opc (bytA (M 2) n (q1 : Int)) = op at *
              refine st_istore (L' := [_, _, _, _, _, _, _]) dX7_readSum_120 (by decide) rfl rfl ?_
              refine st_iload dX7_readSum_122 rfl ?_
              refine st_iconst dX7_readSum_124 ?_
              refine st_icmp_ne (tgt := 131) dX7_readSum_125 (by omega) (by omega) rfl (fun c4 => ?_) (fun c4 => ?_)
              · skip
                rw [if_neg (by omega)]
                have hqn1 := hob (by omega)
                refine st_aload_n dX7_readSum_131 rfl ?_
                refine st_getfr dX7_readSum_132 f_X7_15 (by first | with_reducible assumption | rfl) (by rfl) ?_
                refine st_dup dX7_readSum_135 rfl ?_
                refine st_getfi dX7_readSum_136 f_X7_60 (by first | with_reducible assumption | rfl) (by rfl) ?_
                rw [T6.2.2.1]
                refine st_iconst dX7_readSum_139 ?_
                refine st_iadd dX7_readSum_140 ?_
                refine st_putfi dX7_readSum_141 w_X7_60 (by first | with_reducible assumption | rfl) (by rfl) rfl rfl ?_
                refine st_aload_n dX7_readSum_144 rfl ?_
                refine st_aload_n dX7_readSum_145 rfl ?_
                refine st_iload dX7_readSum_146 rfl ?_
                have T7 : TP (q_up M6 1 2 ((q1 + 1 : Nat) : Int)) n (q1 + 1) := T6.up (by omega)
                rw [show ((q1 + 1 : Nat) : Int) = (q1 : Int) + 1 by omega] at T7
                have x7 : Exc [1] M6 (q_up M6 1 2 ((q1 : Int) + 1)) := Exc.up (by simp)
                have S7 : SR o (c + 1) (mu ++ ad ++ K) (E ++ [x]) (q_up M6 1 2 ((q1 : Int) + 1)) := S6.exc1 ho x7
                have V7 : VW (q_up M6 1 2 ((q1 : Int) + 1)) := V6.exc x7 (by simp)
                have f7 : SF o M (q_up M6 1 2 ((q1 : Int) + 1)) := f6.tr (x7.sf ho (by simp))
                have hlr : 5 ≤ lvl op ∧ lvl op ≤ 6 := by
                  by_cases e : op ≤ 12
                  · rw [lvl_a (by omega)]
                    omega
                  · rw [lvl_m (by omega)]
                    omega
                refine c_S1p (d' := d - 1) dX7_readSum_148 l_X7_122 k_X7_level s_X7_level (by omega) (Nat.le_of_ble_eq_true rfl) (C_level (by unfold i32; omega)) ?_
                refine c_V2v (d' := d - 1) dX7_readSum_151 l_X7_125 k_X7_settle i_X7_settle (Or.inl ⟨_, _, _, _, _, (by first | with_reducible assumption | rfl), by rfl⟩) (by omega) (Nat.le_of_ble_eq_true rfl) (C_settle (by omega) ho S7 V7 (by omega) (by omega) (by simp; omega) hWc) (fun M8 N8 hx => ?_)
                obtain ⟨rfl, k1, k2, k3, k4⟩ := hx
                rw [stl_app (fun y hy => by have := hK y hy; omega)] at k4
                dsimp only at k4
                have T8 := T7.exc7 ho k3
                have hl4 : ((stl (lvl op) (mu ++ ad) (E ++ [x])).1 ++ K).length ≤ 50 := by
                  by_cases e : op ≤ 12
                  · rw [lvl_a (by omega), stl_5 hmu had]
                    simp
                    omega
                  · rw [lvl_m (by omega), stl_6 hmu had]
                    simp
                    omega
                refine st_aload_n dX7_readSum_154 rfl ?_
                refine st_iload dX7_readSum_155 rfl ?_
                refine c_V1v (d' := d - 1) dX7_readSum_157 l_X7_128 k_X7_hold i_X7_hold (Or.inl ⟨_, _, _, _, _, (by first | with_reducible assumption | rfl), by rfl⟩) (by omega) (Nat.le_of_ble_eq_true rfl) (C_hold (by omega) (by rw [k4.1.1]; omega)) (fun M9 N9 hx => ?_)
                obtain ⟨rfl, hM9⟩ := hx
                have T9 : TP M9 n (q1 + 1) := by rw [hM9]; exact T8.hold
                have V9 : VW M9 := by rw [hM9]; exact k2.hold (by omega)
                have f9 : SF o M M9 := (f7.tr k1).tr (by rw [hM9]; exact SF.hold ho)
                have S9 : SR o (c + 1) (op :: ((stl (lvl op) (mu ++ ad) (E ++ [x])).1 ++ K)) (stl (lvl op) (mu ++ ad) (E ++ [x])).2 M9 := by
                  rw [hM9]
                  exact k4.hold ho (by omega) (by omega)
                refine st_iinc (L' := [_, _, _, _, _, _, _]) dX7_readSum_160 rfl (by decide) rfl rfl ?_
                refine st_goto (tgt := 2) dX7_readSum_163 rfl ?_
                by_cases e : op ≤ 12
                · rw [lvl_a (x := op) (by omega), stl_5 hmu had] at S9 ⊢
                  exact AW.le (AW.to (ih (i + 1) (q1 + 1) (c + 1) [] [op] (E ++ [x] ++ (mu ++ ad)) M9 (by omega) (by omega) T9 S9 V9 f9 (by omega) (Or.inl rfl) (Or.inr ⟨op, rfl, by omega⟩) (by simp; omega)) (h2 := rfl)) (by simp [q_le])
                · rw [lvl_m (x := op) (by omega), stl_6 hmu had] at S9 ⊢
                  exact AW.le (AW.to (ih (i + 1) (q1 + 1) (c + 1) [op] ad (E ++ [x] ++ mu) M9 (by omega) (by omega) T9 S9 V9 f9 (by omega) (Or.inr ⟨op, rfl, by omega⟩) had (by simp; omega)) (h2 := rfl)) (by simp [q_le])
              · refine st_goto (tgt := 166) dX7_readSum_128 rfl ?_
                rw [if_pos (by omega)]
                refine st_aload_n dX7_readSum_166 rfl ?_
                refine st_aload_n dX7_readSum_167 rfl ?_
                refine st_bipush dX7_readSum_168 (by decide) ?_
                refine c_S1p (d' := d - 1) dX7_readSum_170 l_X7_122 k_X7_level s_X7_level (by omega) (Nat.le_of_ble_eq_true rfl) (C_level (by unfold i32; omega)) ?_
                rw [lvl_a (x := 11) (by omega)]
                refine c_V2v (d' := d - 1) dX7_readSum_173 l_X7_125 k_X7_settle i_X7_settle (Or.inl ⟨_, _, _, _, _, (by first | with_reducible assumption | rfl), by rfl⟩) (by omega) (Nat.le_of_ble_eq_true rfl) (C_settle (by omega) ho S6 V6 (by omega) (by omega) (by simp; omega) hWc) (fun M8 N8 hx => ?_)
                obtain ⟨rfl, k1, k2, k3, k4⟩ := hx
                rw [stl_app hK, stl_5 hmu had] at k4
                refine r_v dX7_readSum_176 rfl ⟨rfl, ⟨k2, f6.tr k1⟩, Or.inl ⟨_, _, _, rfl, T6.exc7 ho k3, ?_⟩⟩
                rw [stl_5 hmu had]
                exact k4
          refine st_istore_n (L' := [_, _, _, _, _, _, _]) dX7_readSum_26 (by decide) rfl rfl ?_
          refine st_aload_n dX7_readSum_27 rfl ?_
          refine st_getfr dX7_readSum_28 f_X7_15 (by first | with_reducible assumption | rfl) (by rfl) ?_
          refine st_getfi dX7_readSum_31 f_X7_60 (by first | with_reducible assumption | rfl) (by rfl) ?_
          rw [T2.2.2.1]
          refine st_istore (L' := [_, _, _, _, _, _, _]) dX7_readSum_34 (by decide) rfl rfl ?_
          refine st_iload_n dX7_readSum_36 rfl ?_
          refine b_eq (tgt := 44) dX7_readSum_37 rfl (fun c3 => ?_) (fun c3 => ?_)
          · refine st_aload_n dX7_readSum_44 rfl ?_
            refine st_getfr dX7_readSum_45 f_X7_15 (by first | with_reducible assumption | rfl) (by rfl) ?_
            refine st_ldcS (i := 2) dX7_readSum_48 rfl ?_
            refine c_V1i (d' := d - 1) dX7_readSum_50 l_X7_65 k_X8_readWord i_X8_readWord (Or.inl ⟨_, _, _, _, _, (by first | with_reducible assumption | rfl), by rfl⟩) (by omega) (Nat.le_of_ble_eq_true rfl) (C_readWord (i := 2) (ws := wsR) (by omega) (by decide) wsR_jn (by simp [wsR]) wsR_32 T2.1 T2.2.1 T2.2.2.1 (by omega)) (fun x M3 N3 hx => ?_)
            obtain ⟨rfl, rfl, hM3⟩ := hx
            rw [r2, hss] at hM3
            rw [r2, hss]
            have hfr := findW_rng (M 2) n q wsR 0 (by omega)
            rw [show wsR.length = 11 from rfl] at hfr
            have hlt := lets_le (M 2) n q
            have hpos := wsR_pos (f := M 2) (n := n) (q := q)
            have hv : valP (M 2) n q c E = if findW (M 2) n q wsR 0 = -1 then .error (1 + 8 * (q : Int)) else if c = 60 then .error (1 + 8 * (q : Int) + 3) else .ok (q + lets (M 2) n q, c + 1, E ++ [findW (M 2) n q wsR 0]) := by
              unfold valP
              rw [hss, if_neg c3]
            have x3 : Exc [1] M2 M3 := by rw [hM3]; exact Exc.up (by simp)
            have S3 : SR o c (mu ++ ad ++ K) E M3 := S2.exc1 ho x3
            have V3 : VW M3 := V2.exc x3 (by simp)
            have f3 : SF o M M3 := f2.tr (x3.sf ho (by simp))
            generalize findW (M 2) n q wsR 0 = w at *
            refine st_istore (L' := [_, _, _, _, _, _, _]) dX7_readSum_53 (by decide) rfl rfl ?_
            refine st_iload_n dX7_readSum_55 rfl ?_
            refine b_eq (tgt := 79) dX7_readSum_56 rfl (fun c4 => ?_) (fun c4 => ?_)
            · refine st_iload dX7_readSum_79 rfl ?_
              refine st_iconst dX7_readSum_81 ?_
              refine st_icmp_eq (tgt := 94) dX7_readSum_82 (by omega) (by omega) rfl (fun c5 => ?_) (fun c5 => ?_)
              · refine st_aload_n dX7_readSum_94 rfl ?_
                refine st_getfr dX7_readSum_95 f_X7_15 (by first | with_reducible assumption | rfl) (by rfl) ?_
                refine st_iload dX7_readSum_98 rfl ?_
                refine st_iconst dX7_readSum_100 ?_
                rw [if_pos c5] at hv hM3
                have T3 : TP M3 n q := by rw [hM3]; exact T2.up hqn
                refine c_V2v (d' := d - 1) dX7_readSum_101 l_X7_69 k_X8_fail i_X8_fail (Or.inl ⟨_, _, _, _, _, (by first | with_reducible assumption | rfl), by rfl⟩) (by omega) (Nat.le_of_ble_eq_true rfl) (C_failT (k := 0) T3 (by omega) (by omega)) (fun M4 N4 hx => ?_)
                obtain ⟨rfl, k1, k2⟩ := hx
                rw [hv]
                refine toQ rfl (AW.to (e104 i q M4 _ _ _ _ (by omega) (by omega) (by rw [show (1 + 8 * (q : Int)) = 1 + 8 * (q : Int) + ((0 : Nat) : Int) by omega]; exact k2) ?_ (V3.exc k1 (by simp)) (f3.tr (k1.sf ho (by simp)))) (h2 := rfl))
                exact (S3.exc1 ho k1).se (by omega) (by omega) (by omega)
              · refine st_aload_n dX7_readSum_85 rfl ?_
                refine st_iload dX7_readSum_86 rfl ?_
                rw [if_neg c5] at hv hM3
                have hl1 := hpos c5
                have T3 : TP M3 n (q + lets (M 2) n q) := by rw [hM3]; exact T2.up (by omega)
                refine c_S2v (d' := d - 1) dX7_readSum_88 l_X7_110 k_X7_emit s_X7_emit (by omega) (Nat.le_of_ble_eq_true rfl) (C_emit (by omega) ho (by rw [S3.2.1]; omega)) (fun M4 N4 hx => ?_)
                obtain ⟨rfl, hM4⟩ := hx
                refine st_goto (tgt := 104) dX7_readSum_91 rfl ?_
                exact at104 (q + lets (M 2) n q) w M4 _ _ (by rw [hM4]; exact T3.emit ho) (by rw [hM4]; exact S3.emit ho (by omega)) (by rw [hM4]; exact V3.emit ho) (f3.tr (by rw [hM4]; exact SF.emit ho)) (by omega) hv
            · skip
              exact absurd c4 c3
          · refine st_iconst dX7_readSum_40 ?_
            refine st_goto (tgt := 53) dX7_readSum_41 rfl ?_
            refine st_istore (L' := [_, _, _, _, _, _, _]) dX7_readSum_53 (by decide) rfl rfl ?_
            refine st_iload_n dX7_readSum_55 rfl ?_
            refine b_eq (tgt := 79) dX7_readSum_56 rfl (fun c4 => ?_) (fun c4 => ?_)
            · skip
              exact absurd c3 c4
            · refine st_aload_n dX7_readSum_59 rfl ?_
              refine st_bipush dX7_readSum_60 (by decide) ?_
              refine st_aload_n dX7_readSum_62 rfl ?_
              refine st_getfr dX7_readSum_63 f_X7_15 (by first | with_reducible assumption | rfl) (by rfl) ?_
              refine st_iconst dX7_readSum_66 ?_
              refine st_ldc dX7_readSum_67 l_X7_105 ?_
              refine AW.topv (show _ = I 99999 from rfl) ?_
              refine c_V2i (d' := d - 1) dX7_readSum_69 l_X7_106 k_X8_readNumber i_X8_readNumber (Or.inl ⟨_, _, _, _, _, (by first | with_reducible assumption | rfl), by rfl⟩) (by omega) (Nat.le_of_ble_eq_true rfl) (C_rd (by omega) T2 (by unfold i32; omega) (by unfold i32; omega)) (fun x M3 N3 hx => ?_)
              obtain ⟨rfl, hx⟩ := hx
              rw [rdQ, rd_at T2 (by rw [r2]; exact hss), r2] at hx
              have hk := num_ok (M 2) n q
              have hv : valP (M 2) n q c E = if numF (M 2) n q 0 99999 = 0 then (if c = 60 then .error (1 + 8 * (q : Int) + 3) else .ok (q + numK (M 2) n q, c + 1, E ++ [32 + numV (M 2) n q])) else .error (numF (M 2) n q 0 99999) := by
                unfold valP
                rw [hss, if_pos c3]
              have hK0 : numF (M 2) n q 0 99999 = 0 → 1 ≤ numK (M 2) n q := by
                intro h0
                apply Decidable.byContradiction
                intro z
                unfold numF at h0
                rw [if_pos (by omega)] at h0
                omega
              rcases hx with ⟨v, hr, rfl⟩ | ⟨F, hr, rfl, hE3, T3⟩
              · by_cases h0 : numF (M 2) n q 0 99999 = 0
                · rw [if_pos h0] at hr hv
                  have hK1 := hK0 h0
                  injection hr with hr
                  injection hr with hr1 hr2
                  have T3 : TP M3 n (q + numK (M 2) n q) := by rw [← hr2]; exact T2.up (by omega)
                  have x3 : Exc [1] M2 M3 := by rw [← hr2]; exact Exc.up (by simp)
                  have S3 : SR o c (mu ++ ad ++ K) E M3 := S2.exc1 ho x3
                  have V3 : VW M3 := V2.exc x3 (by simp)
                  have f3 : SF o M M3 := f2.tr (x3.sf ho (by simp))
                  rw [hr1] at hv
                  refine st_iadd dX7_readSum_72 ?_
                  refine c_S2v (d' := d - 1) dX7_readSum_73 l_X7_110 k_X7_emit s_X7_emit (by omega) (Nat.le_of_ble_eq_true rfl) (C_emit (by omega) ho (by rw [S3.2.1]; omega)) (fun M4 N4 hx => ?_)
                  obtain ⟨rfl, hM4⟩ := hx
                  refine st_goto (tgt := 104) dX7_readSum_76 rfl ?_
                  exact at104 (q + numK (M 2) n q) (32 + v) M4 _ _ (by rw [hM4]; exact T3.emit ho) (by rw [hM4]; exact S3.emit ho (by omega)) (by rw [hM4]; exact V3.emit ho) (f3.tr (by rw [hM4]; exact SF.emit ho)) (by omega) hv
                · rw [if_neg h0] at hr
                  cases hr
              · by_cases h0 : numF (M 2) n q 0 99999 = 0
                · rw [if_pos h0] at hr
                  cases hr
                · rw [if_neg h0] at hr hv
                  injection hr with hr
                  rw [hr] at hv
                  rw [hv]
                  have S3 : SR o c (mu ++ ad ++ K) E M3 := S2.exc1 ho hE3
                  have E3 := S3.se (k := 400) (by omega) (by omega) (by omega)
                  refine st_iadd dX7_readSum_72 ?_
                  refine c_S2v (d' := d - 1) dX7_readSum_73 l_X7_110 k_X7_emit s_X7_emit (by omega) (Nat.le_of_ble_eq_true rfl) (C_emit (by omega) ho (by rw [S3.2.1]; omega)) (fun M4 N4 hx => ?_)
                  obtain ⟨rfl, hM4⟩ := hx
                  refine st_goto (tgt := 104) dX7_readSum_76 rfl ?_
                  exact toQ rfl (AW.to (e104 i q M4 F _ _ _ (by omega) (by omega) (by rw [hM4]; exact T3.emit ho) (by rw [hM4]; exact (E3.emit ho).mono (by omega)) (by rw [hM4]; exact (V2.exc hE3 (by simp)).emit ho) ((f2.tr (hE3.sf ho (by simp))).tr (by rw [hM4]; exact SF.emit ho))) (h2 := rfl))
  rw [sumP_rs hn4 hT.2.2.2.1 hc]
  refine AC.of (L0 := [_, _, none, none, none, none, none]) pn_X7 (Nat.le_of_ble_eq_true rfl) rfl ?_
  refine st_iconst dX7_readSum_0 ?_
  refine st_istore_n (L' := [_, _, _, _, _, _, _]) dX7_readSum_1 (by decide) rfl rfl ?_
  have := loop 401 0 p c [] [] E M (by omega) (by omega) hT h hV SF.rf hc (Or.inl rfl) (Or.inl rfl) (by simp; omega)
  rw [List.nil_append] at this
  exact AW.to this
theorem C_readSumE {G : q_G} {d : Nat} {M : q_Mem} {N : q_MemL} {o n : Nat} {k F : Int} (hd : 3 ≤ d) (ho : isRu o) (hT : TE M n F) (h : SE o k M) (hk : k ≤ 50000) (hV : VW M) : AC0 G d m_X7_readSum [.ref 84, .ref o] M N (CN (fun M1 N1 => N1 = N ∧ (VW M1 ∧ SF o M M1) ∧ TE M1 n F ∧ SE o (k + 64) M1)) := by
  refine AC.of (L0 := [_, _, none, none, none, none, none]) pn_X7 (Nat.le_of_ble_eq_true rfl) rfl ?_
  refine st_iconst dX7_readSum_0 ?_
  refine st_istore_n (L' := [_, _, _, _, _, _, _]) dX7_readSum_1 (by decide) rfl rfl ?_
  refine st_iload_n dX7_readSum_2 rfl ?_
  refine st_sipush dX7_readSum_3 (by decide) ?_
  refine st_icmp_ge (tgt := 166) dX7_readSum_6 (by omega) (by omega) rfl (fun c1 => ?_) (fun c1 => ?_)
  · skip
    omega
  · refine st_aload_n dX7_readSum_9 rfl ?_
    refine st_getfr dX7_readSum_10 f_X7_15 (by first | with_reducible assumption | rfl) (by rfl) ?_
    refine c_V0p (d' := d - 1) dX7_readSum_13 l_X7_89 k_X8_failed i_X8_failed (Or.inl ⟨_, _, _, _, _, (by first | with_reducible assumption | rfl), by rfl⟩) (by omega) (Nat.le_of_ble_eq_true rfl) (C_failed (by rw [hT.2.2.2.1]; unfold i32; have := hT.2.2.2.2; omega)) ?_
    refine b_ne (tgt := 166) dX7_readSum_16 rfl (fun c2 => ?_) (fun c2 => ?_)
    · refine st_aload_n dX7_readSum_166 rfl ?_
      refine st_aload_n dX7_readSum_167 rfl ?_
      refine st_bipush dX7_readSum_168 (by decide) ?_
      refine c_S1p (d' := d - 1) dX7_readSum_170 l_X7_122 k_X7_level s_X7_level (by omega) (Nat.le_of_ble_eq_true rfl) (C_level (by unfold i32; omega)) ?_
      rw [lvl_a (x := 11) (by omega)]
      refine c_V2v (d' := d - 1) dX7_readSum_173 l_X7_125 k_X7_settle i_X7_settle (Or.inl ⟨_, _, _, _, _, (by first | with_reducible assumption | rfl), by rfl⟩) (by omega) (Nat.le_of_ble_eq_true rfl) (C_settleE (by omega) ho h hk hV (by omega)) (fun M2 N2 hx => ?_)
      obtain ⟨rfl, k1, k2, k3, k4⟩ := hx
      refine r_v dX7_readSum_176 rfl ⟨rfl, ⟨k2, k1⟩, hT.exc7 ho k3, k4⟩
    · skip
      exact absurd (by rw [hT.2.2.2.1]; exact hT.2.2.2.2.1) c2


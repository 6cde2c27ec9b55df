/-! the reference reads a rule: tests -/
theorem C_rfact {G : q_G} {d : Nat} {V : q_Mem} {N : q_MemL} {f : Nat → Int} {s n p c m : Nat} {K E E0 : List Int} (hd : 9 ≤ d) (hf : V 132 = f) (hb : tyB f n) (hp : RP1 V n p) (hV : VR s c E V) (hs : s ≤ 5) (hK : VK K V) (hI : TI n 0 p c K E E0) : AC0 G d m_X11_fact [.ref 112] V N (CV (fun x V1 N1 => N1 = N ∧ RS2 s V V1 ∧ ((∃ w p1 c1 K1 E1, x = I (if w = true then 0 else 1) ∧ tstP f n (m + 1) true p c K E = tstP f n m w p1 c1 K1 E1 ∧ RP1 V1 n p1 ∧ VR s c1 E1 V1 ∧ VK K1 V1 ∧ TI n (if w = true then 0 else 1) p1 c1 K1 E1 E0 ∧ p < p1) ∨ ∃ F z : Int, x = I z ∧ (z = 0 ∨ z = 1) ∧ tstP f n (m + 1) true p c K E = .error F ∧ RE1 V1 n F ∧ VE s 250 V1))) := by
  have hn4 := hp.2.1
  have hl := hI.len hn4
  have hI2 := hI.skp (f := f)
  have hc := hI.2.2.2.1
  have hd10 := hI.2.1
  have hEb : E.length + nbK K + 0 ≤ 2 * c + p / 3 := hI.2.2.2.2.2.2
  have hpn := hp.2.2.2.1
  have hsk := skip_le f n p
  have hss := skip_skip f n p
  have hskE := tstP_sk (f := f) (n := n) (m := m + 1) (p := p) (c := c) (w := true) (K := K) (E := E)
  rw [← hskE]
  refine AC.of (L0 := [_]) pn_X11 (Nat.le_of_ble_eq_true rfl) rfl ?_
  refine st_aload_n dX11_fact_0 rfl ?_
  refine c_V0v (d' := d - 1) dX11_fact_1 l_X11_243 k_X11_blanks i_X11_blanks (Or.inl ⟨_, _, _, _, _, (by first | with_reducible assumption | rfl), by rfl⟩) (by omega) (Nat.le_of_ble_eq_true rfl) (C_rblanksT (by omega) hf hp hV) (fun V1 N1 hx => ?_)
  obtain ⟨rfl, R1, P1, W1, E1, f1⟩ := hx
  have hf1 : V1 132 = f := R1.r132 hf
  have K1 : VK K V1 := hK.rs R1
  have hT1 := tstP_t (f := f) (n := n) (m := m) (p := skip f n p) (c := c) (K := K) (E := E)
  rw [hss] at hT1
  have hpq := hsk.1
  generalize skip f n p = q at *
  have hqn := P1.2.2.2.1
  refine st_aload_n dX11_fact_4 rfl ?_
  refine st_ldcwS (i := 25) dX11_fact_5 rfl ?_
  refine c_V1p (d' := d - 1) dX11_fact_8 l_X11_246 k_X11_stood i_X11_stood (Or.inl ⟨_, _, _, _, _, (by first | with_reducible assumption | rfl), by rfl⟩) (by omega) (Nat.le_of_ble_eq_true rfl) (C_stood (i := 25) (by omega) (by decide) P1.1 hn4 P1.2.2.1 (by omega) (by rw [hf1]; exact hb)) ?_
  rw [hf1]
  refine b_eq (tgt := 32) dX11_fact_11 rfl (fun c1 => ?_) (fun c1 => ?_)
  · refine st_aload_n dX11_fact_32 rfl ?_
    rw [if_neg c1] at hT1
    refine c_V0p (d' := d - 1) dX11_fact_33 l_X11_226 k_X11_sign i_X11_sign (Or.inl ⟨_, _, _, _, _, (by first | with_reducible assumption | rfl), by rfl⟩) (by omega) (Nat.le_of_ble_eq_true rfl) (C_sign P1.1 hn4 P1.2.2.1 (by omega)) ?_
    rw [hf1]
    have hbr := bytA_rng f n (q : Int)
    refine st_bipush dX11_fact_36 (by decide) ?_
    refine st_icmp_ne (tgt := 59) dX11_fact_38 (by omega) (by omega) rfl (fun c2 => ?_) (fun c2 => ?_)
    · refine st_aload_n dX11_fact_59 rfl ?_
      rw [if_neg c2] at hT1
      refine c_V0v (d' := d - 1) dX11_fact_60 l_X11_302 k_X11_compared i_X11_compared (Or.inl ⟨_, _, _, _, _, (by first | with_reducible assumption | rfl), by rfl⟩) (by omega) (Nat.le_of_ble_eq_true rfl) (C_rcmp (by omega) hf1 hb P1 W1 hs hc (by omega)) (fun V2 N2 hx => ?_)
      obtain ⟨rfl, R2, hx⟩ := hx
      refine st_iconst dX11_fact_63 ?_
      rcases hx with ⟨p1, c1', E1', k1, P2, W2⟩ | ⟨F, k1, P2, W2⟩
      · rw [k1] at hT1
        obtain ⟨hI3, hlt⟩ := hI2.cmp k1
        refine r_z dX11_fact_64 rfl (by omega) ⟨rfl, (RS1.to R1).tr (RS1.to R2), Or.inl ⟨false, p1, c1', K, E1', rfl, hT1, P2, W2, K1.rs R2, hI3, by omega⟩⟩
      · rw [k1] at hT1
        refine r_z dX11_fact_64 rfl (by omega) ⟨rfl, (RS1.to R1).tr (RS1.to R2), Or.inr ⟨F, 1, rfl, Or.inr rfl, hT1, P2, W2.mono (by omega)⟩⟩
    · refine st_aload_n dX11_fact_41 rfl ?_
      refine st_bipush dX11_fact_42 (by decide) ?_
      rw [if_pos c2] at hT1
      have hlt := byt_lt c2 (by decide)
      by_cases h10 : dK K = 10
      · rw [if_pos h10] at hT1
        refine c_V1v (d' := d - 1) dX11_fact_44 l_X11_299 k_X11_opens i_X11_opens (Or.inl ⟨_, _, _, _, _, (by first | with_reducible assumption | rfl), by rfl⟩) (by omega) (Nat.le_of_ble_eq_true rfl) (C_opensF (x := 24) (by omega) P1 W1 (by omega) hc K1 (by omega) (Or.inr rfl) h10) (fun V2 N2 hx => ?_)
        obtain ⟨rfl, R2, q2, P2, W2⟩ := hx
        refine st_aload_n dX11_fact_47 rfl ?_
        refine st_dup dX11_fact_48 rfl ?_
        refine st_getfi dX11_fact_49 f_X11_223 (by first | with_reducible assumption | rfl) (by rfl) ?_
        rw [q2]
        refine st_iconst dX11_fact_52 ?_
        refine st_iadd dX11_fact_53 ?_
        refine st_putfi dX11_fact_54 w_X11_223 (by first | with_reducible assumption | rfl) (by rfl) rfl rfl ?_
        refine st_iconst dX11_fact_57 ?_
        refine r_z dX11_fact_58 rfl (by omega) ⟨rfl, ((RS1.to R1).tr R2).tr (RFk.up (by simp) (by simp)), Or.inr ⟨_, 0, rfl, Or.inl rfl, hT1, P2.upp (by omega), (W2.fx (fx.up (by omega))).mono (by omega)⟩⟩
      · rw [if_neg h10] at hT1
        refine c_V1v (d' := d - 1) dX11_fact_44 l_X11_299 k_X11_opens i_X11_opens (Or.inl ⟨_, _, _, _, _, (by first | with_reducible assumption | rfl), by rfl⟩) (by omega) (Nat.le_of_ble_eq_true rfl) (C_opensO (x := 24) P1 W1 K1 (by omega) (Or.inr rfl) (by omega)) (fun V2 N2 hx => ?_)
        obtain ⟨rfl, R2, P2, W2, K2⟩ := hx
        refine st_aload_n dX11_fact_47 rfl ?_
        refine st_dup dX11_fact_48 rfl ?_
        refine st_getfi dX11_fact_49 f_X11_223 (by first | with_reducible assumption | rfl) (by rfl) ?_
        rw [P2.2.2.1]
        refine st_iconst dX11_fact_52 ?_
        refine st_iadd dX11_fact_53 ?_
        refine st_putfi dX11_fact_54 w_X11_223 (by first | with_reducible assumption | rfl) (by rfl) rfl rfl ?_
        refine st_iconst dX11_fact_57 ?_
        rw [show (q : Int) + 1 = ((q + 1 : Nat) : Int) by omega]
        refine r_z dX11_fact_58 rfl (by omega) ⟨rfl, ((RS1.to R1).tr R2).tr (RFk.up (by simp) (by simp)), Or.inl ⟨true, q + 1, c, 24 :: K, E, rfl, hT1, P2.up (by omega), W2.fx (fx.up (by omega)) (Exc.up (by simp)), K2.fx (fx.up (by omega)) (Exc.up (by simp)), hI2.bra c2 h10, by omega⟩⟩
  · refine st_aload_n dX11_fact_14 rfl ?_
    refine st_bipush dX11_fact_15 (by decide) ?_
    rw [if_pos c1] at hT1
    have hwl := wd_len c1
    rw [ch25] at hwl
    simp at hwl
    by_cases h10 : dK K = 10
    · rw [if_pos h10] at hT1
      refine c_V1v (d' := d - 1) dX11_fact_17 l_X11_299 k_X11_opens i_X11_opens (Or.inl ⟨_, _, _, _, _, (by first | with_reducible assumption | rfl), by rfl⟩) (by omega) (Nat.le_of_ble_eq_true rfl) (C_opensF (x := 21) (by omega) P1 W1 (by omega) hc K1 (by omega) (Or.inl rfl) h10) (fun V2 N2 hx => ?_)
      obtain ⟨rfl, R2, q2, P2, W2⟩ := hx
      refine st_aload_n dX11_fact_20 rfl ?_
      refine st_dup dX11_fact_21 rfl ?_
      refine st_getfi dX11_fact_22 f_X11_223 (by first | with_reducible assumption | rfl) (by rfl) ?_
      rw [q2]
      refine st_iconst dX11_fact_25 ?_
      refine st_iadd dX11_fact_26 ?_
      refine st_putfi dX11_fact_27 w_X11_223 (by first | with_reducible assumption | rfl) (by rfl) rfl rfl ?_
      refine st_iconst dX11_fact_30 ?_
      refine r_z dX11_fact_31 rfl (by omega) ⟨rfl, ((RS1.to R1).tr R2).tr (RFk.up (by simp) (by simp)), Or.inr ⟨_, 0, rfl, Or.inl rfl, hT1, P2.upp (by omega), (W2.fx (fx.up (by omega))).mono (by omega)⟩⟩
    · rw [if_neg h10] at hT1
      refine c_V1v (d' := d - 1) dX11_fact_17 l_X11_299 k_X11_opens i_X11_opens (Or.inl ⟨_, _, _, _, _, (by first | with_reducible assumption | rfl), by rfl⟩) (by omega) (Nat.le_of_ble_eq_true rfl) (C_opensO (x := 21) P1 W1 K1 (by omega) (Or.inl rfl) (by omega)) (fun V2 N2 hx => ?_)
      obtain ⟨rfl, R2, P2, W2, K2⟩ := hx
      refine st_aload_n dX11_fact_20 rfl ?_
      refine st_dup dX11_fact_21 rfl ?_
      refine st_getfi dX11_fact_22 f_X11_223 (by first | with_reducible assumption | rfl) (by rfl) ?_
      rw [P2.2.2.1]
      refine st_iconst dX11_fact_25 ?_
      refine st_iadd dX11_fact_26 ?_
      refine st_putfi dX11_fact_27 w_X11_223 (by first | with_reducible assumption | rfl) (by rfl) rfl rfl ?_
      refine st_iconst dX11_fact_30 ?_
      rw [show (q : Int) + 3 = ((q + 3 : Nat) : Int) by omega]
      refine r_z dX11_fact_31 rfl (by omega) ⟨rfl, ((RS1.to R1).tr R2).tr (RFk.up (by simp) (by simp)), Or.inl ⟨true, q + 3, c, 21 :: K, E, rfl, hT1, P2.up (by omega), W2.fx (fx.up (by omega)) (Exc.up (by simp)), K2.fx (fx.up (by omega)) (Exc.up (by simp)), hI2.not c1 h10, by omega⟩⟩
def RE2 (V : q_Mem) (n : Nat) (F : Int) : Prop := V 112 20 = (n : Int) ∧ n ≤ 400 ∧ (0 ≤ V 112 21 ∧ V 112 21 ≤ 410) ∧ V 112 22 = F ∧ ¬ F = 0 ∧ 0 ≤ F ∧ F ≤ 3300
theorem RE1.re2 {V : q_Mem} {n : Nat} {F : Int} (h : RE1 V n F) : RE2 V n F := by
  obtain ⟨a, b, c, e⟩ := h
  exact ⟨a, b, by omega, e⟩
def rtQ (s n : Nat) (V : q_Mem) (r : PS) (V1 : q_Mem) : Prop := RS2 s V V1 ∧ ((∃ p1 c1 E1, r = .ok (p1, c1, E1) ∧ RP1 V1 n p1 ∧ VR s c1 E1 V1 ∧ V1 112 26 = 0) ∨ ∃ F, r = .error F ∧ RE2 V1 n F ∧ VE s 300 V1)
theorem C_rtest {G : q_G} {d : Nat} {V : q_Mem} {N : q_MemL} {f : Nat → Int} {s n p c : Nat} {E E0 : List Int} (hd : 10 ≤ d) (hf : V 132 = f) (hb : tyB f n) (hp : RP1 V n p) (hV : VR s c E V) (hs : s ≤ 5) (h26 : V 112 26 = 0) (hI : TI n 0 p c [] E E0) : AC0 G d m_X11_test [.ref 112] V N (CN (fun V1 N1 => N1 = N ∧ rtQ s n V (tstP f n 401 true p c [] E) V1)) := by
  have hn4 := hp.2.1
  have out : ∀ (V1 : q_Mem) (r : PS) (F w1 : Int) (x3 x4 : Option Value), RE2 V1 n F → VE s 300 V1 → RS2 s V V1 → r = .error F → AW0 G d m_X11_test 9 [some (.ref 112), some (I w1), some (I 1), x3, x4] [] V1 N (CN (fun V1 N1 => N1 = N ∧ rtQ s n V r V1)) := by
    intro V1 r F w1 x3 x4 P1 W1 R1 hr
    have hF := P1.2.2.2.2
    refine st_iload_n dX11_test_9 rfl ?_
    refine st_if_eq (tgt := 202) dX11_test_10 (by omega) rfl (fun c1 => ?_) (fun c1 => ?_)
    · skip
      exact absurd c1 (by decide)
    · refine st_aload_n dX11_test_13 rfl ?_
      refine st_getfi dX11_test_14 f_X11_220 (by first | with_reducible assumption | rfl) (by rfl) ?_
      rw [P1.2.2.2.1]
      refine st_if_ne (tgt := 202) dX11_test_17 (by omega) rfl (fun c2 => ?_) (fun c2 => ?_)
      · skip
        refine r_v dX11_test_202 rfl ⟨rfl, R1, Or.inr ⟨F, hr, P1, W1⟩⟩
      · skip
        exact absurd c2 hF.1
  have loop : ∀ (m : Nat) (w : Bool) (p c : Nat) (K E : List Int) (V1 : q_Mem), n - p < m → RP1 V1 n p → VR s c E V1 → VK K V1 → RS2 s V V1 → TI n (if w = true then 0 else 1) p c K E E0 → AW0 G d m_X11_test 9 [some (.ref 112), some (I (if w = true then 1 else 0)), some (I 1), none, none] [] V1 N (CN (fun V1 N1 => N1 = N ∧ rtQ s n V (tstP f n m w p c K E) V1)) := by
    intro m
    induction m with
    | zero =>
      intro w p c K E V1 hm
      omega
    | succ m ih =>
      intro w p c K E V1 hm P1 W1 K1 R1 hI
      have hf1 : V1 132 = f := R1.r132 hf
      have hl := hI.len hn4
      have hpn := P1.2.2.2.1
      refine st_iload_n dX11_test_9 rfl ?_
      refine st_if_eq (tgt := 202) dX11_test_10 (by omega) rfl (fun c1 => ?_) (fun c1 => ?_)
      · skip
        exact absurd c1 (by decide)
      · refine st_aload_n dX11_test_13 rfl ?_
        refine st_getfi dX11_test_14 f_X11_220 (by first | with_reducible assumption | rfl) (by rfl) ?_
        rw [P1.2.2.2.2]
        refine st_if_ne (tgt := 202) dX11_test_17 (by omega) rfl (fun c2 => ?_) (fun c2 => ?_)
        · skip
          exact absurd rfl c2
        · refine st_iload_n dX11_test_20 rfl ?_
          cases w with
          | true =>
            rw [if_pos rfl] at hI
            refine st_if_eq (tgt := 40) dX11_test_21 (by omega) rfl (fun c3 => ?_) (fun c3 => ?_)
            · skip
              exact absurd c3 (by decide)
            · refine st_aload_n dX11_test_24 rfl ?_
              refine c_V0i (d' := d - 1) dX11_test_25 l_X11_305 k_X11_fact i_X11_fact (Or.inl ⟨_, _, _, _, _, (by first | with_reducible assumption | rfl), by rfl⟩) (by omega) (Nat.le_of_ble_eq_true rfl) (C_rfact (m := m) (by omega) hf1 hb P1 W1 hs K1 hI) (fun x V2 N2 hx => ?_)
              obtain ⟨rfl, R2, hx⟩ := hx
              rcases hx with ⟨w2, p1, c1', K2, E2, rfl, k1, P2, W2, K2', hI2, hlt⟩ | ⟨F, z, rfl, hz, k1, P2, W2⟩
              · rw [k1]
                have P2n := P2.2.2.2.1
                cases w2 with
                | true =>
                  refine st_if_ne (tgt := 35) dX11_test_28 (by omega) rfl (fun c4 => ?_) (fun c4 => ?_)
                  · skip
                    exact absurd rfl c4
                  · refine st_iconst dX11_test_31 ?_
                    refine st_goto (tgt := 36) dX11_test_32 rfl ?_
                    refine st_istore_n (L' := [_, _, _, _, _]) dX11_test_36 (by decide) rfl rfl ?_
                    refine st_goto (tgt := 9) dX11_test_37 rfl ?_
                    exact ih true p1 c1' K2 E2 V2 (by omega) P2 W2 K2' (R1.tr R2) hI2
                | false =>
                  refine st_if_ne (tgt := 35) dX11_test_28 (by omega) rfl (fun c4 => ?_) (fun c4 => ?_)
                  · refine st_iconst dX11_test_35 ?_
                    refine st_istore_n (L' := [_, _, _, _, _]) dX11_test_36 (by decide) rfl rfl ?_
                    refine st_goto (tgt := 9) dX11_test_37 rfl ?_
                    exact ih false p1 c1' K2 E2 V2 (by omega) P2 W2 K2' (R1.tr R2) hI2
                  · skip
                    exact absurd c4 (by decide)
              · rw [k1]
                refine st_if_ne (tgt := 35) dX11_test_28 (by omega) rfl (fun c4 => ?_) (fun c4 => ?_)
                · refine st_iconst dX11_test_35 ?_
                  refine st_istore_n (L' := [_, _, _, _, _]) dX11_test_36 (by decide) rfl rfl ?_
                  refine st_goto (tgt := 9) dX11_test_37 rfl ?_
                  exact out V2 _ F _ _ _ P2.re2 (W2.mono (by omega)) (R1.tr R2) rfl
                · refine st_iconst dX11_test_31 ?_
                  refine st_goto (tgt := 36) dX11_test_32 rfl ?_
                  refine st_istore_n (L' := [_, _, _, _, _]) dX11_test_36 (by decide) rfl rfl ?_
                  refine st_goto (tgt := 9) dX11_test_37 rfl ?_
                  exact out V2 _ F _ _ _ P2.re2 (W2.mono (by omega)) (R1.tr R2) rfl
          | false =>
            rw [if_neg (by decide)] at hI
            have hKm := SK_mem hI.1
            have hsk := skip_le f n p
            have hss := skip_skip f n p
            have hI2 := hI.skp (f := f)
            have hskE := tstP_sk (f := f) (n := n) (m := m + 1) (p := p) (c := c) (w := false) (K := K) (E := E)
            have hT1 := tstP_f (f := f) (n := n) (m := m) (p := skip f n p) (c := c) (K := K) (E := E)
            rw [hss] at hT1
            rw [← hskE]
            have hpop := pop_stl K E hI.1
            have hst2 := stl_ok (lv := 2) (by omega) K E hI.1
            have hst1 := stl_ok (lv := 1) (by omega) K E hI.1
            have hS2 := SK_len2 hst2.1
            have hS1 := SK_len2 hst1.1
            have hd10 := hI.2.1
            have hbk := bK_le K
            have hm1 : ∀ y, y ∈ (pop 21 K E).1 → 21 ≤ y ∧ y ≤ 24 := by
              intro y hy
              have : ∀ (x : Int) (K E : List Int), y ∈ (pop x K E).1 → y ∈ K := by
                intro x K
                induction K with
                | nil => intro E h; exact h
                | cons z r ih =>
                  intro E h
                  rw [pop_c] at h
                  split at h
                  · exact List.mem_cons_of_mem _ (ih _ h)
                  · exact h
              exact hKm y (this _ _ _ hy)
            have hpl : ∀ (x : Int) (K E : List Int), (pop x K E).1.length + (pop x K E).2.length = K.length + E.length ∧ (pop x K E).1.length ≤ K.length := by
              intro x K
              induction K with
              | nil => intro E; exact ⟨rfl, Nat.le_refl _⟩
              | cons z r ih =>
                intro E
                rw [pop_c]
                split
                · have := ih (E ++ [z])
                  simp at this ⊢
                  omega
                · exact ⟨rfl, Nat.le_refl _⟩
            have hl21 := hpl 21 K E
            have hl22 := hpl 22 (pop 21 K E).1 (pop 21 K E).2
            rw [hpop.1] at hl22
            have hl23 := hpl 23 (stl 2 K E).1 (stl 2 K E).2
            rw [hpop.2] at hl23
            refine st_if_eq (tgt := 40) dX11_test_21 (by omega) rfl (fun c3 => ?_) (fun c3 => ?_)
            · refine st_aload_n dX11_test_40 rfl ?_
              refine st_bipush dX11_test_41 (by decide) ?_
              refine c_V1v (d' := d - 1) dX11_test_43 l_X11_308 k_X11_answers i_X11_answers (Or.inl ⟨_, _, _, _, _, (by first | with_reducible assumption | rfl), by rfl⟩) (by omega) (Nat.le_of_ble_eq_true rfl) (C_answers (x := 21) (by omega) P1 W1 hs K1 (by omega) (by omega) hKm (Or.inl rfl)) (fun V2 N2 hx => ?_)
              obtain ⟨rfl, R2, P2, W2, K2⟩ := hx
              have R2' := R1.tr R2
              refine st_aload_n dX11_test_46 rfl ?_
              refine c_V0v (d' := d - 1) dX11_test_47 l_X11_243 k_X11_blanks i_X11_blanks (Or.inl ⟨_, _, _, _, _, (by first | with_reducible assumption | rfl), by rfl⟩) (by omega) (Nat.le_of_ble_eq_true rfl) (C_rblanksT (by omega) (RS2.r132 R2' hf) P2 W2) (fun V3 N3 hx => ?_)
              obtain ⟨rfl, R3, P3, W3, -, -⟩ := hx
              have R3' := R2'.tr (RS1.to R3)
              have K3 : VK (pop 21 K E).1 V3 := K2.rs R3
              have hf3 : V3 132 = f := RS2.r132 R3' hf
              have hpq := hsk.1
              generalize skip f n p = q at *
              have hqn := P3.2.2.2.1
              refine st_aload_n dX11_test_50 rfl ?_
              refine st_ldcwS (i := 26) dX11_test_51 rfl ?_
              refine c_V1p (d' := d - 1) dX11_test_54 l_X11_246 k_X11_stood i_X11_stood (Or.inl ⟨_, _, _, _, _, (by first | with_reducible assumption | rfl), by rfl⟩) (by omega) (Nat.le_of_ble_eq_true rfl) (C_stood (i := 26) (by omega) (by decide) P3.1 hn4 P3.2.2.1 (by omega) (by rw [hf3]; exact hb)) ?_
              rw [hf3]
              refine st_istore_n (L' := [_, _, _, _, _]) dX11_test_57 (by decide) rfl rfl ?_
              refine st_aload_n dX11_test_58 rfl ?_
              refine st_ldcwS (i := 27) dX11_test_59 rfl ?_
              refine c_V1p (d' := d - 1) dX11_test_62 l_X11_246 k_X11_stood i_X11_stood (Or.inl ⟨_, _, _, _, _, (by first | with_reducible assumption | rfl), by rfl⟩) (by omega) (Nat.le_of_ble_eq_true rfl) (C_stood (i := 27) (by omega) (by decide) P3.1 hn4 P3.2.2.1 (by omega) (by rw [hf3]; exact hb)) ?_
              rw [hf3]
              refine st_istore (L' := [_, _, _, _, _]) dX11_test_65 (by decide) rfl rfl ?_
              refine st_aload_n dX11_test_67 rfl ?_
              refine st_bipush dX11_test_68 (by decide) ?_
              refine c_V1v (d' := d - 1) dX11_test_70 l_X11_308 k_X11_answers i_X11_answers (Or.inl ⟨_, _, _, _, _, (by first | with_reducible assumption | rfl), by rfl⟩) (by omega) (Nat.le_of_ble_eq_true rfl) (C_answers (x := 22) (by omega) P3 W3 hs K3 (by omega) (by omega) hm1 (Or.inr (Or.inl rfl))) (fun V4 N4 hx => ?_)
              obtain ⟨rfl, R4, P4, W4, K4⟩ := hx
              have R4' := R3'.tr R4
              rw [hpop.1] at W4 K4
              have hm2 := SK_mem hst2.1
              -- and
              have atJ : ∀ (x lv : Int) (j : Nat) (V5 : q_Mem), (x = 22 ∧ lv = 2 ∨ x = 23 ∧ lv = 1) → 2 ≤ j → q + j ≤ n → RP1 V5 n q → VR s c (stl lv K E).2 V5 → VK (x :: (stl lv K E).1) V5 → RS2 s V V5 → AW0 G d m_X11_test 9 [some (.ref 112), some (I 1), some (I 1), none, none] [] (q_up V5 112 21 ((q + j : Nat) : Int)) N4 (CN (fun V1 N1 => N1 = N4 ∧ rtQ s n V (tstP f n m true (q + j) c (x :: (stl lv K E).1) (stl lv K E).2) V1)) := by
                intro x lv j V5 hx hj hjn P5 W5 K5 R5
                exact ih true (q + j) c _ _ _ (by omega) (P5.up hjn) (W5.fx (fx.up (by omega)) (Exc.up (by simp))) (K5.fx (fx.up (by omega)) (Exc.up (by simp))) (R5.tr (RFk.up (by simp) (by simp))) (hI2.jo ⟨hjn, hj⟩ hx)
              by_cases hand : isWd f n q (chL 26) = true
              · rw [if_pos hand] at hT1
                rw [hT1]
                have hwl := wd_len hand
                rw [ch26] at hwl
                simp at hwl
                have hnor : ¬ isWd f n q (chL 27) = true := by
                  intro z
                  have z1 := wd_len z
                  rw [ch27] at z1
                  simp at z1
                  omega
                rw [if_pos hand, if_neg hnor]
                refine st_iload_n dX11_test_73 rfl ?_
                refine st_if_ne (tgt := 82) dX11_test_74 (by omega) rfl (fun d1 => ?_) (fun d1 => ?_)
                · refine st_iload dX11_test_82 rfl ?_
                  refine st_if_eq (tgt := 93) dX11_test_84 (by omega) rfl (fun d2 => ?_) (fun d2 => ?_)
                  · refine st_aload_n dX11_test_93 rfl ?_
                    refine st_iload_n dX11_test_94 rfl ?_
                    refine st_if_eq (tgt := 103) dX11_test_95 (by omega) rfl (fun d3 => ?_) (fun d3 => ?_)
                    · skip
                      exact absurd d3 (by decide)
                    · refine st_bipush dX11_test_98 (by decide) ?_
                      refine st_goto (tgt := 105) dX11_test_100 rfl ?_
                      refine c_V1v (d' := d - 1) dX11_test_105 l_X11_299 k_X11_opens i_X11_opens (Or.inl ⟨_, _, _, _, _, (by first | with_reducible assumption | rfl), by rfl⟩) (by omega) (Nat.le_of_ble_eq_true rfl) (C_opensJ (x := 22) P4 W4 K4 (by omega) (Or.inl rfl)) (fun V5 N5 hx => ?_)
                      obtain ⟨rfl, R5, P5, W5, K5⟩ := hx
                      refine st_aload_n dX11_test_108 rfl ?_
                      refine st_dup dX11_test_109 rfl ?_
                      refine st_getfi dX11_test_110 f_X11_223 (by first | with_reducible assumption | rfl) (by rfl) ?_
                      rw [P5.2.2.1]
                      refine st_iload_n dX11_test_113 rfl ?_
                      refine st_if_eq (tgt := 121) dX11_test_114 (by omega) rfl (fun d4 => ?_) (fun d4 => ?_)
                      · skip
                        exact absurd d4 (by decide)
                      · refine st_iconst dX11_test_117 ?_
                        refine st_goto (tgt := 122) dX11_test_118 rfl ?_
                        refine st_iadd dX11_test_122 ?_
                        refine st_putfi dX11_test_123 w_X11_223 (by first | with_reducible assumption | rfl) (by rfl) rfl rfl ?_
                        refine st_iconst dX11_test_126 ?_
                        refine st_istore_n (L' := [_, _, _, _, _]) dX11_test_127 (by decide) rfl rfl ?_
                        refine st_goto (tgt := 199) dX11_test_128 rfl ?_
                        refine st_goto (tgt := 9) dX11_test_199 rfl ?_
                        rw [show (q : Int) + 3 = ((q + 3 : Nat) : Int) by omega]
                        exact AW.le (atJ 22 2 3 V5 (Or.inl ⟨rfl, rfl⟩) (by omega) (by omega) P5 W5 K5 (R4'.tr R5)) (by simp [q_le])
                  · skip
                    exact absurd rfl d2
                · skip
                  exact absurd d1 (by decide)
              · rw [if_neg hand] at hT1
                by_cases hor : isWd f n q (chL 27) = true
                · rw [if_pos hor] at hT1
                  rw [hT1]
                  have hwl := wd_len hor
                  rw [ch27] at hwl
                  simp at hwl
                  rw [if_neg hand, if_pos hor]
                  refine st_iload_n dX11_test_73 rfl ?_
                  refine st_if_ne (tgt := 82) dX11_test_74 (by omega) rfl (fun d1 => ?_) (fun d1 => ?_)
                  · skip
                    exact absurd rfl d1
                  · refine st_iload dX11_test_77 rfl ?_
                    refine st_if_eq (tgt := 131) dX11_test_79 (by omega) rfl (fun d2 => ?_) (fun d2 => ?_)
                    · skip
                      exact absurd d2 (by decide)
                    · refine st_iload dX11_test_82 rfl ?_
                      refine st_if_eq (tgt := 93) dX11_test_84 (by omega) rfl (fun d3 => ?_) (fun d3 => ?_)
                      · skip
                        exact absurd d3 (by decide)
                      · refine st_aload_n dX11_test_87 rfl ?_
                        refine st_bipush dX11_test_88 (by decide) ?_
                        refine c_V1v (d' := d - 1) dX11_test_90 l_X11_308 k_X11_answers i_X11_answers (Or.inl ⟨_, _, _, _, _, (by first | with_reducible assumption | rfl), by rfl⟩) (by omega) (Nat.le_of_ble_eq_true rfl) (C_answers (x := 23) (by omega) P4 W4 hs K4 (by omega) (by omega) hm2 (Or.inr (Or.inr rfl))) (fun V5 N5 hx => ?_)
                        obtain ⟨rfl, R5, P5, W5, K5⟩ := hx
                        rw [hpop.2] at W5 K5
                        refine st_aload_n dX11_test_93 rfl ?_
                        refine st_iload_n dX11_test_94 rfl ?_
                        refine st_if_eq (tgt := 103) dX11_test_95 (by omega) rfl (fun d4 => ?_) (fun d4 => ?_)
                        · refine st_bipush dX11_test_103 (by decide) ?_
                          refine c_V1v (d' := d - 1) dX11_test_105 l_X11_299 k_X11_opens i_X11_opens (Or.inl ⟨_, _, _, _, _, (by first | with_reducible assumption | rfl), by rfl⟩) (by omega) (Nat.le_of_ble_eq_true rfl) (C_opensJ (x := 23) P5 W5 K5 (by omega) (Or.inr rfl)) (fun V6 N6 hx => ?_)
                          obtain ⟨rfl, R6, P6, W6, K6⟩ := hx
                          refine st_aload_n dX11_test_108 rfl ?_
                          refine st_dup dX11_test_109 rfl ?_
                          refine st_getfi dX11_test_110 f_X11_223 (by first | with_reducible assumption | rfl) (by rfl) ?_
                          rw [P6.2.2.1]
                          refine st_iload_n dX11_test_113 rfl ?_
                          refine st_if_eq (tgt := 121) dX11_test_114 (by omega) rfl (fun d5 => ?_) (fun d5 => ?_)
                          · refine st_iconst dX11_test_121 ?_
                            refine st_iadd dX11_test_122 ?_
                            refine st_putfi dX11_test_123 w_X11_223 (by first | with_reducible assumption | rfl) (by rfl) rfl rfl ?_
                            refine st_iconst dX11_test_126 ?_
                            refine st_istore_n (L' := [_, _, _, _, _]) dX11_test_127 (by decide) rfl rfl ?_
                            refine st_goto (tgt := 199) dX11_test_128 rfl ?_
                            refine st_goto (tgt := 9) dX11_test_199 rfl ?_
                            rw [show (q : Int) + 2 = ((q + 2 : Nat) : Int) by omega]
                            exact AW.le (atJ 23 1 2 V6 (Or.inr ⟨rfl, rfl⟩) (by omega) (by omega) P6 W6 K6 ((R4'.tr R5).tr R6)) (by simp [q_le])
                          · skip
                            exact absurd d5 (by decide)
                        · skip
                          exact absurd d4 (by decide)
                · rw [if_neg hor] at hT1
                  rw [hT1]
                  rw [if_neg hand, if_neg hor]
                  refine st_iload_n dX11_test_73 rfl ?_
                  refine st_if_ne (tgt := 82) dX11_test_74 (by omega) rfl (fun d1 => ?_) (fun d1 => ?_)
                  · skip
                    exact absurd rfl d1
                  · refine st_iload dX11_test_77 rfl ?_
                    refine st_if_eq (tgt := 131) dX11_test_79 (by omega) rfl (fun d2 => ?_) (fun d2 => ?_)
                    · refine st_aload_n dX11_test_131 rfl ?_
                      refine st_bipush dX11_test_132 (by decide) ?_
                      refine c_V1v (d' := d - 1) dX11_test_134 l_X11_308 k_X11_answers i_X11_answers (Or.inl ⟨_, _, _, _, _, (by first | with_reducible assumption | rfl), by rfl⟩) (by omega) (Nat.le_of_ble_eq_true rfl) (C_answers (x := 23) (by omega) P4 W4 hs K4 (by omega) (by omega) hm2 (Or.inr (Or.inr rfl))) (fun V5 N5 hx => ?_)
                      obtain ⟨rfl, R5, P5, W5, K5⟩ := hx
                      rw [hpop.2] at W5 K5
                      have R5' := R4'.tr R5
                      have hf5 : V5 132 = f := RS2.r132 R5' hf
                      have hbr := bytA_rng f n (q : Int)
                      refine st_aload_n dX11_test_137 rfl ?_
                      refine c_V0p (d' := d - 1) dX11_test_138 l_X11_295 k_X11_top i_X11_top (Or.inl ⟨_, _, _, _, _, (by first | with_reducible assumption | rfl), by rfl⟩) (by omega) (Nat.le_of_ble_eq_true rfl) (C_top K5 (by omega)) ?_
                      cases hK1 : (stl 1 K E).1 with
                      | nil =>
                        rw [hK1] at K5
                        rw [show topK [] = -1 from rfl]
                        refine st_bipush dX11_test_141 (by decide) ?_
                        refine st_icmp_ne (tgt := 197) dX11_test_143 (by omega) (by omega) rfl (fun d3 => ?_) (fun d3 => ?_)
                        · refine st_iconst dX11_test_197 ?_
                          refine st_istore_n (L' := [_, _, _, _, _]) dX11_test_198 (by decide) rfl rfl ?_
                          refine st_goto (tgt := 9) dX11_test_199 rfl ?_
                          refine st_iload_n dX11_test_9 rfl ?_
                          refine st_if_eq (tgt := 202) dX11_test_10 (by omega) rfl (fun d4 => ?_) (fun d4 => ?_)
                          · skip
                            refine r_v dX11_test_202 rfl ⟨rfl, R5', Or.inl ⟨_, _, _, rfl, P5, W5, K5.2.1⟩⟩
                          · skip
                            exact absurd rfl d4
                        · skip
                          omega
                      | cons y K2 =>
                        rw [hK1] at K5 hst1 hl23
                        have hy : y = 24 := lvl_0.1 (hst1.2.1 y rfl)
                        subst hy
                        rw [show topK (24 :: K2) = 12 from rfl]
                        simp only [List.length_cons] at hl23
                        obtain ⟨j1, j2, j3⟩ := K5
                        simp only [List.length_cons] at j1
                        rw [dK_c, if_pos (by omega)] at j2
                        refine st_bipush dX11_test_141 (by decide) ?_
                        refine st_icmp_ne (tgt := 197) dX11_test_143 (by omega) (by omega) rfl (fun d3 => ?_) (fun d3 => ?_)
                        · skip
                          exact absurd rfl d3
                        · refine st_aload_n dX11_test_146 rfl ?_
                          refine c_V0p (d' := d - 1) dX11_test_147 l_X11_226 k_X11_sign i_X11_sign (Or.inl ⟨_, _, _, _, _, (by first | with_reducible assumption | rfl), by rfl⟩) (by omega) (Nat.le_of_ble_eq_true rfl) (C_sign P5.1 hn4 P5.2.2.1 (by omega)) ?_
                          rw [hf5]
                          refine st_bipush dX11_test_150 (by decide) ?_
                          -- behind the bracket
                          have cl : ∀ V6 : q_Mem, V6 112 21 = (q : Int) → V6 112 28 = ((K2.length + 1 : Nat) : Int) → V6 112 26 = ((1 + dK K2 : Nat) : Int) → ∀ Q : q_Mem → q_MemL → Prop, AW0 G d m_X11_test 9 [some (.ref 112), some (I 0), some (I 1), none, none] [] (q_up (q_up (q_up V6 112 21 ((q + 1 : Nat) : Int)) 112 28 (K2.length : Int)) 112 26 (dK K2 : Int)) N5 (CN Q) → AW0 G d m_X11_test 164 [some (.ref 112), some (I 0), some (I 1), some (I 0), some (I 0)] [] V6 N5 (CN Q) := by
                            intro V6 g1 g2 g3 Q hA
                            refine st_aload_n dX11_test_164 rfl ?_
                            refine st_dup dX11_test_165 rfl ?_
                            refine st_getfi dX11_test_166 f_X11_223 (by first | with_reducible assumption | rfl) (by rfl) ?_
                            rw [g1]
                            refine st_iconst dX11_test_169 ?_
                            refine st_iadd dX11_test_170 ?_
                            refine st_putfi dX11_test_171 w_X11_223 (by first | with_reducible assumption | rfl) (by rfl) rfl rfl ?_
                            refine st_aload_n dX11_test_174 rfl ?_
                            refine st_dup dX11_test_175 rfl ?_
                            refine st_getfi dX11_test_176 f_X11_289 (by first | with_reducible assumption | rfl) (by rfl) ?_
                            rw [show q_up V6 112 21 ((q : Int) + 1) 112 28 = ((K2.length + 1 : Nat) : Int) by simp [q_up, g2]]
                            refine st_iconst dX11_test_179 ?_
                            refine st_isub dX11_test_180 ?_
                            refine st_putfi dX11_test_181 w_X11_289 (by first | with_reducible assumption | rfl) (by rfl) rfl rfl ?_
                            refine st_aload_n dX11_test_184 rfl ?_
                            refine st_dup dX11_test_185 rfl ?_
                            refine st_getfi dX11_test_186 f_X11_292 (by first | with_reducible assumption | rfl) (by rfl) ?_
                            rw [show q_up (q_up V6 112 21 ((q : Int) + 1)) 112 28 (((K2.length + 1 : Nat) : Int) - 1) 112 26 = ((1 + dK K2 : Nat) : Int) by simp [q_up, g3]]
                            refine st_iconst dX11_test_189 ?_
                            refine st_isub dX11_test_190 ?_
                            refine st_putfi dX11_test_191 w_X11_292 (by first | with_reducible assumption | rfl) (by rfl) rfl rfl ?_
                            refine st_goto (tgt := 199) dX11_test_194 rfl ?_
                            refine st_goto (tgt := 9) dX11_test_199 rfl ?_
                            refine AW.le (AW.to hA (h4 := ?_)) (by simp [q_le])
                            rw [show ((K2.length + 1 : Nat) : Int) - 1 = (K2.length : Int) by omega, show ((1 + dK K2 : Nat) : Int) - 1 = (dK K2 : Int) by omega, show ((q + 1 : Nat) : Int) = (q : Int) + 1 by omega]
                          dsimp only
                          by_cases h93 : bytA f n (q : Int) = 93
                          · rw [if_pos h93]
                            refine st_icmp_eq (tgt := 164) dX11_test_152 (by omega) (by omega) rfl (fun d5 => ?_) (fun d5 => ?_)
                            · skip
                              have hlt := byt_lt h93 (by decide)
                              refine cl V5 P5.2.2.1 j1 j2 _ ?_
                              have hI3 := (hI2.clo hK1 h93).1
                              have P6 := P5.up (q := q + 1) (by omega)
                              refine ih false (q + 1) c K2 (stl 1 K E).2 _ (by omega) ((P6.f23 (by decide)).f23 (by decide)) (((W5.fx (fx.up (by omega)) (Exc.up (by simp))).f26 (Or.inr rfl)).f26 (Or.inl rfl)) ?_ (R5'.tr (((RFk.up (by simp) (by simp)).tr (RFk.up (by simp) (by simp))).tr (RFk.up (by simp) (by simp)))) hI3
                              refine ⟨by simp [q_up], by simp [q_up], ?_⟩
                              rw [q_up_ne (by decide), q_up_ne (by decide), q_up_ne (by decide)]
                              exact j3.2
                            · skip
                              exact absurd h93 d5
                          · rw [if_neg h93]
                            refine st_icmp_eq (tgt := 164) dX11_test_152 (by omega) (by omega) rfl (fun d5 => ?_) (fun d5 => ?_)
                            · skip
                              exact absurd d5 h93
                            · refine st_aload_n dX11_test_155 rfl ?_
                              refine st_iconst dX11_test_156 ?_
                              refine st_aload_n dX11_test_157 rfl ?_
                              refine st_getfi dX11_test_158 f_X11_223 (by first | with_reducible assumption | rfl) (by rfl) ?_
                              rw [P5.2.2.1]
                              refine c_V2v (d' := d - 1) dX11_test_161 l_X11_259 k_X11_fails i_X11_fails (Or.inl ⟨_, _, _, _, _, (by first | with_reducible assumption | rfl), by rfl⟩) (by omega) (Nat.le_of_ble_eq_true rfl) (C_rfails (by rw [P5.2.2.2.2]; unfold i32; omega)) (fun V6 N6 hx => ?_)
                              obtain ⟨rfl, hM⟩ := hx
                              rw [P5.2.2.2.2, flt, if_pos rfl] at hM
                              have f6 : fx V5 V6 := by rw [hM]; exact fx.up (by omega)
                              have x6 : Exc [112] V5 V6 := by rw [hM]; exact Exc.up (by simp)
                              have W6 := W5.fx f6 x6
                              refine cl V6 (by rw [hM]; simp [q_up, P5.2.2.1]) (by rw [hM]; simp [q_up, j1]) (by rw [hM]; simp [q_up, j2]) _ ?_
                              refine out _ _ (1 + 8 * (q : Int)) _ _ _ ?_ ?_ (R5'.tr ((RS1.to (f6.rs x6)).tr (((RFk.up (by simp) (by simp)).tr (RFk.up (by simp) (by simp))).tr (RFk.up (by simp) (by simp))))) rfl
                              · rw [hM]
                                exact ⟨by simp [q_up, P5.1], hn4, by simp [q_up]; omega, by simp [q_up], by omega, by omega, by omega⟩
                              · exact (((W6.fx (fx.up (by omega)) (Exc.up (by simp))).f26 (Or.inr rfl)).f26 (Or.inl rfl)).ve (by omega) (by have := hI.2.2.2.1; omega)
                    · skip
                      exact absurd rfl d2
            · skip
              exact absurd rfl c3
  refine AC.of (L0 := [_, none, none, none, none]) pn_X11 (Nat.le_of_ble_eq_true rfl) rfl ?_
  refine st_aload_n dX11_test_0 rfl ?_
  refine st_iconst dX11_test_1 ?_
  refine st_putfi dX11_test_2 w_X11_289 (by first | with_reducible assumption | rfl) (by rfl) rfl rfl ?_
  refine st_iconst dX11_test_5 ?_
  refine st_istore_n (L' := [_, _, _, _, _]) dX11_test_6 (by decide) rfl rfl ?_
  refine st_iconst dX11_test_7 ?_
  refine st_istore_n (L' := [_, _, _, _, _]) dX11_test_8 (by decide) rfl rfl ?_
  refine AW.to (loop 401 true p c [] E (q_up V 112 28 0) (by omega) (hp.f23 (by decide)) (hV.f26 (Or.inr rfl)) ?_ (RFk.up (by simp) (by simp)) (by rw [if_pos rfl]; exact hI)) (h2 := rfl)
  exact ⟨by simp [q_up], by simp [q_up, h26, dK], trivial⟩


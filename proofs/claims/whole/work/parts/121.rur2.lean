/-! the reference reads a rule: values, terms, sums -/
def tyB (f : Nat → Int) (n : Nat) : Prop := ∀ j, j < n → -128 ≤ f j ∧ f j ≤ 127
theorem wsR_get : ∀ k, k < 11 → wsR.drop k = chL (rfW k) :: wsR.drop (k + 1) := by
  intro k hk
  have hc : k = 0 ∨ k = 1 ∨ k = 2 ∨ k = 3 ∨ k = 4 ∨ k = 5 ∨ k = 6 ∨ k = 7 ∨ k = 8 ∨ k = 9 ∨ k = 10 := by omega
  rcases hc with rfl | rfl | rfl | rfl | rfl | rfl | rfl | rfl | rfl | rfl | rfl <;> rfl
theorem rfW_lt {k : Nat} (hk : k < 11) : rfW k < q_nS := by
  show rfW k < 28
  unfold rfW
  split <;> omega
/-- how the reading of a part ends, at the reference -/
def rvQ (s n : Nat) (V : q_Mem) (r : PS) (V1 : q_Mem) : Prop := RS1 s V V1 ∧ ((∃ p1 c1 E1, r = .ok (p1, c1, E1) ∧ RP1 V1 n p1 ∧ VR s c1 E1 V1) ∨ ∃ F, r = .error F ∧ RE1 V1 n F ∧ VE s 100 V1)
theorem C_rvalue {G : q_G} {d : Nat} {V : q_Mem} {N : q_MemL} {f : Nat → Int} {s n p c : Nat} {E : List Int} (hd : 5 ≤ d) (hf : V 132 = f) (hb : tyB f n) (hp : RP1 V n p) (hV : VR s c E V) (hs : s ≤ 5) (hc : c ≤ 60) (hE : E.length < 300) : AC0 G d m_X11_value [.ref 112] V N (CN (fun V1 N1 => N1 = N ∧ rvQ s n V (valP f n p c E) V1)) := by
  have hp0 := hp
  obtain ⟨a, b, e, hpn, h22⟩ := hp
  have hsk := skip_le f n p
  have hqn := hsk.2.1 hpn
  refine AC.of (L0 := [_, none, none]) pn_X11 (Nat.le_of_ble_eq_true rfl) rfl ?_
  refine st_aload_n dX11_value_0 rfl ?_
  refine c_V0v (d' := d - 1) dX11_value_1 l_X11_243 k_X11_blanks i_X11_blanks (Or.inl ⟨_, _, _, _, _, (by first | with_reducible assumption | rfl), by rfl⟩) (by omega) (Nat.le_of_ble_eq_true rfl) (C_blanks (by omega) a b e (by omega)) (fun V1 N1 hx => ?_)
  obtain ⟨rfl, hM1⟩ := hx
  rw [hf] at hM1
  have P1 : RP1 V1 n (skip f n p) := by rw [hM1]; exact hp0.up hqn
  have f1 : fx V V1 := by rw [hM1]; exact fx.up (by omega)
  have E1 : Exc [112] V V1 := by rw [hM1]; exact Exc.up (by simp)
  have W1 : VR s c E V1 := hV.fx f1 E1
  have R1 : RS1 s V V1 := f1.rs E1
  have hf1 : V1 132 = f := R1.r132 hf
  unfold valP
  generalize skip f n p = q at *
  have hk := num_ok f n q
  have hlt := lets_le f n q
  refine st_aload_n dX11_value_4 rfl ?_
  refine st_getfi dX11_value_5 f_X11_223 (by first | with_reducible assumption | rfl) (by rfl) ?_
  rw [P1.2.2.1]
  refine st_istore_n (L' := [_, _, _]) dX11_value_8 (by decide) rfl rfl ?_
  refine st_aload_n dX11_value_9 rfl ?_
  refine c_V0p (d' := d - 1) dX11_value_10 l_X11_263 k_X11_isDigit i_X11_isDigit (Or.inl ⟨_, _, _, _, _, (by first | with_reducible assumption | rfl), by rfl⟩) (by omega) (Nat.le_of_ble_eq_true rfl) (C_isDigit (by omega) P1.1 b P1.2.2.1 (by omega)) ?_
  rw [hf1]
  refine b_eq (tgt := 36) dX11_value_13 rfl (fun c1 => ?_) (fun c1 => ?_)
  · refine st_iconst dX11_value_36 ?_
    refine st_istore_n (L' := [_, _, _]) dX11_value_37 (by decide) rfl rfl ?_
    rw [if_neg c1]
    have fin0 : findW f n q wsR 0 = -1 → AW0 G d m_X11_value 63 [some (.ref 112), some (I q), some (I ((11 : Nat) : Int))] [] V1 N1 (CN (fun V1 N2 => N2 = N1 ∧ rvQ s n V (if findW f n q wsR 0 = -1 then .error (1 + 8 * (q : Int)) else if c = 60 then .error (1 + 8 * (q : Int) + 3) else .ok (q + lets f n q, c + 1, E ++ [findW f n q wsR 0])) V1)) := by
      intro hw
      rw [if_pos hw]
      refine st_iload_n dX11_value_63 rfl ?_
      refine st_aload_n dX11_value_64 rfl ?_
      refine st_getfi dX11_value_65 f_X11_67 (by first | with_reducible assumption | rfl) (by rfl) ?_
      rw [W1.2.2.2.1]
      refine st_icmp_ne (tgt := 78) dX11_value_68 (by omega) (by omega) rfl (fun c2 => ?_) (fun c2 => ?_)
      · skip
        omega
      · refine st_aload_n dX11_value_71 rfl ?_
        refine st_iconst dX11_value_72 ?_
        refine st_iload_n dX11_value_73 rfl ?_
        refine c_V2v (d' := d - 1) dX11_value_74 l_X11_259 k_X11_fails i_X11_fails (Or.inl ⟨_, _, _, _, _, (by first | with_reducible assumption | rfl), by rfl⟩) (by omega) (Nat.le_of_ble_eq_true rfl) (C_rfailT (k := 0) P1 (by omega) (by omega)) (fun V2 N2 hx => ?_)
        obtain ⟨rfl, k1, k2, k3⟩ := hx
        refine r_v dX11_value_77 rfl ⟨rfl, R1.tr (k2.rs k1), Or.inr ⟨_, rfl, ?_, (W1.fx k2 k1).ve (by omega) (by omega)⟩⟩
        rw [show (1 + 8 * (q : Int)) = 1 + 8 * (q : Int) + ((0 : Nat) : Int) by omega]
        exact k3
    have fin1 : ∀ k : Nat, k < 11 → findW f n q wsR 0 = (k : Int) → isWd f n q (chL (rfW k)) = true → AW0 G d m_X11_value 63 [some (.ref 112), some (I q), some (I k)] [] V1 N1 (CN (fun V1 N2 => N2 = N1 ∧ rvQ s n V (if findW f n q wsR 0 = -1 then .error (1 + 8 * (q : Int)) else if c = 60 then .error (1 + 8 * (q : Int) + 3) else .ok (q + lets f n q, c + 1, E ++ [findW f n q wsR 0])) V1)) := by
      intro k hk hw hwd
      rw [hw, if_neg (by omega)]
      have hi := rfW_lt hk
      have hlen : lets f n q = q_len.getD (rfW k) 0 := by
        rw [← chL_len hi]
        exact ((isWd_iff.1 hwd).1).symm
      refine st_iload_n dX11_value_63 rfl ?_
      refine st_aload_n dX11_value_64 rfl ?_
      refine st_getfi dX11_value_65 f_X11_67 (by first | with_reducible assumption | rfl) (by rfl) ?_
      rw [W1.2.2.2.1]
      refine st_icmp_ne (tgt := 78) dX11_value_68 (by omega) (by omega) rfl (fun c2 => ?_) (fun c2 => ?_)
      · refine st_aload_n dX11_value_78 rfl ?_
        refine st_iload_n dX11_value_79 rfl ?_
        by_cases c60 : c = 60
        · subst c60
          rw [if_pos rfl]
          refine c_V1v (d' := d - 1) dX11_value_80 l_X11_270 k_X11_isCounted i_X11_isCounted (Or.inl ⟨_, _, _, _, _, (by first | with_reducible assumption | rfl), by rfl⟩) (by omega) (Nat.le_of_ble_eq_true rfl) (C_isCntF (by omega) P1 W1 (by omega)) (fun V2 N2 hx => ?_)
          obtain ⟨rfl, hV2, k3⟩ := hx
          have R2 : RS1 s V V2 := R1.tr (by rw [hV2]; exact (RFk.up (by simp) (by simp)).tr (RFk.up (by simp) (by simp)))
          have VE2 : VE s 100 V2 := by
            obtain ⟨z1, z2, z3, z4, -⟩ := W1
            rw [hV2]
            refine ⟨by simp [q_up, z1], by simp [q_up]; omega, by simp [q_up], by simp [q_up, z4]⟩
          have pq : V2 112 21 = (q : Int) := by rw [hV2]; simp [q_up, P1.2.2.1]
          refine st_aload_n dX11_value_83 rfl ?_
          refine st_dup dX11_value_84 rfl ?_
          refine st_getfi dX11_value_85 f_X11_223 (by first | with_reducible assumption | rfl) (by rfl) ?_
          rw [pq]
          refine st_iload_n dX11_value_88 rfl ?_
          refine c_S1p (d' := d - 1) dX11_value_89 l_X11_276 k_X11_wordOf s_X11_wordOf (by omega) (Nat.le_of_ble_eq_true rfl) (C_wordOf hk) ?_
          refine c_V0p (d' := d - 1) dX11_value_92 l_X11_234 k_J0_length_8abf5 i_J0_length_8abf5 (Or.inr ⟨_, (by first | with_reducible assumption | decide), rfl, rfl⟩) (by omega) (Nat.le_of_ble_eq_true rfl) (C_strlen (by omega) hi) ?_
          rw [← hlen]
          refine st_iadd dX11_value_95 ?_
          refine st_putfi dX11_value_96 w_X11_223 (by first | with_reducible assumption | rfl) (by rfl) rfl rfl ?_
          refine st_aload_n dX11_value_99 rfl ?_
          refine st_iconst dX11_value_100 ?_
          refine st_iload_n dX11_value_101 rfl ?_
          have K3 : RE1 (q_up V2 112 21 ((q : Int) + ((lets f n q : Nat) : Int))) n (1 + 8 * (q : Int) + 3) := k3.upp (by omega)
          refine c_V2v (d' := d - 1) dX11_value_102 l_X11_273 k_X11_entry i_X11_entry (Or.inl ⟨_, _, _, _, _, (by first | with_reducible assumption | rfl), by rfl⟩) (by omega) (Nat.le_of_ble_eq_true rfl) (C_entryE K3) (fun V3 N3 hx => ?_)
          obtain ⟨rfl, rfl⟩ := hx
          refine r_v dX11_value_105 rfl ⟨rfl, R2.tr (RFk.up (by simp) (by simp)), Or.inr ⟨_, rfl, K3, VE2.fx (fx.up (by omega))⟩⟩
        · rw [if_neg c60]
          refine c_V1v (d' := d - 1) dX11_value_80 l_X11_270 k_X11_isCounted i_X11_isCounted (Or.inl ⟨_, _, _, _, _, (by first | with_reducible assumption | rfl), by rfl⟩) (by omega) (Nat.le_of_ble_eq_true rfl) (C_isCnt W1 (by omega)) (fun V2 N2 hx => ?_)
          obtain ⟨rfl, hV2⟩ := hx
          have R2 : RS1 s V V2 := R1.tr (by rw [hV2]; exact RFk.up (by simp) (by simp))
          have P2 : RP1 V2 n q := by rw [hV2]; exact P1.f23 (by decide)
          have W2 : VR s (c + 1) E V2 := by rw [hV2]; exact W1.cnt
          refine st_aload_n dX11_value_83 rfl ?_
          refine st_dup dX11_value_84 rfl ?_
          refine st_getfi dX11_value_85 f_X11_223 (by first | with_reducible assumption | rfl) (by rfl) ?_
          rw [P2.2.2.1]
          refine st_iload_n dX11_value_88 rfl ?_
          refine c_S1p (d' := d - 1) dX11_value_89 l_X11_276 k_X11_wordOf s_X11_wordOf (by omega) (Nat.le_of_ble_eq_true rfl) (C_wordOf hk) ?_
          refine c_V0p (d' := d - 1) dX11_value_92 l_X11_234 k_J0_length_8abf5 i_J0_length_8abf5 (Or.inr ⟨_, (by first | with_reducible assumption | decide), rfl, rfl⟩) (by omega) (Nat.le_of_ble_eq_true rfl) (C_strlen (by omega) hi) ?_
          rw [← hlen]
          refine st_iadd dX11_value_95 ?_
          refine st_putfi dX11_value_96 w_X11_223 (by first | with_reducible assumption | rfl) (by rfl) rfl rfl ?_
          refine st_aload_n dX11_value_99 rfl ?_
          refine st_iconst dX11_value_100 ?_
          refine st_iload_n dX11_value_101 rfl ?_
          rw [show (q : Int) + ((lets f n q : Nat) : Int) = ((q + lets f n q : Nat) : Int) by omega]
          have P3 : RP1 (q_up V2 112 21 ((q + lets f n q : Nat) : Int)) n (q + lets f n q) := P2.up (by omega)
          refine c_V2v (d' := d - 1) dX11_value_102 l_X11_273 k_X11_entry i_X11_entry (Or.inl ⟨_, _, _, _, _, (by first | with_reducible assumption | rfl), by rfl⟩) (by omega) (Nat.le_of_ble_eq_true rfl) (C_entry (x := (k : Int)) P3 (W2.fx (fx.up (by omega)) (Exc.up (by simp))) hs hE (Or.inr (Or.inl ⟨by omega, rfl, rfl⟩))) (fun V3 N3 hx => ?_)
          obtain ⟨rfl, k1, k2, k3⟩ := hx
          refine r_v dX11_value_105 rfl ⟨rfl, R2.tr ((RFk.up (by simp) (by simp)).tr k1), Or.inl ⟨_, _, _, rfl, k2, k3⟩⟩
      · skip
        omega
    have lp : ∀ m k : Nat, k + m = 11 → findW f n q (wsR.drop k) k = findW f n q wsR 0 → AW0 G d m_X11_value 38 [some (.ref 112), some (I q), some (I k)] [] V1 N1 (CN (fun V1 N2 => N2 = N1 ∧ rvQ s n V (if findW f n q wsR 0 = -1 then .error (1 + 8 * (q : Int)) else if c = 60 then .error (1 + 8 * (q : Int) + 3) else .ok (q + lets f n q, c + 1, E ++ [findW f n q wsR 0])) V1)) := by
      intro m
      induction m with
      | zero =>
        intro k hk hF
        have hk6 : k = 11 := by omega
        subst hk6
        refine st_iload_n dX11_value_38 rfl ?_
        refine st_aload_n dX11_value_39 rfl ?_
        refine st_getfi dX11_value_40 f_X11_67 (by first | with_reducible assumption | rfl) (by rfl) ?_
        rw [W1.2.2.2.1]
        refine st_icmp_ge (tgt := 63) dX11_value_43 (by omega) (by omega) rfl (fun c2 => ?_) (fun c2 => ?_)
        · skip
          exact fin0 (by rw [← hF]; rfl)
        · skip
          omega
      | succ m ih =>
        intro k hk hF
        have hk11 : k < 11 := by omega
        rw [wsR_get k hk11] at hF
        unfold findW at hF
        have hi := rfW_lt hk11
        refine st_iload_n dX11_value_38 rfl ?_
        refine st_aload_n dX11_value_39 rfl ?_
        refine st_getfi dX11_value_40 f_X11_67 (by first | with_reducible assumption | rfl) (by rfl) ?_
        rw [W1.2.2.2.1]
        refine st_icmp_ge (tgt := 63) dX11_value_43 (by omega) (by omega) rfl (fun c2 => ?_) (fun c2 => ?_)
        · skip
          omega
        · refine st_aload_n dX11_value_46 rfl ?_
          refine st_iload_n dX11_value_47 rfl ?_
          refine c_S1p (d' := d - 1) dX11_value_48 l_X11_276 k_X11_wordOf s_X11_wordOf (by omega) (Nat.le_of_ble_eq_true rfl) (C_wordOf hk11) ?_
          refine c_V1p (d' := d - 1) dX11_value_51 l_X11_246 k_X11_stood i_X11_stood (Or.inl ⟨_, _, _, _, _, (by first | with_reducible assumption | rfl), by rfl⟩) (by omega) (Nat.le_of_ble_eq_true rfl) (C_stood (by omega) hi P1.1 b P1.2.2.1 (by omega) (by rw [hf1]; exact hb)) ?_
          rw [hf1]
          refine b_ne (tgt := 63) dX11_value_54 rfl (fun c3 => ?_) (fun c3 => ?_)
          · rw [if_pos c3] at hF
            exact fin1 k hk11 hF.symm c3
          · rw [if_neg c3] at hF
            refine st_iinc (L' := [_, _, _]) dX11_value_57 rfl (by decide) rfl rfl ?_
            refine st_goto (tgt := 38) dX11_value_60 rfl ?_
            exact AW.to (ih (k + 1) (by omega) hF) (h2 := by simp)
    exact AW.to (lp 11 0 (by omega) rfl) (h2 := by simp)
  · refine st_aload_n dX11_value_16 rfl ?_
    refine st_ldcw dX11_value_17 l_X11_266 ?_
    rw [if_pos c1]
    refine AW.topv (show _ = I 99999 from rfl) ?_
    refine c_V1i (d' := d - 1) dX11_value_20 l_X11_267 k_X11_digits i_X11_digits (Or.inl ⟨_, _, _, _, _, (by first | with_reducible assumption | rfl), by rfl⟩) (by omega) (Nat.le_of_ble_eq_true rfl) (C_digits (by omega) P1.1 b P1.2.2.1 (by omega) P1.2.2.2.2) (fun x V2 N2 hx => ?_)
    obtain ⟨rfl, hM2, rfl, hdg⟩ := hx
    rw [hf1] at hM2 hdg
    rw [hf1]
    have f2 : fx V1 V2 := by rw [hM2]; exact (fx.up (by omega)).tr (fx.up (by omega))
    have E2 : Exc [112] V1 V2 := by rw [hM2]; exact (Exc.up (by simp)).tr (Exc.up (by simp))
    have R2 : RS1 s V V2 := R1.tr (f2.rs E2)
    have W2 : VR s c E V2 := W1.fx f2 E2
    have hFr := numF_rng (f := f) (n := n) (q := q) (lo := 0) (hi := 99999) (by omega)
    by_cases h0 : numF f n q 0 99999 = 0
    · rw [if_pos h0]
      have P2 : RP1 V2 n (q + numK f n q) := by
        rw [hM2, h0]
        exact ⟨by simp [q_up, P1.1], b, by simp [q_up], by omega, by simp [q_up]⟩
      refine st_istore_n (L' := [_, _, _]) dX11_value_23 (by decide) rfl rfl ?_
      refine st_aload_n dX11_value_24 rfl ?_
      refine st_iload_n dX11_value_25 rfl ?_
      by_cases c60 : c = 60
      · subst c60
        rw [if_pos rfl]
        refine c_V1v (d' := d - 1) dX11_value_26 l_X11_270 k_X11_isCounted i_X11_isCounted (Or.inl ⟨_, _, _, _, _, (by first | with_reducible assumption | rfl), by rfl⟩) (by omega) (Nat.le_of_ble_eq_true rfl) (C_isCntF (by omega) P2 W2 (by omega)) (fun V3 N3 hx => ?_)
        obtain ⟨rfl, hV3, k3⟩ := hx
        have VE2 : VE s 100 V3 := by
          obtain ⟨z1, z2, z3, z4, -⟩ := W2
          rw [hV3]
          refine ⟨by simp [q_up, z1], by simp [q_up]; omega, by simp [q_up], by simp [q_up, z4]⟩
        refine st_aload_n dX11_value_29 rfl ?_
        refine st_iconst dX11_value_30 ?_
        refine st_iload_n dX11_value_31 rfl ?_
        refine c_V2v (d' := d - 1) dX11_value_32 l_X11_273 k_X11_entry i_X11_entry (Or.inl ⟨_, _, _, _, _, (by first | with_reducible assumption | rfl), by rfl⟩) (by omega) (Nat.le_of_ble_eq_true rfl) (C_entryE k3) (fun V4 N4 hx => ?_)
        obtain ⟨rfl, rfl⟩ := hx
        refine r_v dX11_value_35 rfl ⟨rfl, R2.tr (by rw [hV3]; exact (RFk.up (by simp) (by simp)).tr (RFk.up (by simp) (by simp))), Or.inr ⟨_, rfl, k3, VE2⟩⟩
      · rw [if_neg c60]
        refine c_V1v (d' := d - 1) dX11_value_26 l_X11_270 k_X11_isCounted i_X11_isCounted (Or.inl ⟨_, _, _, _, _, (by first | with_reducible assumption | rfl), by rfl⟩) (by omega) (Nat.le_of_ble_eq_true rfl) (C_isCnt W2 (by omega)) (fun V3 N3 hx => ?_)
        obtain ⟨rfl, hV3⟩ := hx
        have R3 : RS1 s V V3 := R2.tr (by rw [hV3]; exact RFk.up (by simp) (by simp))
        have P3 : RP1 V3 n (q + numK f n q) := by rw [hV3]; exact P2.f23 (by decide)
        have W3 : VR s (c + 1) E V3 := by rw [hV3]; exact W2.cnt
        refine st_aload_n dX11_value_29 rfl ?_
        refine st_iconst dX11_value_30 ?_
        refine st_iload_n dX11_value_31 rfl ?_
        refine c_V2v (d' := d - 1) dX11_value_32 l_X11_273 k_X11_entry i_X11_entry (Or.inl ⟨_, _, _, _, _, (by first | with_reducible assumption | rfl), by rfl⟩) (by omega) (Nat.le_of_ble_eq_true rfl) (C_entry (x := 32 + numV f n q) P3 W3 hs hE (Or.inl ⟨by omega, rfl, by omega⟩)) (fun V4 N4 hx => ?_)
        obtain ⟨rfl, k1, k2, k3⟩ := hx
        refine r_v dX11_value_35 rfl ⟨rfl, R3.tr k1, Or.inl ⟨_, _, _, rfl, k2, k3⟩⟩
    · rw [if_neg h0]
      have P2 : RE1 V2 n (numF f n q 0 99999) := by
        rw [hM2]
        exact ⟨by simp [q_up, P1.1], b, by simp [q_up]; omega, by simp [q_up], h0, hFr.2⟩
      have VE2 : VE s 90 V2 := W2.ve (by omega) (by omega)
      refine st_istore_n (L' := [_, _, _]) dX11_value_23 (by decide) rfl rfl ?_
      refine st_aload_n dX11_value_24 rfl ?_
      refine st_iload_n dX11_value_25 rfl ?_
      refine c_V1v (d' := d - 1) dX11_value_26 l_X11_270 k_X11_isCounted i_X11_isCounted (Or.inl ⟨_, _, _, _, _, (by first | with_reducible assumption | rfl), by rfl⟩) (by omega) (Nat.le_of_ble_eq_true rfl) (C_isCntE (by omega) P2 VE2 (by omega)) (fun V3 N3 hx => ?_)
      obtain ⟨rfl, hV3⟩ := hx
      have P3 : RE1 V3 n (numF f n q 0 99999) := by rw [hV3]; exact P2.f23 (by decide)
      refine st_aload_n dX11_value_29 rfl ?_
      refine st_iconst dX11_value_30 ?_
      refine st_iload_n dX11_value_31 rfl ?_
      refine c_V2v (d' := d - 1) dX11_value_32 l_X11_273 k_X11_entry i_X11_entry (Or.inl ⟨_, _, _, _, _, (by first | with_reducible assumption | rfl), by rfl⟩) (by omega) (Nat.le_of_ble_eq_true rfl) (C_entryE P3) (fun V4 N4 hx => ?_)
      obtain ⟨rfl, rfl⟩ := hx
      refine r_v dX11_value_35 rfl ⟨rfl, R2.tr (by rw [hV3]; exact RFk.up (by simp) (by simp)), Or.inr ⟨_, rfl, P3, by rw [hV3]; exact VE2.cnt.mono (by omega)⟩⟩
/-- the same in a fault -/
theorem C_rvalueE {G : q_G} {d : Nat} {V : q_Mem} {N : q_MemL} {f : Nat → Int} {s n : Nat} {F k : Int} (hd : 5 ≤ d) (hf : V 132 = f) (hb : tyB f n) (hp : RE1 V n F) (hV : VE s k V) (hk : k ≤ 40000) : AC0 G d m_X11_value [.ref 112] V N (CN (fun V1 N1 => N1 = N ∧ RS1 s V V1 ∧ RE1 V1 n F ∧ VE s (k + 1) V1)) := by
  have hn4 := hp.2.1
  refine AC.of (L0 := [_, none, none]) pn_X11 (Nat.le_of_ble_eq_true rfl) rfl ?_
  refine st_aload_n dX11_value_0 rfl ?_
  refine c_V0v (d' := d - 1) dX11_value_1 l_X11_243 k_X11_blanks i_X11_blanks (Or.inl ⟨_, _, _, _, _, (by first | with_reducible assumption | rfl), by rfl⟩) (by omega) (Nat.le_of_ble_eq_true rfl) (C_rblanksE (by omega) hp) (fun V1 N1 hx => ?_)
  obtain ⟨rfl, E1, f1, P1⟩ := hx
  have W1 : VE s k V1 := hV.fx f1
  have R1 : RS1 s V V1 := f1.rs E1
  have hf1 : V1 132 = f := R1.r132 hf
  obtain ⟨q, hq⟩ : ∃ q : Nat, V1 112 21 = (q : Int) := ⟨(V1 112 21).toNat, by have := P1.2.2.1; omega⟩
  have hq4 : q ≤ 400 := by have := P1.2.2.1; omega
  refine st_aload_n dX11_value_4 rfl ?_
  refine st_getfi dX11_value_5 f_X11_223 (by first | with_reducible assumption | rfl) (by rfl) ?_
  rw [hq]
  refine st_istore_n (L' := [_, _, _]) dX11_value_8 (by decide) rfl rfl ?_
  refine st_aload_n dX11_value_9 rfl ?_
  refine c_V0p (d' := d - 1) dX11_value_10 l_X11_263 k_X11_isDigit i_X11_isDigit (Or.inl ⟨_, _, _, _, _, (by first | with_reducible assumption | rfl), by rfl⟩) (by omega) (Nat.le_of_ble_eq_true rfl) (C_isDigit (by omega) P1.1 hn4 hq (by omega)) ?_
  rw [hf1]
  refine b_eq (tgt := 36) dX11_value_13 rfl (fun c1 => ?_) (fun c1 => ?_)
  · refine st_iconst dX11_value_36 ?_
    refine st_istore_n (L' := [_, _, _]) dX11_value_37 (by decide) rfl rfl ?_
    have fin : ∀ k2 : Nat, k2 ≤ 11 → (k2 < 11 → isWd f n q (chL (rfW k2)) = true) → AW0 G d m_X11_value 63 [some (.ref 112), some (I q), some (I k2)] [] V1 N1 (CN (fun V1 N2 => N2 = N1 ∧ RS1 s V V1 ∧ RE1 V1 n F ∧ VE s (k + 1) V1)) := by
      intro k2 hk2 hw
      refine st_iload_n dX11_value_63 rfl ?_
      refine st_aload_n dX11_value_64 rfl ?_
      refine st_getfi dX11_value_65 f_X11_67 (by first | with_reducible assumption | rfl) (by rfl) ?_
      rw [W1.2.2.2]
      refine st_icmp_ne (tgt := 78) dX11_value_68 (by omega) (by omega) rfl (fun c2 => ?_) (fun c2 => ?_)
      · refine st_aload_n dX11_value_78 rfl ?_
        refine st_iload_n dX11_value_79 rfl ?_
        have hk3 : k2 < 11 := by omega
        have hi := rfW_lt hk3
        have hwd := wd_len (hw hk3)
        have hl := chL_len hi
        refine c_V1v (d' := d - 1) dX11_value_80 l_X11_270 k_X11_isCounted i_X11_isCounted (Or.inl ⟨_, _, _, _, _, (by first | with_reducible assumption | rfl), by rfl⟩) (by omega) (Nat.le_of_ble_eq_true rfl) (C_isCntE (by omega) P1 W1 (by omega)) (fun V2 N2 hx => ?_)
        obtain ⟨rfl, hV2⟩ := hx
        have R2 : RS1 s V V2 := R1.tr (by rw [hV2]; exact RFk.up (by simp) (by simp))
        have P2 : RE1 V2 n F := by rw [hV2]; exact P1.f23 (by decide)
        have W2 : VE s (k + 1) V2 := by rw [hV2]; exact W1.cnt
        have q2 : V2 112 21 = (q : Int) := by rw [hV2]; simp [q_up, hq]
        refine st_aload_n dX11_value_83 rfl ?_
        refine st_dup dX11_value_84 rfl ?_
        refine st_getfi dX11_value_85 f_X11_223 (by first | with_reducible assumption | rfl) (by rfl) ?_
        rw [q2]
        refine st_iload_n dX11_value_88 rfl ?_
        refine c_S1p (d' := d - 1) dX11_value_89 l_X11_276 k_X11_wordOf s_X11_wordOf (by omega) (Nat.le_of_ble_eq_true rfl) (C_wordOf hk3) ?_
        refine c_V0p (d' := d - 1) dX11_value_92 l_X11_234 k_J0_length_8abf5 i_J0_length_8abf5 (Or.inr ⟨_, (by first | with_reducible assumption | decide), rfl, rfl⟩) (by omega) (Nat.le_of_ble_eq_true rfl) (C_strlen (by omega) hi) ?_
        refine st_iadd dX11_value_95 ?_
        refine st_putfi dX11_value_96 w_X11_223 (by first | with_reducible assumption | rfl) (by rfl) rfl rfl ?_
        refine st_aload_n dX11_value_99 rfl ?_
        refine st_iconst dX11_value_100 ?_
        refine st_iload_n dX11_value_101 rfl ?_
        have P3 : RE1 (q_up V2 112 21 ((q : Int) + ((q_len.getD (rfW k2) 0 : Nat) : Int))) n F := P2.upp (by omega)
        refine c_V2v (d' := d - 1) dX11_value_102 l_X11_273 k_X11_entry i_X11_entry (Or.inl ⟨_, _, _, _, _, (by first | with_reducible assumption | rfl), by rfl⟩) (by omega) (Nat.le_of_ble_eq_true rfl) (C_entryE P3) (fun V3 N3 hx => ?_)
        obtain ⟨rfl, rfl⟩ := hx
        refine r_v dX11_value_105 rfl ⟨rfl, R2.tr (RFk.up (by simp) (by simp)), P3, W2.fx (fx.up (by omega))⟩
      · refine st_aload_n dX11_value_71 rfl ?_
        refine st_iconst dX11_value_72 ?_
        refine st_iload_n dX11_value_73 rfl ?_
        refine c_V2v (d' := d - 1) dX11_value_74 l_X11_259 k_X11_fails i_X11_fails (Or.inl ⟨_, _, _, _, _, (by first | with_reducible assumption | rfl), by rfl⟩) (by omega) (Nat.le_of_ble_eq_true rfl) (C_rfailE P1) (fun V2 N2 hx => ?_)
        obtain ⟨rfl, rfl⟩ := hx
        refine r_v dX11_value_77 rfl ⟨rfl, R1, P1, W1.mono (by omega)⟩
    have lp : ∀ m k2 : Nat, k2 + m = 11 → AW0 G d m_X11_value 38 [some (.ref 112), some (I q), some (I k2)] [] V1 N1 (CN (fun V1 N2 => N2 = N1 ∧ RS1 s V V1 ∧ RE1 V1 n F ∧ VE s (k + 1) V1)) := by
      intro m
      induction m with
      | zero =>
        intro k2 hk
        refine st_iload_n dX11_value_38 rfl ?_
        refine st_aload_n dX11_value_39 rfl ?_
        refine st_getfi dX11_value_40 f_X11_67 (by first | with_reducible assumption | rfl) (by rfl) ?_
        rw [W1.2.2.2]
        refine st_icmp_ge (tgt := 63) dX11_value_43 (by omega) (by omega) rfl (fun c2 => ?_) (fun c2 => ?_)
        · skip
          exact fin k2 (by omega) (fun z => by omega)
        · skip
          omega
      | succ m ih =>
        intro k2 hk
        have hk11 : k2 < 11 := by omega
        have hi := rfW_lt hk11
        refine st_iload_n dX11_value_38 rfl ?_
        refine st_aload_n dX11_value_39 rfl ?_
        refine st_getfi dX11_value_40 f_X11_67 (by first | with_reducible assumption | rfl) (by rfl) ?_
        rw [W1.2.2.2]
        refine st_icmp_ge (tgt := 63) dX11_value_43 (by omega) (by omega) rfl (fun c2 => ?_) (fun c2 => ?_)
        · skip
          omega
        · refine st_aload_n dX11_value_46 rfl ?_
          refine st_iload_n dX11_value_47 rfl ?_
          refine c_S1p (d' := d - 1) dX11_value_48 l_X11_276 k_X11_wordOf s_X11_wordOf (by omega) (Nat.le_of_ble_eq_true rfl) (C_wordOf hk11) ?_
          refine c_V1p (d' := d - 1) dX11_value_51 l_X11_246 k_X11_stood i_X11_stood (Or.inl ⟨_, _, _, _, _, (by first | with_reducible assumption | rfl), by rfl⟩) (by omega) (Nat.le_of_ble_eq_true rfl) (C_stood (by omega) hi P1.1 hn4 hq (by omega) (by rw [hf1]; exact hb)) ?_
          rw [hf1]
          refine b_ne (tgt := 63) dX11_value_54 rfl (fun c3 => ?_) (fun c3 => ?_)
          · exact fin k2 (by omega) (fun _ => c3)
          · refine st_iinc (L' := [_, _, _]) dX11_value_57 rfl (by decide) rfl rfl ?_
            refine st_goto (tgt := 38) dX11_value_60 rfl ?_
            exact AW.to (ih (k2 + 1) (by omega)) (h2 := by simp)
    exact AW.to (lp 11 0 (by omega)) (h2 := by simp)
  · refine st_aload_n dX11_value_16 rfl ?_
    refine st_ldcw dX11_value_17 l_X11_266 ?_
    refine AW.topv (show _ = I 99999 from rfl) ?_
    refine c_V1i (d' := d - 1) dX11_value_20 l_X11_267 k_X11_digits i_X11_digits (Or.inl ⟨_, _, _, _, _, (by first | with_reducible assumption | rfl), by rfl⟩) (by omega) (Nat.le_of_ble_eq_true rfl) (C_digitsE (by omega) P1) (fun x V2 N2 hx => ?_)
    obtain ⟨rfl, ⟨z, rfl, hz⟩, E2, f2, P2⟩ := hx
    have W2 : VE s k V2 := W1.fx f2
    refine st_istore_n (L' := [_, _, _]) dX11_value_23 (by decide) rfl rfl ?_
    refine st_aload_n dX11_value_24 rfl ?_
    refine st_iload_n dX11_value_25 rfl ?_
    refine c_V1v (d' := d - 1) dX11_value_26 l_X11_270 k_X11_isCounted i_X11_isCounted (Or.inl ⟨_, _, _, _, _, (by first | with_reducible assumption | rfl), by rfl⟩) (by omega) (Nat.le_of_ble_eq_true rfl) (C_isCntE (by omega) P2 W2 (by omega)) (fun V3 N3 hx => ?_)
    obtain ⟨rfl, hV3⟩ := hx
    have P3 : RE1 V3 n F := by rw [hV3]; exact P2.f23 (by decide)
    refine st_aload_n dX11_value_29 rfl ?_
    refine st_iconst dX11_value_30 ?_
    refine st_iload_n dX11_value_31 rfl ?_
    refine c_V2v (d' := d - 1) dX11_value_32 l_X11_273 k_X11_entry i_X11_entry (Or.inl ⟨_, _, _, _, _, (by first | with_reducible assumption | rfl), by rfl⟩) (by omega) (Nat.le_of_ble_eq_true rfl) (C_entryE P3) (fun V4 N4 hx => ?_)
    obtain ⟨rfl, rfl⟩ := hx
    refine r_v dX11_value_35 rfl ⟨rfl, (R1.tr (f2.rs E2)).tr (by rw [hV3]; exact RFk.up (by simp) (by simp)), P3, by rw [hV3]; exact W2.cnt⟩


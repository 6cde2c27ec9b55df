/-! the reference reads a house: all of it -/
theorem wsH_get : ∀ k, k < 6 → wsH.drop k = chL (6 + k) :: wsH.drop (k + 1) := by decide +kernel
theorem RP1.st {V : q_Mem} {n p q : Nat} (h : RP1 V n p) (hq : q ≤ n) : RP1 (q_up V 112 21 (q : Int)) n q := h.up hq
theorem C_rfailT {G : q_G} {d : Nat} {V : q_Mem} {N : q_MemL} {n p q k : Nat} (h : RP1 V n p) (hq : q ≤ 400) (hk : k < 8) : AC0 G d m_X11_fails [.ref 112, I k, I q] V N (CN (fun V1 N1 => N1 = N ∧ Exc [112] V V1 ∧ fx V V1 ∧ RE1 V1 n (1 + 8 * (q : Int) + (k : Int)))) := by
  obtain ⟨a, b, c, e, f⟩ := h
  refine AC.mono (fun v S' M' N' hq => ?_) (C_rfails (G := G) (d := d) (N := N) (a := (q : Int)) (k := (k : Int)) (M := V) (by rw [f]; unfold i32; omega))
  obtain ⟨hS, hv, hN, hM⟩ := hq
  rw [f, flt, if_pos rfl] at hM
  refine ⟨hS, hv, hN, by rw [hM]; exact Exc.up (by simp), by rw [hM]; exact fx.up (by simp), ?_⟩
  rw [hM]
  exact ⟨by simp [q_up, a], b, by simp [q_up]; omega, by simp [q_up], by omega, by omega, by omega⟩
theorem HR.excV {X : List Nat} {B V V1 : q_Mem} (h : HR B V) (hE : Exc X V V1) (hX : ∀ a, a ∈ X → a ∉ [125, 126, 127, 128, 129, 130, 131]) : HR B V1 := by
  have e : ∀ a, a ∈ [125, 126, 127, 128, 129, 130, 131] → V1 a = V a := fun a ha => hE a (fun z => hX a z ha)
  unfold HR at *
  rw [e 125 (by simp), e 126 (by simp), e 127 (by simp), e 128 (by simp), e 129 (by simp), e 130 (by simp), e 131 (by simp)]
  exact h
theorem HR.excB {X : List Nat} {B B1 V : q_Mem} (h : HR B V) (hE : Exc X B B1) (hX : ∀ a, a ∈ X → a ∉ [10, 11, 12, 13, 14]) : HR B1 V := by
  have e : ∀ a, a ∈ [10, 11, 12, 13, 14] → B1 a = B a := fun a ha => hE a (fun z => hX a z ha)
  unfold HR at *
  rw [e 10 (by simp), e 11 (by simp), e 12 (by simp), e 13 (by simp), e 14 (by simp)]
  exact h
theorem C_rclause {G : q_G} {d : Nat} {B V : q_Mem} {N : q_MemL} {n p c : Nat} (hd : 6 ≤ d) (hB : TP B n p) (hV : RP1 V n p) (ht : tb B V n) (hI : HI c B) (hR : HR B V) (hc : c ≤ 40) : AC0 G d m_X11_houseClause [.ref 112, I c] V N (CN (fun V1 N1 => N1 = N ∧ hpQ [112, 125, 126, 127, 128, 129, 130, 131] n (hCl n c B) V V1)) := by
  have hcg : ∀ j, j < n → V 132 j = B 2 j := fun j hj => (ht j hj).1
  have hp : (B 1 2).toNat = p := by have := hB.2.2.1; omega
  have hs := skip_le (B 2) n p
  have hl := lets_le (B 2) n (skip (B 2) n p)
  have hV0 := hV
  obtain ⟨a, b, c', e, f⟩ := hV
  have hq2 := hs.2.1 e
  unfold hCl
  rw [hp]
  refine AC.of (L0 := [_, _, none, none]) pn_X11 (Nat.le_of_ble_eq_true rfl) rfl ?_
  refine st_aload_n dX11_houseClause_0 rfl ?_
  refine c_V0v (d' := d - 1) dX11_houseClause_1 l_X11_243 k_X11_blanks i_X11_blanks (Or.inl ⟨_, _, _, _, _, (by first | with_reducible assumption | rfl), by rfl⟩) (by omega) (Nat.le_of_ble_eq_true rfl) (C_blanks (by omega) a b c' (by omega)) (fun V1 N1 hx => ?_)
  obtain ⟨rfl, hV1⟩ := hx
  rw [skip_congr hcg] at hV1
  generalize hqq : skip (B 2) n p = q at *
  have hT1 : RP1 V1 n q := by rw [hV1]; exact hV0.up hq2
  have hE1 : Exc [112] V V1 := by rw [hV1]; exact Exc.up (by simp)
  have hf1 : fx V V1 := by rw [hV1]; exact fx.up (by simp)
  have hb1 : ∀ j, j < n → -128 ≤ V1 132 j ∧ V1 132 j ≤ 127 := fun j hj => by rw [hE1 132 (by simp), hcg j hj]; exact (ht j hj).2
  have hW : ∀ w, isWd (V1 132) n q w = isWd (B 2) n q w := fun w => by rw [hE1 132 (by simp)]; exact isWd_congr hcg q w
  -- behind the words
  have fin0 : findW (B 2) n q wsH 0 = -1 → AW0 G d m_X11_houseClause 34 [some (.ref 112), some (I c), some (I q), some (I 6)] [] V1 N1 (CN (fun V1 N2 => N2 = N1 ∧ hpQ [112, 125, 126, 127, 128, 129, 130, 131] n (if findW (B 2) n q wsH 0 = -1 then .error (1 + 8 * (q : Int)) else if hAm B (findW (B 2) n q wsH 0) c = true then .error (1 + 8 * (q : Int) + 4) else hRest n (findW (B 2) n q wsH 0) (q_up B 1 2 ((q + lets (B 2) n q : Nat) : Int))) V V1)) := by
    intro h0
    rw [if_pos h0]
    refine st_iload_n dX11_houseClause_34 rfl ?_
    refine st_bipush dX11_houseClause_35 (by decide) ?_
    refine st_icmp_ne (tgt := 47) dX11_houseClause_37 (by omega) (by omega) rfl (fun c1 => ?_) (fun c1 => ?_)
    · skip
      omega
    · refine st_aload_n dX11_houseClause_40 rfl ?_
      refine st_iconst dX11_houseClause_41 ?_
      refine st_iload_n dX11_houseClause_42 rfl ?_
      refine c_V2v (d' := d - 1) dX11_houseClause_43 l_X11_259 k_X11_fails i_X11_fails (Or.inl ⟨_, _, _, _, _, (by first | with_reducible assumption | rfl), by rfl⟩) (by omega) (Nat.le_of_ble_eq_true rfl) (C_rfailT (k := 0) hT1 (by omega) (by omega)) (fun V2 N2 hx => ?_)
      obtain ⟨rfl, k1, k2, k3⟩ := hx
      refine r_v dX11_houseClause_46 rfl ⟨rfl, (hE1.sub (by simp)).tr (k1.sub (by simp)), hf1.tr k2, Or.inr ⟨_, rfl, ?_⟩⟩
      exact (show (1 + 8 * (q : Int) + ((0 : Nat) : Int)) = 1 + 8 * (q : Int) by omega) ▸ k3
  have fin1 : ∀ k : Nat, k < 6 → findW (B 2) n q wsH 0 = (k : Int) → isWd (B 2) n q (chL (6 + k)) = true → AW0 G d m_X11_houseClause 34 [some (.ref 112), some (I c), some (I q), some (I k)] [] V1 N1 (CN (fun V1 N2 => N2 = N1 ∧ hpQ [112, 125, 126, 127, 128, 129, 130, 131] n (if findW (B 2) n q wsH 0 = -1 then .error (1 + 8 * (q : Int)) else if hAm B (findW (B 2) n q wsH 0) c = true then .error (1 + 8 * (q : Int) + 4) else hRest n (findW (B 2) n q wsH 0) (q_up B 1 2 ((q + lets (B 2) n q : Nat) : Int))) V V1)) := by
    intro k hk h0 hw
    rw [h0, if_neg (by omega)]
    have hR1 : HR B V1 := hR.excV hE1 (by simp)
    refine st_iload_n dX11_houseClause_34 rfl ?_
    refine st_bipush dX11_houseClause_35 (by decide) ?_
    refine st_icmp_ne (tgt := 47) dX11_houseClause_37 (by omega) (by omega) rfl (fun c1 => ?_) (fun c1 => ?_)
    · refine st_aload_n dX11_houseClause_47 rfl ?_
      refine st_iload_n dX11_houseClause_48 rfl ?_
      refine st_iload_n dX11_houseClause_49 rfl ?_
      refine c_V2p (d' := d - 1) dX11_houseClause_50 l_X11_334 k_X11_isFull i_X11_isFull (Or.inl ⟨_, _, _, _, _, (by first | with_reducible assumption | rfl), by rfl⟩) (by omega) (Nat.le_of_ble_eq_true rfl) (C_isFull hR1 hI.hp (by omega) hc) ?_
      refine b_eq (tgt := 63) dX11_houseClause_53 rfl (fun c2 => ?_) (fun c2 => ?_)
      · rw [if_neg c2]
        refine st_aload_n dX11_houseClause_63 rfl ?_
        refine st_dup dX11_houseClause_64 rfl ?_
        refine st_getfi dX11_houseClause_65 f_X11_223 (by first | with_reducible assumption | rfl) (by rfl) ?_
        rw [hT1.2.2.1]
        refine st_iload_n dX11_houseClause_68 rfl ?_
        refine c_S1p (d' := d - 1) dX11_houseClause_69 l_X11_331 k_X11_houseWord s_X11_houseWord (by omega) (Nat.le_of_ble_eq_true rfl) (C_houseWord hk) ?_
        have hi : 6 + k < q_nS := by show 6 + k < 28; omega
        refine c_V0p (d' := d - 1) dX11_houseClause_72 l_X11_234 k_J0_length_8abf5 i_J0_length_8abf5 (Or.inr ⟨_, (by first | with_reducible assumption | decide), rfl, rfl⟩) (by omega) (Nat.le_of_ble_eq_true rfl) (C_strlen (by omega) hi) ?_
        have hlen : lets (B 2) n q = q_len.getD (6 + k) 0 := by
          rw [← chL_len hi]
          exact ((isWd_iff.1 hw).1).symm
        rw [← hlen]
        refine st_iadd dX11_houseClause_75 ?_
        rw [show (q : Int) + ((lets (B 2) n q : Nat) : Int) = ((q + lets (B 2) n q : Nat) : Int) by omega]
        refine st_putfi dX11_houseClause_76 w_X11_223 (by first | with_reducible assumption | rfl) (by rfl) rfl rfl ?_
        refine st_aload_n dX11_houseClause_79 rfl ?_
        refine st_iload_n dX11_houseClause_80 rfl ?_
        have hB2 : TP (q_up B 1 2 ((q + lets (B 2) n q : Nat) : Int)) n (q + lets (B 2) n q) := hB.up (by omega)
        have hEB : Exc [1] B (q_up B 1 2 ((q + lets (B 2) n q : Nat) : Int)) := Exc.up (by simp)
        have hV2 := hT1.up (q := q + lets (B 2) n q) (by omega)
        have hEV : Exc [112] V1 (q_up V1 112 21 ((q + lets (B 2) n q : Nat) : Int)) := Exc.up (by simp)
        have hA2 : hAm (q_up B 1 2 ((q + lets (B 2) n q : Nat) : Int)) k c = hAm B k c := by unfold hAm; rw [hEB 10 (by simp)]
        refine c_V1v (d' := d - 1) dX11_houseClause_81 l_X11_338 k_X11_housePart i_X11_housePart (Or.inl ⟨_, _, _, _, _, (by first | with_reducible assumption | rfl), by rfl⟩) (by omega) (Nat.le_of_ble_eq_true rfl) (C_rpart (by omega) hB2 hV2 (((ht.exc hE1 (by simp)).exc hEV (by simp)).excB hEB (by simp)) (hI.up1) ((hR1.excV hEV (by simp)).excB hEB (by simp)) (by omega) (by rw [hA2]; exact c2)) (fun V3 N3 hx => ?_)
        obtain ⟨rfl, k1, k2, k3⟩ := hx
        refine r_v dX11_houseClause_84 rfl ⟨rfl, (hE1.sub (by simp)).tr ((hEV.sub (by simp)).tr k1), hf1.tr ((fx.up (by simp)).tr k2), k3⟩
      · rw [if_pos c2]
        refine st_aload_n dX11_houseClause_56 rfl ?_
        refine st_iconst dX11_houseClause_57 ?_
        refine st_iload_n dX11_houseClause_58 rfl ?_
        refine c_V2v (d' := d - 1) dX11_houseClause_59 l_X11_259 k_X11_fails i_X11_fails (Or.inl ⟨_, _, _, _, _, (by first | with_reducible assumption | rfl), by rfl⟩) (by omega) (Nat.le_of_ble_eq_true rfl) (C_rfailT (k := 4) hT1 (by omega) (by omega)) (fun V2 N2 hx => ?_)
        obtain ⟨rfl, k1, k2, k3⟩ := hx
        refine r_v dX11_houseClause_62 rfl ⟨rfl, (hE1.sub (by simp)).tr (k1.sub (by simp)), hf1.tr k2, Or.inr ⟨_, rfl, k3⟩⟩
    · skip
      omega
  have lp : ∀ m k : Nat, k + m = 6 → findW (B 2) n q (wsH.drop k) k = findW (B 2) n q wsH 0 → AW0 G d m_X11_houseClause 11 [some (.ref 112), some (I c), some (I q), some (I k)] [] V1 N1 (CN (fun V1 N2 => N2 = N1 ∧ hpQ [112, 125, 126, 127, 128, 129, 130, 131] n (if findW (B 2) n q wsH 0 = -1 then .error (1 + 8 * (q : Int)) else if hAm B (findW (B 2) n q wsH 0) c = true then .error (1 + 8 * (q : Int) + 4) else hRest n (findW (B 2) n q wsH 0) (q_up B 1 2 ((q + lets (B 2) n q : Nat) : Int))) V V1)) := by
    intro m
    induction m with
    | zero =>
      intro k hk hF
      have hk6 : k = 6 := by omega
      subst hk6
      refine st_iload_n dX11_houseClause_11 rfl ?_
      refine st_bipush dX11_houseClause_12 (by decide) ?_
      refine st_icmp_ge (tgt := 34) dX11_houseClause_14 (by omega) (by omega) rfl (fun c1 => ?_) (fun c1 => ?_)
      · skip
        exact fin0 (by rw [← hF]; rfl)
      · skip
        omega
    | succ m ih =>
      intro k hk hF
      rw [wsH_get k (by omega)] at hF
      unfold findW at hF
      refine st_iload_n dX11_houseClause_11 rfl ?_
      refine st_bipush dX11_houseClause_12 (by decide) ?_
      refine st_icmp_ge (tgt := 34) dX11_houseClause_14 (by omega) (by omega) rfl (fun c1 => ?_) (fun c1 => ?_)
      · skip
        omega
      · refine st_aload_n dX11_houseClause_17 rfl ?_
        refine st_iload_n dX11_houseClause_18 rfl ?_
        refine c_S1p (d' := d - 1) dX11_houseClause_19 l_X11_331 k_X11_houseWord s_X11_houseWord (by omega) (Nat.le_of_ble_eq_true rfl) (C_houseWord (by omega)) ?_
        have hi : 6 + k < q_nS := by show 6 + k < 28; omega
        refine c_V1p (d' := d - 1) dX11_houseClause_22 l_X11_246 k_X11_stood i_X11_stood (Or.inl ⟨_, _, _, _, _, (by first | with_reducible assumption | rfl), by rfl⟩) (by omega) (Nat.le_of_ble_eq_true rfl) (C_stood (by omega) hi hT1.1 b hT1.2.2.1 (by omega) hb1) ?_
        rw [hW]
        refine b_ne (tgt := 34) dX11_houseClause_25 rfl (fun c2 => ?_) (fun c2 => ?_)
        · rw [if_pos c2] at hF
          exact fin1 k (by omega) hF.symm c2
        · rw [if_neg c2] at hF
          refine st_iinc (L' := [_, _, _, _]) dX11_houseClause_28 rfl (by decide) rfl rfl ?_
          refine st_goto (tgt := 11) dX11_houseClause_31 rfl ?_
          exact AW.to (ih (k + 1) (by omega) hF) (h2 := by simp)
  refine st_aload_n dX11_houseClause_4 rfl ?_
  refine st_getfi dX11_houseClause_5 f_X11_223 (by first | with_reducible assumption | rfl) (by rfl) ?_
  rw [hT1.2.2.1]
  refine st_istore_n (L' := [_, _, _, _]) dX11_houseClause_8 (by decide) rfl rfl ?_
  refine st_iconst dX11_houseClause_9 ?_
  refine st_istore_n (L' := [_, _, _, _]) dX11_houseClause_10 (by decide) rfl rfl ?_
  exact lp 6 0 (by omega) rfl
theorem C_goT {G : q_G} {d : Nat} {B V : q_Mem} {N : q_MemL} {n p : Nat} (hd : 2 ≤ d) (hV : RP1 V n p) (ht : tb B V n) : AC0 G d m_X11_goesOn [.ref 112] V N (CV (fun x V1 N1 => N1 = N ∧ Exc [112] V V1 ∧ fx V V1 ∧ V1 112 21 = ((skip (B 2) n p + 1 : Nat) : Int) ∧ ((bytA (B 2) n (skip (B 2) n p : Nat) = 59 ∧ x = I 1 ∧ V1 112 22 = 0 ∧ RP1 V1 n (skip (B 2) n p + 1)) ∨ (¬ bytA (B 2) n (skip (B 2) n p : Nat) = 59 ∧ bytA (B 2) n (skip (B 2) n p : Nat) = -1 ∧ x = I 0 ∧ V1 112 22 = 0) ∨ (¬ bytA (B 2) n (skip (B 2) n p : Nat) = 59 ∧ ¬ bytA (B 2) n (skip (B 2) n p : Nat) = -1 ∧ x = I 0 ∧ V1 112 22 = 1 + 8 * (skip (B 2) n p : Nat))))) := by
  have hcg : ∀ j, j < n → V 132 j = B 2 j := fun j hj => (ht j hj).1
  have hV0 := hV
  have hs := skip_le (B 2) n p
  obtain ⟨a, b, c, e, f⟩ := hV
  have hs2 := hs.2.1 e
  refine AC.mono (fun v S' M' N' hq => ?_) (C_goesOn hd a b c (by omega) f)
  obtain ⟨hS, x, hv, hN, hx, hM⟩ := hq
  rw [skip_congr hcg] at hM
  rw [skip_congr hcg, bytA_fun hcg] at hx
  have hcf : cfF (V 132) n (skip (B 2) n p) = cfF (B 2) n (skip (B 2) n p) := by unfold cfF; rw [bytA_fun hcg]
  rw [hcf] at hM
  have he := bytA_end (f := B 2) (n := n) (p := skip (B 2) n p)
  generalize skip (B 2) n p = q at *
  unfold cfF at hM
  refine ⟨hS, x, hv, hN, by rw [hM]; exact (Exc.up (by simp)).tr (Exc.up (by simp)), by rw [hM]; exact (fx.up (by simp)).tr (fx.up (by simp)), by rw [hM]; simp [q_up], ?_⟩
  by_cases c1 : bytA (B 2) n (q : Int) = 59
  · left
    rw [if_pos (Or.inl c1)] at hM
    have hM2 : M' = q_up V 112 21 ((q + 1 : Nat) : Int) := by
      rw [hM]
      exact q_up_id (by simp [q_up, f])
    refine ⟨c1, by rw [hx]; exact (bz1 c1).symm, by rw [hM]; simp [q_up], ?_⟩
    rw [hM2]
    exact hV0.up (by apply Decidable.byContradiction; intro z; have := he.2 (by omega); omega)
  · right
    by_cases c2 : bytA (B 2) n (q : Int) = -1
    · left
      rw [if_pos (Or.inr c2)] at hM
      exact ⟨c1, c2, by rw [hx]; exact (bz0 c1).symm, by rw [hM]; simp [q_up]⟩
    · right
      rw [if_neg (by omega)] at hM
      exact ⟨c1, c2, by rw [hx]; exact (bz0 c1).symm, by rw [hM]; simp [q_up]⟩
theorem C_goE {G : q_G} {d : Nat} {V : q_Mem} {N : q_MemL} {n : Nat} {F : Int} (hd : 2 ≤ d) (h : RE1 V n F) : AC0 G d m_X11_goesOn [.ref 112] V N (CV (fun x V1 N1 => N1 = N ∧ x = I 0 ∧ Exc [112] V V1 ∧ fx V V1 ∧ V1 112 22 = F ∧ (0 ≤ V1 112 21 ∧ V1 112 21 ≤ 401))) := by
  obtain ⟨a, b, c, e, f, g⟩ := h
  obtain ⟨p, hp⟩ : ∃ p : Nat, V 112 21 = (p : Int) := ⟨(V 112 21).toNat, by omega⟩
  have hs := skip_le (V 132) n p
  refine AC.mono (fun v S' M' N' hq => ?_) (C_goesOn0 hd a b hp (by omega) (by rw [e]; exact f) (by rw [e]; unfold i32; omega))
  obtain ⟨hS, x, hv, hN, hx, hM⟩ := hq
  refine ⟨hS, x, hv, hN, hx, by rw [hM]; exact Exc.up (by simp), by rw [hM]; exact fx.up (by simp), by rw [hM]; simp [q_up, e], ?_⟩
  rw [hM]
  simp [q_up]
  by_cases hpn : p ≤ n
  · have := hs.2.1 hpn
    omega
  · rw [hs.2.2 (by omega)]
    omega
theorem C_starts {G : q_G} {d : Nat} {V : q_Mem} {N : q_MemL} : AC0 G d m_X11_starts [.ref 112] V N (CN (fun V1 N1 => N1 = N ∧ V1 = q_up (q_up (q_up (q_up (q_up V 112 21 0) 112 22 0) 112 25 0) 112 26 0) 112 27 0)) := by
  refine AC.of (L0 := [_]) pn_X11 (Nat.le_of_ble_eq_true rfl) rfl ?_
  refine st_aload_n dX11_starts_0 rfl ?_
  refine st_iconst dX11_starts_1 ?_
  refine st_putfi dX11_starts_2 w_X11_223 (by first | with_reducible assumption | rfl) (by rfl) rfl rfl ?_
  refine st_aload_n dX11_starts_5 rfl ?_
  refine st_iconst dX11_starts_6 ?_
  refine st_putfi dX11_starts_7 w_X11_220 (by first | with_reducible assumption | rfl) (by rfl) rfl rfl ?_
  refine st_aload_n dX11_starts_10 rfl ?_
  refine st_iconst dX11_starts_11 ?_
  refine st_putfi dX11_starts_12 w_X11_253 (by first | with_reducible assumption | rfl) (by rfl) rfl rfl ?_
  refine st_aload_n dX11_starts_15 rfl ?_
  refine st_iconst dX11_starts_16 ?_
  refine st_putfi dX11_starts_17 w_X11_292 (by first | with_reducible assumption | rfl) (by rfl) rfl rfl ?_
  refine st_aload_n dX11_starts_20 rfl ?_
  refine st_iconst dX11_starts_21 ?_
  refine st_putfi dX11_starts_22 w_X11_256 (by first | with_reducible assumption | rfl) (by rfl) rfl rfl ?_
  refine r_v dX11_starts_25 rfl ⟨rfl, rfl⟩
/-- the fields that a reading changes -/
def fy (V V1 : q_Mem) : Prop := ∀ j, j ∉ [20, 21, 22, 25, 26, 27] → V1 112 j = V 112 j
theorem fy.tr {V V1 V2 : q_Mem} (h : fy V V1) (h2 : fy V1 V2) : fy V V2 := fun j hj => (h2 j hj).trans (h j hj)
theorem fx.fy {V V1 : q_Mem} (h : fx V V1) : fy V V1 := fun j hj => h j (by simp at hj ⊢; omega)
theorem fy.up {V : q_Mem} {a i : Nat} {z : Int} (h : ¬ a = 112 ∨ i ∈ [20, 21, 22, 25, 26, 27]) : fy V (q_up V a i z) := by
  intro j hj
  simp only [q_up]
  rcases h with h | h
  · rw [if_neg (fun z => h z.1.symm)]
  · by_cases z : i = j
    · exact absurd h (z ▸ hj)
    · rw [if_neg (fun y => z y.2.symm)]
theorem C_readsAll {G : q_G} {d : Nat} {B V : q_Mem} {N : q_MemL} {n : Nat} (hd : 7 ≤ d) (hn : B 1 1 = (n : Int)) (hn2 : n ≤ 400) (hV : V 112 20 = (n : Int)) (ht : tb B V n) (hz : Hz B 10) : AC0 G d m_X11_readsAll [.ref 112] V N (CN (fun V1 N1 => N1 = N ∧ Exc [112, 125, 126, 127, 128, 129, 130, 131] V V1 ∧ fy V V1 ∧ V1 112 20 = 0 ∧ ((∃ B1, hRead n B = .ok B1 ∧ HR B1 V1 ∧ V1 112 22 = 0) ∨ ∃ F, hRead n B = .error F ∧ V1 112 22 = F ∧ 0 < F ∧ F ≤ 3300))) := by
  obtain ⟨s1, s2, s3⟩ := hSt_ok hn hn2 hz
  have fin : ∀ (V1 : q_Mem) (k : Int), Exc [112, 125, 126, 127, 128, 129, 130, 131] V V1 → fy V V1 → ((∃ B1, hRead n B = .ok B1 ∧ HR B1 V1 ∧ V1 112 22 = 0) ∨ ∃ F, hRead n B = .error F ∧ V1 112 22 = F ∧ 0 < F ∧ F ≤ 3300) → AW0 G d m_X11_readsAll 29 [some (.ref 112), some (I k), some (I 0)] [] V1 N (CN (fun V1 N1 => N1 = N ∧ Exc [112, 125, 126, 127, 128, 129, 130, 131] V V1 ∧ fy V V1 ∧ V1 112 20 = 0 ∧ ((∃ B1, hRead n B = .ok B1 ∧ HR B1 V1 ∧ V1 112 22 = 0) ∨ ∃ F, hRead n B = .error F ∧ V1 112 22 = F ∧ 0 < F ∧ F ≤ 3300))) := by
    intro V1 k hE hf hr
    refine st_iload_n dX11_readsAll_29 rfl ?_
    refine st_if_eq (tgt := 49) dX11_readsAll_30 (by omega) rfl (fun c1 => ?_) (fun c1 => ?_)
    · refine st_aload_n dX11_readsAll_49 rfl ?_
      refine st_iconst dX11_readsAll_50 ?_
      refine st_putfi dX11_readsAll_51 w_X11_194 (by first | with_reducible assumption | rfl) (by rfl) rfl rfl ?_
      refine r_v dX11_readsAll_54 rfl ⟨rfl, hE.tr (Exc.up (by simp)), hf.tr (fy.up (by simp)), by simp [q_up], ?_⟩
      have e22 : q_up V1 112 20 0 112 22 = V1 112 22 := by simp [q_up]
      rw [e22]
      rcases hr with ⟨B1, h1, h2, h3⟩ | h
      · exact Or.inl ⟨B1, h1, h2.excV (X := [112]) (Exc.up (by simp)) (by simp), h3⟩
      · exact Or.inr h
    · skip
      omega
  have loop : ∀ (m c p : Nat) (B1 V1 : q_Mem), c + m = 41 → c ≤ 40 → TP B1 n p → RP1 V1 n p → tb B1 V1 n → HI c B1 → HR B1 V1 → Exc [112, 125, 126, 127, 128, 129, 130, 131] V V1 → fy V V1 → hLoop n m c B1 = hRead n B → AW0 G d m_X11_readsAll 29 [some (.ref 112), some (I c), some (I 1)] [] V1 N (CN (fun V1 N1 => N1 = N ∧ Exc [112, 125, 126, 127, 128, 129, 130, 131] V V1 ∧ fy V V1 ∧ V1 112 20 = 0 ∧ ((∃ B1, hRead n B = .ok B1 ∧ HR B1 V1 ∧ V1 112 22 = 0) ∨ ∃ F, hRead n B = .error F ∧ V1 112 22 = F ∧ 0 < F ∧ F ≤ 3300))) := by
    intro m
    induction m with
    | zero =>
      intro c p B1 V1 hc hc4
      exfalso
      omega
    | succ m ih =>
      intro c p B1 V1 hc hc4 hT hT2 htb hI hR hE hf e
      refine st_iload_n dX11_readsAll_29 rfl ?_
      refine st_if_eq (tgt := 49) dX11_readsAll_30 (by omega) rfl (fun c1 => ?_) (fun c1 => ?_)
      · skip
        omega
      · refine st_aload_n dX11_readsAll_33 rfl ?_
        refine st_iload_n dX11_readsAll_34 rfl ?_
        refine c_V1v (d' := d - 1) dX11_readsAll_35 l_X11_344 k_X11_houseClause i_X11_houseClause (Or.inl ⟨_, _, _, _, _, (by first | with_reducible assumption | rfl), by rfl⟩) (by omega) (Nat.le_of_ble_eq_true rfl) (C_rclause (by omega) hT hT2 htb hI hR hc4) (fun V2 N2 hx => ?_)
        obtain ⟨rfl, k1, k2, hx⟩ := hx
        unfold hLoop at e
        refine st_iinc (L' := [_, _, _]) dX11_readsAll_38 rfl (by decide) rfl rfl ?_
        refine st_aload_n dX11_readsAll_41 rfl ?_
        rcases hx with ⟨B2, p2, hr, j1, j2, j3⟩ | ⟨F, hr, j1⟩
        · obtain ⟨i1, -, i3, i4⟩ := hCl_ok hT hI hr
          have hp : (B2 1 2).toNat = p2 := by have := j2.2.2.1; omega
          have htb2 : tb B2 V2 n := (htb.exc k1 (by simp)).excB i1 (by simp)
          rw [hr] at e
          dsimp only at e
          rw [hp] at e
          refine c_V0i (d' := d - 1) dX11_readsAll_42 l_X11_347 k_X11_goesOn i_X11_goesOn (Or.inl ⟨_, _, _, _, _, (by first | with_reducible assumption | rfl), by rfl⟩) (by omega) (Nat.le_of_ble_eq_true rfl) (C_goT (by omega) j3 htb2) (fun x V3 N3 hx => ?_)
          obtain ⟨rfl, l1, l2, l3, hx⟩ := hx
          rcases hx with ⟨b1, rfl, b2, b3⟩ | ⟨b1, b2, rfl, b3⟩ | ⟨b1, b2, rfl, b3⟩
          · rw [if_pos b1] at e
            refine st_istore_n (L' := [_, _, _]) dX11_readsAll_45 (by decide) rfl rfl ?_
            refine st_goto (tgt := 29) dX11_readsAll_46 rfl ?_
            have hEB : Exc [1] B2 (q_up B2 1 2 ((skip (B2 2) n p2 + 1 : Nat) : Int)) := Exc.up (by simp)
            exact AW.to (ih (c + 1) _ (q_up B2 1 2 ((skip (B2 2) n p2 + 1 : Nat) : Int)) V3 (by omega) (by omega) (j2.up b3.2.2.2.1) b3 ((htb2.exc l1 (by simp)).excB hEB (by simp)) i3.up1 ((j1.excV l1 (by simp)).excB hEB (by simp)) (hE.tr (k1.tr (l1.sub (by simp)))) (hf.tr ((k2.tr l2).fy)) e) (h2 := by simp)
          · rw [if_neg b1, if_pos b2] at e
            refine st_istore_n (L' := [_, _, _]) dX11_readsAll_45 (by decide) rfl rfl ?_
            refine st_goto (tgt := 29) dX11_readsAll_46 rfl ?_
            exact AW.to (fin V3 ((c : Int) + 1) (hE.tr (k1.tr (l1.sub (by simp)))) (hf.tr ((k2.tr l2).fy)) (Or.inl ⟨_, e.symm, (j1.excV l1 (by simp)).excB (X := [1]) (Exc.up (by simp)) (by simp), b3⟩))
          · rw [if_neg b1, if_neg b2] at e
            have hs := skip_le (B2 2) n p2
            have := hs.2.1 j2.2.2.2.1
            have := j2.2.1
            refine st_istore_n (L' := [_, _, _]) dX11_readsAll_45 (by decide) rfl rfl ?_
            refine st_goto (tgt := 29) dX11_readsAll_46 rfl ?_
            exact AW.to (fin V3 ((c : Int) + 1) (hE.tr (k1.tr (l1.sub (by simp)))) (hf.tr ((k2.tr l2).fy)) (Or.inr ⟨_, e.symm, b3, by omega, by omega⟩))
        · rw [hr] at e
          refine c_V0i (d' := d - 1) dX11_readsAll_42 l_X11_347 k_X11_goesOn i_X11_goesOn (Or.inl ⟨_, _, _, _, _, (by first | with_reducible assumption | rfl), by rfl⟩) (by omega) (Nat.le_of_ble_eq_true rfl) (C_goE (by omega) j1) (fun x V3 N3 hx => ?_)
          obtain ⟨rfl, rfl, l1, l2, l3, l4⟩ := hx
          have := j1.2.2.2.2
          refine st_istore_n (L' := [_, _, _]) dX11_readsAll_45 (by decide) rfl rfl ?_
          refine st_goto (tgt := 29) dX11_readsAll_46 rfl ?_
          exact AW.to (fin V3 ((c : Int) + 1) (hE.tr (k1.tr (l1.sub (by simp)))) (hf.tr ((k2.tr l2).fy)) (Or.inr ⟨F, e.symm, l3, by omega, by omega⟩))
  refine AC.of (L0 := [_, none, none]) pn_X11 (Nat.le_of_ble_eq_true rfl) rfl ?_
  refine st_aload_n dX11_readsAll_0 rfl ?_
  refine c_V0v (d' := d - 1) dX11_readsAll_1 l_X11_341 k_X11_starts i_X11_starts (Or.inl ⟨_, _, _, _, _, (by first | with_reducible assumption | rfl), by rfl⟩) (by omega) (Nat.le_of_ble_eq_true rfl) (C_starts) (fun V1 N1 hx => ?_)
  obtain ⟨rfl, hV1⟩ := hx
  have hE1 : Exc [112] V V1 := by rw [hV1]; exact ((((Exc.up (by simp)).tr (Exc.up (by simp))).tr (Exc.up (by simp))).tr (Exc.up (by simp))).tr (Exc.up (by simp))
  have hf1 : fy V V1 := by rw [hV1]; exact ((((fy.up (by simp)).tr (fy.up (by simp))).tr (fy.up (by simp))).tr (fy.up (by simp))).tr (fy.up (by simp))
  have z0 : AW0 G d m_X11_readsAll 25 [some (.ref 112), some (I 6), none] [] (fun a j => if a = 125 ∧ j < 6 then 0 else V1 a j) N1 (CN (fun V1 N2 => N2 = N1 ∧ Exc [112, 125, 126, 127, 128, 129, 130, 131] V V1 ∧ fy V V1 ∧ V1 112 20 = 0 ∧ ((∃ B1, hRead n B = .ok B1 ∧ HR B1 V1 ∧ V1 112 22 = 0) ∨ ∃ F, hRead n B = .error F ∧ V1 112 22 = F ∧ 0 < F ∧ F ≤ 3300))) := by
    have hE2 : Exc [125] V1 (fun a j => if a = 125 ∧ j < 6 then 0 else V1 a j) := fun a ha => by
      funext j
      simp at ha
      simp [ha]
    have e112 : (fun a j => if a = 125 ∧ j < 6 then 0 else V1 a j : q_Mem) 112 = V1 112 := hE2 112 (by simp)
    refine st_iconst dX11_readsAll_25 ?_
    refine st_istore_n (L' := [_, _, _]) dX11_readsAll_26 (by decide) rfl rfl ?_
    refine st_iconst dX11_readsAll_27 ?_
    refine st_istore_n (L' := [_, _, _]) dX11_readsAll_28 (by decide) rfl rfl ?_
    have hT : RP1 V1 n 0 := by
      rw [hV1]
      exact ⟨by simp [q_up, hV], hn2, by simp [q_up], by omega, by simp [q_up]⟩
    have hz0 := s2
    obtain ⟨-, -, z1, -, -, ⟨-, zb, -⟩, -⟩ := s2
    have z1' := z1 rfl
    refine loop 41 0 0 (hSt B) _ (by omega) (by omega) s1 (hT.exc hE2 (by simp)) (((ht.exc hE1 (by simp)).exc hE2 (by simp)).excB s3 (by simp)) hz0 ?_ ((hE1.sub (by simp)).tr (hE2.sub (by simp))) (hf1.tr (fun j _ => congrFun e112 j)) rfl
    refine ⟨⟨?_, ?_, ?_, ?_, ?_, ?_⟩, ?_, ?_, ?_⟩
    · simp; omega
    · simp; omega
    · simp; omega
    · simp; omega
    · simp; omega
    · simp; omega
    · intro s hs
      have : s = 0 := by omega
      subst this
      rw [zb]
      rfl
    · intro q hq
      omega
    · intro t hq
      omega
  have zl : ∀ (m k : Nat) (M2 : q_Mem), k + m = 6 → M2 = (fun a j => if a = 125 ∧ j < k then 0 else V1 a j) → AW0 G d m_X11_readsAll 6 [some (.ref 112), some (I k), none] [] M2 N1 (CN (fun V1 N2 => N2 = N1 ∧ Exc [112, 125, 126, 127, 128, 129, 130, 131] V V1 ∧ fy V V1 ∧ V1 112 20 = 0 ∧ ((∃ B1, hRead n B = .ok B1 ∧ HR B1 V1 ∧ V1 112 22 = 0) ∨ ∃ F, hRead n B = .error F ∧ V1 112 22 = F ∧ 0 < F ∧ F ≤ 3300))) := by
    intro m
    induction m with
    | zero =>
      intro k M2 hk hM
      have hk6 : k = 6 := by omega
      subst hk6
      refine st_iload_n dX11_readsAll_6 rfl ?_
      refine st_bipush dX11_readsAll_7 (by decide) ?_
      refine st_icmp_ge (tgt := 25) dX11_readsAll_9 (by omega) (by omega) rfl (fun c1 => ?_) (fun c1 => ?_)
      · skip
        exact AW.to z0 (h4 := hM)
      · skip
        omega
    | succ m ih =>
      intro k M2 hk hM
      refine st_iload_n dX11_readsAll_6 rfl ?_
      refine st_bipush dX11_readsAll_7 (by decide) ?_
      refine st_icmp_ge (tgt := 25) dX11_readsAll_9 (by omega) (by omega) rfl (fun c1 => ?_) (fun c1 => ?_)
      · skip
        omega
      · refine st_aload_n dX11_readsAll_12 rfl ?_
        refine st_getfr dX11_readsAll_13 f_X11_46 (by first | with_reducible assumption | rfl) (by rfl) ?_
        refine st_iload_n dX11_readsAll_16 rfl ?_
        refine st_iconst dX11_readsAll_17 ?_
        first | refine st_iastK (k' := _) dX11_readsAll_18 (by first | with_reducible assumption | rfl) rfl (by omega) (hn := by first | decide | omega) ?_ | refine st_iast dX11_readsAll_18 (by first | with_reducible assumption | rfl) (by omega) (by omega) (hn := by first | decide | omega) ?_
        refine st_iinc (L' := [_, _, _]) dX11_readsAll_19 rfl (by decide) rfl rfl ?_
        refine st_goto (tgt := 6) dX11_readsAll_22 rfl ?_
        refine AW.to (ih (k + 1) (q_up M2 125 k 0) (by omega) ?_) (h2 := by simp)
        rw [hM]
        funext a j
        simp only [q_up]
        by_cases e : a = 125 ∧ j = k
        · rw [if_pos e, if_pos (by omega)]
        · rw [if_neg e]
          by_cases e2 : a = 125 ∧ j < k
          · rw [if_pos e2, if_pos (by omega)]
          · rw [if_neg e2, if_neg (by omega)]
  refine st_iconst dX11_readsAll_4 ?_
  refine st_istore_n (L' := [_, _, _]) dX11_readsAll_5 (by decide) rfl rfl ?_
  refine zl 6 0 V1 (by omega) ?_
  funext a j
  simp


/-! the reference: thieves by what ears heard -/
theorem hmh_eq (a b h : Int) : hmh a b h = if b = 0 then (if a = 0 then h else if a = 1 ∨ a = -1 then h / 2 else 0) else if (b = 1 ∨ b = -1) ∧ a = 0 then h / 4 else 0 := by
  unfold hmh
  by_cases ca : 0 ≤ a
  · rw [if_pos ca]
    by_cases cb : 0 ≤ b
    · rw [if_pos cb]
      repeat' split
      all_goals omega
    · rw [if_neg cb]
      repeat' split
      all_goals omega
  · rw [if_neg ca]
    by_cases cb : 0 ≤ b
    · rw [if_pos cb]
      repeat' split
      all_goals omega
    · rw [if_neg cb]
      repeat' split
      all_goals omega
theorem C_hummed {G : q_G} {d : Nat} {M : q_Mem} {N : q_MemL} {r s x y h : Int} (hd : 1 ≤ d) (hr : -1000 ≤ r ∧ r ≤ 1000) (hs : -1000 ≤ s ∧ s ≤ 1000) (hx : -1000 ≤ x ∧ x ≤ 1000) (hy : -1000 ≤ y ∧ y ≤ 1000) (hh : 0 ≤ h ∧ h ≤ 30) : AC0 G d m_X11_hummed [I r, I s, I x, I y, I h] M N (CV (PU (I (hmh (r - x) (s - y) h)) M N)) := by
  rw [hmh_eq]
  refine AC.of (L0 := [_, _, _, _, _, none, none]) pn_X11 (Nat.le_of_ble_eq_true rfl) rfl ?_
  refine st_iload_n dX11_hummed_0 rfl ?_
  refine st_iload_n dX11_hummed_1 rfl ?_
  refine c_S2p (d' := d - 1) dX11_hummed_2 l_X11_396 k_X11_apart s_X11_apart (by omega) (Nat.le_of_ble_eq_true rfl) (C_apart (by omega) (by omega)) ?_
  refine st_istore (L' := [_, _, _, _, _, _, _]) dX11_hummed_5 (by decide) rfl rfl ?_
  refine st_iload_n dX11_hummed_7 rfl ?_
  refine st_iload_n dX11_hummed_8 rfl ?_
  refine c_S2p (d' := d - 1) dX11_hummed_9 l_X11_396 k_X11_apart s_X11_apart (by omega) (Nat.le_of_ble_eq_true rfl) (C_apart (by omega) (by omega)) ?_
  have e1 : (if r < x then x - r else r - x) = 0 ↔ r - x = 0 := by split <;> omega
  have e2 : (if r < x then x - r else r - x) = 1 ↔ (r - x = 1 ∨ r - x = -1) := by split <;> omega
  have e3 : (if s < y then y - s else s - y) = 0 ↔ s - y = 0 := by split <;> omega
  have e4 : (if s < y then y - s else s - y) = 1 ↔ (s - y = 1 ∨ s - y = -1) := by split <;> omega
  have r1 : 0 ≤ (if r < x then x - r else r - x) ∧ (if r < x then x - r else r - x) < 10000 := by split <;> omega
  have r2 : 0 ≤ (if s < y then y - s else s - y) ∧ (if s < y then y - s else s - y) < 10000 := by split <;> omega
  generalize (if r < x then x - r else r - x) = u at *
  generalize (if s < y then y - s else s - y) = w at *
  refine st_istore (L' := [_, _, _, _, _, _, _]) dX11_hummed_12 (by decide) rfl rfl ?_
  refine st_iload dX11_hummed_14 rfl ?_
  refine st_if_ne (tgt := 46) dX11_hummed_16 (by omega) rfl (fun h5 => ?_) (fun h5 => ?_)
  · refine st_iload dX11_hummed_46 rfl ?_
    refine st_iconst dX11_hummed_48 ?_
    rw [if_neg (fun z => h5 (e3.2 z))]
    refine st_icmp_ne (tgt := 64) dX11_hummed_49 (by omega) (by omega) rfl (fun h6 => ?_) (fun h6 => ?_)
    · refine st_iconst dX11_hummed_64 ?_
      exact r_i dX11_hummed_65 rfl ⟨by rw [if_neg (fun z => h6 (e4.2 z.1))], rfl, rfl⟩
    · refine st_iload dX11_hummed_52 rfl ?_
      refine st_if_ne (tgt := 64) dX11_hummed_54 (by omega) rfl (fun h7 => ?_) (fun h7 => ?_)
      · refine st_iconst dX11_hummed_64 ?_
        exact r_i dX11_hummed_65 rfl ⟨by rw [if_neg (fun z => h7 (e1.2 z.2))], rfl, rfl⟩
      · refine st_iload dX11_hummed_57 rfl ?_
        refine st_iconst dX11_hummed_59 ?_
        refine st_idivK dX11_hummed_60 (by omega) (by omega) ?_
        refine st_goto (tgt := 65) dX11_hummed_61 rfl ?_
        exact r_i dX11_hummed_65 rfl ⟨by rw [if_pos ⟨e4.1 h6, e1.1 h7⟩], rfl, rfl⟩
  · refine st_iload dX11_hummed_19 rfl ?_
    rw [if_pos (e3.1 h5)]
    refine st_if_ne (tgt := 29) dX11_hummed_21 (by omega) rfl (fun h6 => ?_) (fun h6 => ?_)
    · refine st_iload dX11_hummed_29 rfl ?_
      refine st_iconst dX11_hummed_31 ?_
      rw [if_neg (fun z => h6 (e1.2 z))]
      refine st_icmp_ne (tgt := 42) dX11_hummed_32 (by omega) (by omega) rfl (fun h7 => ?_) (fun h7 => ?_)
      · refine st_iconst dX11_hummed_42 ?_
        refine st_goto (tgt := 65) dX11_hummed_43 rfl ?_
        exact r_i dX11_hummed_65 rfl ⟨by rw [if_neg (fun z => h7 (e2.2 z))], rfl, rfl⟩
      · refine st_iload dX11_hummed_35 rfl ?_
        refine st_iconst dX11_hummed_37 ?_
        refine st_idivK dX11_hummed_38 (by omega) (by omega) ?_
        refine st_goto (tgt := 65) dX11_hummed_39 rfl ?_
        exact r_i dX11_hummed_65 rfl ⟨by rw [if_pos (e2.1 h7)], rfl, rfl⟩
    · refine st_iload dX11_hummed_24 rfl ?_
      refine st_goto (tgt := 65) dX11_hummed_26 rfl ?_
      exact r_i dX11_hummed_65 rfl ⟨by rw [if_pos (e1.1 h6)], rfl, rfl⟩
theorem C_isThief {G : q_G} {d : Nat} {B M : q_Mem} {N : q_MemL} {r s h : Int} (hd : 2 ≤ d) (hB : NowOk B) (hT : RT B M) (hr : 0 ≤ r ∧ r ≤ 10) (hs : 0 ≤ s ∧ s ≤ 10) (hh : 0 ≤ h ∧ h ≤ 30) : AC0 G d m_X11_isThief [.ref 112, I r, I s, I h] M N (CV (PU (Bz (fitE (B 9) (B 3 17).toNat r s h)) M N)) := by
  obtain ⟨h0, h1, h2, h3, h4, h5, h6, h11, h12, h13, h15, h17, h18, hb, hc, hw, hv, hp, he, ht1, ht0⟩ := id hB
  obtain ⟨⟨t0, t1, t2, t3, t4, t5, t7⟩, ts, tp, tt, te⟩ := id hT
  have he9 : ∀ k, -1 ≤ B 9 k ∧ B 9 k ≤ 100 := he
  refine AC.of (L0 := [_, _, _, _, none, none]) pn_X11 (Nat.le_of_ble_eq_true rfl) rfl ?_
  refine st_iconst dX11_isThief_0 ?_
  refine st_istore (L' := [_, _, _, _, _, _]) dX11_isThief_1 (by decide) rfl rfl ?_
  refine st_iconst dX11_isThief_3 ?_
  refine st_istore (L' := [_, _, _, _, _, _]) dX11_isThief_4 (by decide) rfl rfl ?_
  have loop : ∀ (q k : Nat) (x : Int), k + q = (B 3 17).toNat → (x = if fitE (B 9) k r s h then 1 else 0) → AW0 G d m_X11_isThief 6 [some (.ref 112), some (I r), some (I s), some (I h), some (I x), some (I k)] [] M N (CV (PU (Bz (fitE (B 9) (B 3 17).toNat r s h)) M N)) := by
    intro q
    induction q with
    | zero =>
      intro k x hk hx
      have rx : x = 0 ∨ x = 1 := by rw [hx]; split <;> simp
      refine st_iload dX11_isThief_6 rfl ?_
      refine st_aload_n dX11_isThief_8 rfl ?_
      refine st_getfr dX11_isThief_9 f_X11_9 (by first | with_reducible assumption | rfl) (by rfl) ?_
      refine st_bipush dX11_isThief_12 (by decide) ?_
      refine st_ialdK (k' := 7) dX11_isThief_14 (by first | with_reducible assumption | rfl) rfl (by omega) (hn := by first | decide | omega) ?_
      rw [t7]
      refine st_icmp_ge (tgt := 66) dX11_isThief_15 (by omega) (by omega) rfl (fun h7 => ?_) (fun h7 => ?_)
      · refine st_iload dX11_isThief_66 rfl ?_
        exact r_z dX11_isThief_68 rfl (by first | omega | (split <;> decide)) ⟨by rw [hx, show k = (B 3 17).toNat by omega], rfl, rfl⟩
      · skip
        omega
    | succ q ih =>
      intro k x hk hx
      have b0 := he9 (k * 3)
      have b1 := he9 (k * 3 + 1)
      have b2 := he9 (k * 3 + 2)
      have tk := te k (by omega)
      have rx : x = 0 ∨ x = 1 := by rw [hx]; split <;> simp
      have nxx : ∀ (y : Int), (y = if fitE (B 9) (k + 1) r s h then 1 else 0) → AW0 G d m_X11_isThief 58 [some (.ref 112), some (I r), some (I s), some (I h), some (I x), some (I k)] [I y] M N (CV (PU (Bz (fitE (B 9) (B 3 17).toNat r s h)) M N)) := by
        intro y hy
        refine st_istore (L' := [_, _, _, _, _, _]) dX11_isThief_58 (by decide) rfl rfl ?_
        refine st_iinc (L' := [_, _, _, _, _, _]) dX11_isThief_60 rfl (by decide) rfl rfl ?_
        refine st_goto (tgt := 6) dX11_isThief_63 rfl ?_
        exact AW.to (ih (k + 1) y (by omega) hy) (h2 := by simp)
      refine st_iload dX11_isThief_6 rfl ?_
      refine st_aload_n dX11_isThief_8 rfl ?_
      refine st_getfr dX11_isThief_9 f_X11_9 (by first | with_reducible assumption | rfl) (by rfl) ?_
      refine st_bipush dX11_isThief_12 (by decide) ?_
      refine st_ialdK (k' := 7) dX11_isThief_14 (by first | with_reducible assumption | rfl) rfl (by omega) (hn := by first | decide | omega) ?_
      rw [t7]
      refine st_icmp_ge (tgt := 66) dX11_isThief_15 (by omega) (by omega) rfl (fun h7 => ?_) (fun h7 => ?_)
      · skip
        omega
      · refine st_iload dX11_isThief_18 rfl ?_
        refine st_if_eq (tgt := 57) dX11_isThief_20 (by omega) rfl (fun h8 => ?_) (fun h8 => ?_)
        · refine st_iconst dX11_isThief_57 ?_
          refine nxx 0 ?_
          rw [if_neg]
          intro z
          have : ¬ fitE (B 9) k r s h := fun z2 => by rw [if_pos z2] at hx; omega
          exact this (fun e he2 => z e (by omega))
        · refine st_aload_n dX11_isThief_23 rfl ?_
          refine st_getfr dX11_isThief_24 f_X11_37 (by first | with_reducible assumption | rfl) (by rfl) ?_
          refine st_iload dX11_isThief_27 rfl ?_
          first | refine st_ialdK (k' := _) dX11_isThief_29 (by first | with_reducible assumption | rfl) rfl (by omega) (hn := by first | decide | omega) ?_ | refine st_iald dX11_isThief_29 (by first | with_reducible assumption | rfl) (by omega) (by omega) (hn := by first | decide | omega) ?_
          rw [tk.1]
          refine st_aload_n dX11_isThief_30 rfl ?_
          refine st_getfr dX11_isThief_31 f_X11_40 (by first | with_reducible assumption | rfl) (by rfl) ?_
          refine st_iload dX11_isThief_34 rfl ?_
          first | refine st_ialdK (k' := _) dX11_isThief_36 (by first | with_reducible assumption | rfl) rfl (by omega) (hn := by first | decide | omega) ?_ | refine st_iald dX11_isThief_36 (by first | with_reducible assumption | rfl) (by omega) (by omega) (hn := by first | decide | omega) ?_
          rw [tk.2.1]
          have hfk : fitE (B 9) k r s h := by
            by_cases c : fitE (B 9) k r s h
            · exact c
            · rw [if_neg c] at hx; omega
          have rh := hmh_rng (a := B 9 (k * 3) - r) (b := B 9 (k * 3 + 1) - s) (h := h) (by omega)
          refine st_iload_n dX11_isThief_37 rfl ?_
          refine st_iload_n dX11_isThief_38 rfl ?_
          refine st_iload_n dX11_isThief_39 rfl ?_
          refine c_S5p (d' := d - 1) dX11_isThief_40 l_X11_570 k_X11_hummed s_X11_hummed (by omega) (Nat.le_of_ble_eq_true rfl) (C_hummed (by omega) (by omega) (by omega) (by omega) (by omega) hh) ?_
          refine st_aload_n dX11_isThief_43 rfl ?_
          refine st_getfr dX11_isThief_44 f_X11_43 (by first | with_reducible assumption | rfl) (by rfl) ?_
          refine st_iload dX11_isThief_47 rfl ?_
          first | refine st_ialdK (k' := _) dX11_isThief_49 (by first | with_reducible assumption | rfl) rfl (by omega) (hn := by first | decide | omega) ?_ | refine st_iald dX11_isThief_49 (by first | with_reducible assumption | rfl) (by omega) (by omega) (hn := by first | decide | omega) ?_
          rw [tk.2.2]
          refine st_icmp_ne (tgt := 57) dX11_isThief_50 (by omega) (by omega) rfl (fun h9 => ?_) (fun h9 => ?_)
          · refine st_iconst dX11_isThief_57 ?_
            refine nxx 0 ?_
            rw [if_neg]
            exact fun z => h9 (z k (by omega))
          · refine st_iconst dX11_isThief_53 ?_
            refine st_goto (tgt := 58) dX11_isThief_54 rfl ?_
            refine nxx 1 ?_
            rw [if_pos]
            intro e he2
            by_cases q1 : e = k
            · rw [q1]; exact h9
            · exact hfk e (by omega)
  exact AW.to (loop _ 0 1 (Nat.zero_add _) (by rw [if_pos (fun e he2 => absurd he2 (by omega))]))
/-- the reference's rows hold these -/
def holdR (L : List (Nat × Nat × Nat)) (M : q_Mem) : Prop := M 112 70 = (L.length : Nat) ∧ ∀ j, j < L.length → M 156 j = ((L.getD j (0, 0, 0)).1 : Nat) ∧ M 157 j = ((L.getD j (0, 0, 0)).2.1 : Nat) ∧ M 158 j = ((L.getD j (0, 0, 0)).2.2 : Nat)
theorem holdR_app {L : List (Nat × Nat × Nat)} {M : q_Mem} {t : Nat × Nat × Nat} (h : holdR L M) : holdR (L ++ [t]) (q_up (q_up (q_up (q_up M 156 L.length (t.1 : Nat)) 157 L.length (t.2.1 : Nat)) 158 L.length (t.2.2 : Nat)) 112 70 ((L.length : Nat) + 1)) := by
  refine ⟨by simp [q_up], fun j hj => ?_⟩
  rw [List.length_append, List.length_singleton] at hj
  by_cases e : j < L.length
  · have := h.2 j e
    rw [List.getD_eq_getElem?_getD, List.getElem?_append_left e, ← List.getD_eq_getElem?_getD, ← this.1, ← this.2.1, ← this.2.2]
    have e2 : ¬ j = L.length := by omega
    simp [q_up, e2]
  · have e2 : j = L.length := by omega
    rw [List.getD_eq_getElem?_getD, List.getElem?_append_right (by omega), show j - L.length = 0 by omega]
    simp [q_up, e2]
abbrev trX : List Nat := [112, 156, 157, 158]
/-- nothing else is touched but the thieves -/
def TrE (M M1 : q_Mem) : Prop := Exc trX M M1 ∧ ∀ j, ¬ j = 70 → M1 112 j = M 112 j
theorem TrE.tr {M M1 M2 : q_Mem} (h : TrE M M1) (h2 : TrE M1 M2) : TrE M M2 := ⟨h.1.tr h2.1, fun j hj => (h2.2 j hj).trans (h.2 j hj)⟩
theorem TrE.qk {M M1 : q_Mem} (h : TrE M M1) : Qk M M1 := by
  refine ⟨h.1.sub (by decide), fun a j hj => ?_, fun j hj => h.2 j (by simp only [List.mem_cons, List.not_mem_nil, or_false] at hj; omega), fun j _ => by rw [h.1 165 (by decide)]⟩
  rw [h.1 a]
  intro z
  simp only [List.mem_cons, List.not_mem_nil, or_false] at z
  rcases z with z | z | z | z
  all_goals (rw [z] at hj; exact absurd (show j < 0 from hj) (by omega))
theorem C_findsThieves {G : q_G} {d : Nat} {B M : q_Mem} {N : q_MemL} (hd : 3 ≤ d) (hB : NowOk B) (hT0 : RT B M) (htl : B 3 0 = 1) : AC0 G d m_X11_findsThieves [.ref 112] M N (CN (fun M' N' => N' = N ∧ TrE M M' ∧ holdR (susL B) M')) := by
  obtain ⟨h0, h1, h2, h3, h4, h5, h6, h11, h12, h13, h15, h17, h18, hb, hc, hw, hv, hp, he, ht1, ht0⟩ := id hB
  have hto := ht1 htl
  have hlR := thR_len (B 9) (B 3 17).toNat (B 3 3).toNat (by omega)
  have hlS := fun r => thS_len (B 9) (B 3 17).toNat r
  have hlK := fun r s => thK_len (B 9) (B 3 17).toNat r s
  have hTe : ∀ M1, TrE M M1 → RT B M1 := fun M1 hE => hT0.exc hE.1 (fun j _ _ => by rw [hE.1 113 (by decide)]) (by decide)
  refine AC.of (L0 := [_, none, none, none]) pn_X11 (Nat.le_of_ble_eq_true rfl) rfl ?_
  refine st_aload_n dX11_findsThieves_0 rfl ?_
  refine st_iconst dX11_findsThieves_1 ?_
  refine st_putfi dX11_findsThieves_2 w_X11_574 (by first | with_reducible assumption | rfl) (by rfl) rfl rfl ?_
  refine st_iconst dX11_findsThieves_5 ?_
  refine st_istore_n (L' := [_, _, _, _]) dX11_findsThieves_6 (by decide) rfl rfl ?_
  have inner : ∀ (Q : q_Q0) (r s : Nat), r < 4 → s < 8 → ∀ (q n : Nat) (M1 : q_Mem) (L : List (Nat × Nat × Nat)), n + q = 30 → L.length ≤ 930 → TrE M M1 → holdR (L ++ thK (B 9) (B 3 17).toNat r s n) M1 →
      (∀ (M2 : q_Mem) (l3 : Option Value), TrE M M2 → holdR (L ++ thK (B 9) (B 3 17).toNat r s 30) M2 → AW0 G d m_X11_findsThieves 93 [some (.ref 112), some (I r), some (I s), l3] [] M2 N Q) →
      AW0 G d m_X11_findsThieves 31 [some (.ref 112), some (I r), some (I s), some (I (n + 1))] [] M1 N Q := by
    intro Q r s hr hs q
    induction q with
    | zero =>
      intro n M1 L hn hL hE hH kk
      refine st_iload_n dX11_findsThieves_31 rfl ?_
      refine st_bipush dX11_findsThieves_32 (by decide) ?_
      refine st_icmp_gt (tgt := 93) dX11_findsThieves_34 (by omega) (by omega) rfl (fun h => ?_) (fun h => ?_)
      · skip
        exact kk M1 _ hE (by rw [show (30 : Nat) = n by omega]; exact hH)
      · skip
        omega
    | succ q ih =>
      intro n M1 L hn hL hE hH kk
      have hk := hlK r s n
      have hlen : (L ++ thK (B 9) (B 3 17).toNat r s n).length < 960 := by rw [List.length_append]; omega
      refine st_iload_n dX11_findsThieves_31 rfl ?_
      refine st_bipush dX11_findsThieves_32 (by decide) ?_
      refine st_icmp_gt (tgt := 93) dX11_findsThieves_34 (by omega) (by omega) rfl (fun h => ?_) (fun h => ?_)
      · skip
        omega
      · refine st_aload_n dX11_findsThieves_37 rfl ?_
        refine st_iload_n dX11_findsThieves_38 rfl ?_
        refine st_iload_n dX11_findsThieves_39 rfl ?_
        refine st_iload_n dX11_findsThieves_40 rfl ?_
        refine c_V3p (d' := d - 1) dX11_findsThieves_41 l_X11_577 k_X11_isThief i_X11_isThief (Or.inl ⟨_, _, _, _, _, (by first | with_reducible assumption | rfl), by rfl⟩) (by omega) (Nat.le_of_ble_eq_true rfl) (C_isThief (by omega) hB (hTe M1 hE) (by omega) (by omega) (by omega)) ?_
        refine b_eq (tgt := 87) dX11_findsThieves_44 rfl (fun h8 => ?_) (fun h8 => ?_)
        · refine st_iinc (L' := [_, _, _, _]) dX11_findsThieves_87 rfl (by decide) rfl rfl ?_
          refine st_goto (tgt := 31) dX11_findsThieves_90 rfl ?_
          have e : thK (B 9) (B 3 17).toNat r s (n + 1) = thK (B 9) (B 3 17).toNat r s n := if_neg h8
          exact AW.to (ih (n + 1) M1 L (by omega) hL hE (by rw [e]; exact hH) kk) (h2 := by simp)
        · refine st_aload_n dX11_findsThieves_47 rfl ?_
          refine st_getfr dX11_findsThieves_48 f_X11_146 (by first | with_reducible assumption | rfl) (by rfl) ?_
          refine st_aload_n dX11_findsThieves_51 rfl ?_
          refine st_getfi dX11_findsThieves_52 f_X11_574 (by first | with_reducible assumption | rfl) (by rfl) ?_
          have e : thK (B 9) (B 3 17).toNat r s (n + 1) = thK (B 9) (B 3 17).toNat r s n ++ [(r, s, n + 1)] := if_pos h8
          have hA := holdR_app (t := (r, s, n + 1)) hH
          rw [List.append_assoc, ← e] at hA
          have e5 := hH.1
          generalize (L ++ thK (B 9) (B 3 17).toNat r s n).length = len at hlen hA e5
          rw [e5]
          refine st_iload_n dX11_findsThieves_55 rfl ?_
          first | refine st_iastK (k' := _) dX11_findsThieves_56 (by first | with_reducible assumption | rfl) rfl (by omega) (hn := by first | decide | omega) ?_ | refine st_iast dX11_findsThieves_56 (by first | with_reducible assumption | rfl) (by omega) (by omega) (hn := by first | decide | omega) ?_
          refine st_aload_n dX11_findsThieves_57 rfl ?_
          refine st_getfr dX11_findsThieves_58 f_X11_149 (by first | with_reducible assumption | rfl) (by rfl) ?_
          refine st_aload_n dX11_findsThieves_61 rfl ?_
          refine st_getfi dX11_findsThieves_62 f_X11_574 (by first | with_reducible assumption | rfl) (by rfl) ?_
          have f1 : q_up M1 156 len (r : Int) 112 70 = (len : Int) := by rw [← e5]; simp [q_up]
          rw [f1]
          refine st_iload_n dX11_findsThieves_65 rfl ?_
          first | refine st_iastK (k' := _) dX11_findsThieves_66 (by first | with_reducible assumption | rfl) rfl (by omega) (hn := by first | decide | omega) ?_ | refine st_iast dX11_findsThieves_66 (by first | with_reducible assumption | rfl) (by omega) (by omega) (hn := by first | decide | omega) ?_
          refine st_aload_n dX11_findsThieves_67 rfl ?_
          refine st_getfr dX11_findsThieves_68 f_X11_152 (by first | with_reducible assumption | rfl) (by rfl) ?_
          refine st_aload_n dX11_findsThieves_71 rfl ?_
          refine st_getfi dX11_findsThieves_72 f_X11_574 (by first | with_reducible assumption | rfl) (by rfl) ?_
          have f2 : q_up (q_up M1 156 len (r : Int)) 157 len (s : Int) 112 70 = (len : Int) := by rw [← e5]; simp [q_up]
          rw [f2]
          refine st_iload_n dX11_findsThieves_75 rfl ?_
          first | refine st_iastK (k' := _) dX11_findsThieves_76 (by first | with_reducible assumption | rfl) rfl (by omega) (hn := by first | decide | omega) ?_ | refine st_iast dX11_findsThieves_76 (by first | with_reducible assumption | rfl) (by omega) (by omega) (hn := by first | decide | omega) ?_
          refine st_aload_n dX11_findsThieves_77 rfl ?_
          refine st_dup dX11_findsThieves_78 rfl ?_
          refine st_getfi dX11_findsThieves_79 f_X11_574 (by first | with_reducible assumption | rfl) (by rfl) ?_
          have f3 : q_up (q_up (q_up M1 156 len (r : Int)) 157 len (s : Int)) 158 len ((n : Int) + 1) 112 70 = (len : Int) := by rw [← e5]; simp [q_up]
          rw [f3]
          refine st_iconst dX11_findsThieves_82 ?_
          refine st_iadd dX11_findsThieves_83 ?_
          refine st_putfi dX11_findsThieves_84 w_X11_574 (by first | with_reducible assumption | rfl) (by rfl) rfl rfl ?_
          refine st_iinc (L' := [_, _, _, _]) dX11_findsThieves_87 rfl (by decide) rfl rfl ?_
          refine st_goto (tgt := 31) dX11_findsThieves_90 rfl ?_
          refine AW.to (ih (n + 1) (q_up (q_up (q_up (q_up M1 156 len (r : Int)) 157 len (s : Int)) 158 len ((n : Int) + 1)) 112 70 ((len : Int) + 1)) L (by omega) hL (hE.tr ⟨((Exc.up (by decide)).tr (Exc.up (by decide))).tr ((Exc.up (by decide)).tr (Exc.up (by decide))), fun j hj => by simp [q_up, hj]⟩) hA kk) (h2 := by simp)
  have middle : ∀ (Q : q_Q0) (r : Nat), r < 4 → ∀ (q s : Nat) (M1 : q_Mem) (L : List (Nat × Nat × Nat)), s + q = (B 3 3).toNat → L.length ≤ 720 → TrE M M1 → holdR (L ++ thS (B 9) (B 3 17).toNat r s) M1 → {l3 : Option Value} →
      (∀ (M2 : q_Mem) (l2 l3 : Option Value), TrE M M2 → holdR (L ++ thS (B 9) (B 3 17).toNat r (B 3 3).toNat) M2 → AW0 G d m_X11_findsThieves 99 [some (.ref 112), some (I r), l2, l3] [] M2 N Q) →
      AW0 G d m_X11_findsThieves 19 [some (.ref 112), some (I r), some (I s), l3] [] M1 N Q := by
    intro Q r hr q
    induction q with
    | zero =>
      intro s M1 L hs hL hE hH l3 kk
      have e3 := (hTe M1 hE).1.2.2.1
      refine st_iload_n dX11_findsThieves_19 rfl ?_
      refine st_aload_n dX11_findsThieves_20 rfl ?_
      refine st_getfr dX11_findsThieves_21 f_X11_9 (by first | with_reducible assumption | rfl) (by rfl) ?_
      refine st_iconst dX11_findsThieves_24 ?_
      refine st_ialdK (k' := 2) dX11_findsThieves_25 (by first | with_reducible assumption | rfl) rfl (by omega) (hn := by first | decide | omega) ?_
      rw [e3]
      refine st_icmp_gt (tgt := 99) dX11_findsThieves_26 (by omega) (by omega) rfl (fun h => ?_) (fun h => ?_)
      · skip
        exact kk M1 _ l3 hE (by rw [show (B 3 3).toNat = s by omega]; exact hH)
      · skip
        omega
    | succ q ih =>
      intro s M1 L hs hL hE hH l3 kk
      have e3 := (hTe M1 hE).1.2.2.1
      have hk := hlS r s
      refine st_iload_n dX11_findsThieves_19 rfl ?_
      refine st_aload_n dX11_findsThieves_20 rfl ?_
      refine st_getfr dX11_findsThieves_21 f_X11_9 (by first | with_reducible assumption | rfl) (by rfl) ?_
      refine st_iconst dX11_findsThieves_24 ?_
      refine st_ialdK (k' := 2) dX11_findsThieves_25 (by first | with_reducible assumption | rfl) rfl (by omega) (hn := by first | decide | omega) ?_
      rw [e3]
      refine st_icmp_gt (tgt := 99) dX11_findsThieves_26 (by omega) (by omega) rfl (fun h => ?_) (fun h => ?_)
      · skip
        omega
      · refine st_iconst dX11_findsThieves_29 ?_
        refine st_istore_n (L' := [_, _, _, _]) dX11_findsThieves_30 (by decide) rfl rfl ?_
        refine AW.to (inner Q r s hr (by omega) 30 0 M1 (L ++ thS (B 9) (B 3 17).toNat r s) (by omega) (by rw [List.length_append]; omega) hE (by rw [thK, List.append_nil]; exact hH) (fun M2 l3 hE2 hH2 => ?_))
        refine st_iinc (L' := [_, _, _, _]) dX11_findsThieves_93 rfl (by decide) rfl rfl ?_
        refine st_goto (tgt := 19) dX11_findsThieves_96 rfl ?_
        rw [List.append_assoc] at hH2
        exact AW.to (ih (s + 1) M2 L (by omega) hL hE2 hH2 kk (l3 := l3)) (h2 := by simp)
  have outer : ∀ (q r : Nat) (M1 : q_Mem), r + q = (B 3 1).toNat → TrE M M1 → holdR (thR (B 9) (B 3 17).toNat (B 3 3).toNat r) M1 → {l2 l3 : Option Value} →
      AW0 G d m_X11_findsThieves 7 [some (.ref 112), some (I r), l2, l3] [] M1 N (CN (fun M' N' => N' = N ∧ TrE M M' ∧ holdR (susL B) M')) := by
    intro q
    induction q with
    | zero =>
      intro r M1 hr hE hH l2 l3
      have e3 := (hTe M1 hE).1.1
      refine st_iload_n dX11_findsThieves_7 rfl ?_
      refine st_aload_n dX11_findsThieves_8 rfl ?_
      refine st_getfr dX11_findsThieves_9 f_X11_9 (by first | with_reducible assumption | rfl) (by rfl) ?_
      refine st_iconst dX11_findsThieves_12 ?_
      refine st_ialdK (k' := 0) dX11_findsThieves_13 (by first | with_reducible assumption | rfl) rfl (by omega) (hn := by first | decide | omega) ?_
      rw [e3]
      refine st_icmp_ge (tgt := 105) dX11_findsThieves_14 (by omega) (by omega) rfl (fun h => ?_) (fun h => ?_)
      · skip
        exact r_v dX11_findsThieves_105 rfl ⟨rfl, hE, by unfold susL; rw [show (B 3 1).toNat = r by omega]; exact hH⟩
      · skip
        omega
    | succ q ih =>
      intro r M1 hr hE hH l2 l3
      have e3 := (hTe M1 hE).1.1
      have hk := hlR r
      refine st_iload_n dX11_findsThieves_7 rfl ?_
      refine st_aload_n dX11_findsThieves_8 rfl ?_
      refine st_getfr dX11_findsThieves_9 f_X11_9 (by first | with_reducible assumption | rfl) (by rfl) ?_
      refine st_iconst dX11_findsThieves_12 ?_
      refine st_ialdK (k' := 0) dX11_findsThieves_13 (by first | with_reducible assumption | rfl) rfl (by omega) (hn := by first | decide | omega) ?_
      rw [e3]
      refine st_icmp_ge (tgt := 105) dX11_findsThieves_14 (by omega) (by omega) rfl (fun h => ?_) (fun h => ?_)
      · skip
        omega
      · refine st_iconst dX11_findsThieves_17 ?_
        refine st_istore_n (L' := [_, _, _, _]) dX11_findsThieves_18 (by decide) rfl rfl ?_
        refine AW.to (middle _ r (by omega) (B 3 3).toNat 0 M1 (thR (B 9) (B 3 17).toNat (B 3 3).toNat r) (by omega) (by omega) hE (by rw [thS, List.append_nil]; exact hH) (fun M2 l2 l3 hE2 hH2 => ?_) (l3 := l3))
        refine st_iinc (L' := [_, _, _, _]) dX11_findsThieves_99 rfl (by decide) rfl rfl ?_
        refine st_goto (tgt := 7) dX11_findsThieves_102 rfl ?_
        exact AW.to (ih (r + 1) M2 (by omega) hE2 hH2 (l2 := l2) (l3 := l3)) (h2 := by simp)
  exact outer (B 3 1).toNat 0 _ (by omega) ⟨Exc.up (by decide), fun j hj => by simp [q_up, hj]⟩ ⟨by simp [q_up, thR], fun j hj => absurd hj (by simp [thR])⟩ (l2 := none) (l3 := none)
theorem C_rthief {G : q_G} {d : Nat} {B M : q_Mem} {N : q_MemL} {what : Int} (hd : 4 ≤ d) (hN : RN B M) (hw : i32 what) : AC0 G d m_X11_thief [.ref 112, I what] M N (CV (fun v M' N' => v = I (A_thief B what) ∧ N' = N ∧ Qk M M')) := by
  obtain ⟨hB, hT, hP, hW, hb6⟩ := id hN
  obtain ⟨h0, h1, h2, h3, h4, h5, h6, h11, h12, h13, h15, h17, h18, -⟩ := id hB
  have hlR := thR_len (B 9) (B 3 17).toNat (B 3 3).toNat (by omega) (B 3 1).toNat
  have hww := hw
  unfold i32 at hww
  have no : ¬ (B 3 0 = 1 ∧ 0 ≤ what ∧ what ≤ 3) → AW0 G d m_X11_thief 19 [some (.ref 112), some (I what)] [] M N (CV (fun v M' N' => v = I (A_thief B what) ∧ N' = N ∧ Qk M M')) := by
    intro h
    refine st_iconst dX11_thief_19 ?_
    exact r_i dX11_thief_20 rfl ⟨by rw [A_thief, if_neg h], rfl, Qk.rf⟩
  refine AC.of (L0 := [_, _]) pn_X11 (Nat.le_of_ble_eq_true rfl) rfl ?_
  refine st_aload_n dX11_thief_0 rfl ?_
  refine c_V0p (d' := d - 1) dX11_thief_1 l_X11_186 k_X11_isHouse i_X11_isHouse (Or.inl ⟨_, _, _, _, _, (by first | with_reducible assumption | rfl), by rfl⟩) (by omega) (Nat.le_of_ble_eq_true rfl) (C_isHouse hB hT) ?_
  refine b_eq (tgt := 19) dX11_thief_4 rfl (fun h7 => ?_) (fun h7 => ?_)
  · skip
    exact no (fun z => h7 z.1)
  · refine st_iload_n dX11_thief_7 rfl ?_
    refine st_i2lK dX11_thief_8 (by omega) ?_
    refine st_lc0K dX11_thief_9 ?_
    refine st_ldc2 dX11_thief_10 l_X11_523 ?_
    refine AW.topv (show _ = J 3 from rfl) ?_
    refine c_S3p (d' := d - 1) dX11_thief_13 l_X11_182 k_X11_in s_X11_in (by omega) (Nat.le_of_ble_eq_true rfl) (C_in (by omega) (by omega) (by omega)) ?_
    refine b_ne (tgt := 21) dX11_thief_16 rfl (fun h8 => ?_) (fun h8 => ?_)
    · refine st_aload_n dX11_thief_21 rfl ?_
      rw [show A_thief B what = A_susp (susL B) what from if_pos ⟨h7, h8⟩]
      refine c_V0v (d' := d - 1) dX11_thief_22 l_X11_581 k_X11_findsThieves i_X11_findsThieves (Or.inl ⟨_, _, _, _, _, (by first | with_reducible assumption | rfl), by rfl⟩) (by omega) (Nat.le_of_ble_eq_true rfl) (C_findsThieves (by omega) hB hT h7) (fun M1 N1 hx => ?_)
      obtain ⟨rfl, hE, hH⟩ := hx
      have hq := hE.qk
      have hlen : (susL B).length ≤ 960 := by show (thR _ _ _ _).length ≤ 960; omega
      generalize susL B = L at hlen hH ⊢
      have e5 := hH.1
      refine st_iload_n dX11_thief_25 rfl ?_
      have low : AW0 G d m_X11_thief 36 [some (.ref 112), some (I what)] [] M1 N1 (CV (fun v M' N' => v = I (if what = 0 then ((L.length : Nat) : Int) else -2) ∧ N' = N1 ∧ Qk M M')) := by
        refine st_iload_n dX11_thief_36 rfl ?_
        refine st_if_ne (tgt := 47) dX11_thief_37 (by omega) rfl (fun h9 => ?_) (fun h9 => ?_)
        · refine st_bipush dX11_thief_47 (by decide) ?_
          rw [if_neg h9]
          exact r_i dX11_thief_49 rfl ⟨rfl, rfl, hq⟩
        · refine st_aload_n dX11_thief_40 rfl ?_
          refine st_getfi dX11_thief_41 f_X11_574 (by first | with_reducible assumption | rfl) (by rfl) ?_
          refine st_goto (tgt := 49) dX11_thief_44 rfl ?_
          rw [if_pos h9, e5]
          exact r_i dX11_thief_49 rfl ⟨rfl, rfl, hq⟩
      refine st_if_eq (tgt := 36) dX11_thief_26 (by omega) rfl (fun h9 => ?_) (fun h9 => ?_)
      · skip
        rw [show A_susp L what = (if what = 0 then ((L.length : Nat) : Int) else -2) by rw [A_susp, if_pos h9, if_pos h9]]
        exact low
      · refine st_aload_n dX11_thief_29 rfl ?_
        refine st_getfi dX11_thief_30 f_X11_574 (by first | with_reducible assumption | rfl) (by rfl) ?_
        rw [e5]
        refine st_if_ne (tgt := 50) dX11_thief_33 (by omega) rfl (fun h10 => ?_) (fun h10 => ?_)
        · refine st_iload_n dX11_thief_50 rfl ?_
          refine st_iconst dX11_thief_51 ?_
          have hg := hH.2 0 (by omega)
          rw [show A_susp L what = (if what = 1 then ((L.getD 0 (0, 0, 0)).1 : Nat) else if what = 2 then ((L.getD 0 (0, 0, 0)).2.1 : Nat) else ((L.getD 0 (0, 0, 0)).2.2 : Nat) : Int) by rw [A_susp, if_neg h9, if_neg (by omega)]]
          refine st_icmp_ne (tgt := 64) dX11_thief_52 (by omega) (by omega) rfl (fun h11 => ?_) (fun h11 => ?_)
          · refine st_iload_n dX11_thief_64 rfl ?_
            refine st_iconst dX11_thief_65 ?_
            rw [if_neg h11]
            refine st_icmp_ne (tgt := 78) dX11_thief_66 (by omega) (by omega) rfl (fun h12 => ?_) (fun h12 => ?_)
            · refine st_aload_n dX11_thief_78 rfl ?_
              refine st_getfr dX11_thief_79 f_X11_152 (by first | with_reducible assumption | rfl) (by rfl) ?_
              refine st_iconst dX11_thief_82 ?_
              refine st_ialdK (k' := 0) dX11_thief_83 (by first | with_reducible assumption | rfl) rfl (by omega) (hn := by first | decide | omega) ?_
              rw [if_neg h12, hg.2.2]
              exact r_i dX11_thief_84 rfl ⟨rfl, rfl, hq⟩
            · refine st_aload_n dX11_thief_69 rfl ?_
              refine st_getfr dX11_thief_70 f_X11_149 (by first | with_reducible assumption | rfl) (by rfl) ?_
              refine st_iconst dX11_thief_73 ?_
              refine st_ialdK (k' := 0) dX11_thief_74 (by first | with_reducible assumption | rfl) rfl (by omega) (hn := by first | decide | omega) ?_
              refine st_goto (tgt := 84) dX11_thief_75 rfl ?_
              rw [if_pos h12, hg.2.1]
              exact r_i dX11_thief_84 rfl ⟨rfl, rfl, hq⟩
          · refine st_aload_n dX11_thief_55 rfl ?_
            refine st_getfr dX11_thief_56 f_X11_146 (by first | with_reducible assumption | rfl) (by rfl) ?_
            refine st_iconst dX11_thief_59 ?_
            refine st_ialdK (k' := 0) dX11_thief_60 (by first | with_reducible assumption | rfl) rfl (by omega) (hn := by first | decide | omega) ?_
            refine st_goto (tgt := 84) dX11_thief_61 rfl ?_
            rw [if_pos h11, hg.1]
            exact r_i dX11_thief_84 rfl ⟨rfl, rfl, hq⟩
        · skip
          rw [show A_susp L what = (if what = 0 then ((L.length : Nat) : Int) else -2) by rw [A_susp, if_neg h9, if_neg h9, if_pos (by omega)]]
          exact low
    · skip
      exact no (fun z => h8 z.2)
/-! the next ear -/
abbrev stE (M M1 : q_Mem) : Prop := Exc [159] M M1
theorem holdR_exc {L : List (Nat × Nat × Nat)} {M M1 : q_Mem} (h : holdR L M) (hE : Exc [159] M M1) : holdR L M1 := by
  unfold holdR at *
  rw [hE 112 (by decide), hE 156 (by decide), hE 157 (by decide), hE 158 (by decide)]
  exact h
theorem C_stay {G : q_G} {d : Nat} {M : q_Mem} {N : q_MemL} {L : List (Nat × Nat × Nat)} {r s : Int} (hd : 2 ≤ d) (hH : holdR L M) (hL : okT L) (hr : 0 ≤ r ∧ r ≤ 10) (hs : 0 ≤ s ∧ s ≤ 10) : AC0 G d m_X11_stay [.ref 112, I r, I s] M N (CV (fun x M' N' => x = I (mstT L r s L.length) ∧ N' = N ∧ Exc [159] M M')) := by
  refine AC.of (L0 := [_, _, _, none, none, none]) pn_X11 (Nat.le_of_ble_eq_true rfl) rfl ?_
  refine st_iconst dX11_stay_0 ?_
  refine st_istore_n (L' := [_, _, _, _, _, _]) dX11_stay_1 (by decide) rfl rfl ?_
  have z : ∀ (q k : Nat) (M1 : q_Mem), k + q = 31 → Exc [159] M M1 → (∀ h, h < k → M1 159 h = 0) → (∀ (M2 : q_Mem) (l3 : Option Value), Exc [159] M M2 → (∀ h, h < 31 → M2 159 h = 0) → AW0 G d m_X11_stay 21 [some (.ref 112), some (I r), some (I s), l3, none, none] [] M2 N (CV (fun x M' N' => x = I (mstT L r s L.length) ∧ N' = N ∧ Exc [159] M M'))) → AW0 G d m_X11_stay 2 [some (.ref 112), some (I r), some (I s), some (I k), none, none] [] M1 N (CV (fun x M' N' => x = I (mstT L r s L.length) ∧ N' = N ∧ Exc [159] M M')) := by
    intro q
    induction q with
    | zero =>
      intro k M1 hk hE hz kk
      refine st_iload_n dX11_stay_2 rfl ?_
      refine st_bipush dX11_stay_3 (by decide) ?_
      refine st_icmp_gt (tgt := 21) dX11_stay_5 (by omega) (by omega) rfl (fun h => ?_) (fun h => ?_)
      · skip
        exact kk M1 _ hE (fun h hh => hz h (by omega))
      · skip
        omega
    | succ q ih =>
      intro k M1 hk hE hz kk
      refine st_iload_n dX11_stay_2 rfl ?_
      refine st_bipush dX11_stay_3 (by decide) ?_
      refine st_icmp_gt (tgt := 21) dX11_stay_5 (by omega) (by omega) rfl (fun h => ?_) (fun h => ?_)
      · skip
        omega
      · refine st_aload_n dX11_stay_8 rfl ?_
        refine st_getfr dX11_stay_9 f_X11_155 (by first | with_reducible assumption | rfl) (by rfl) ?_
        refine st_iload_n dX11_stay_12 rfl ?_
        refine st_iconst dX11_stay_13 ?_
        first | refine st_iastK (k' := _) dX11_stay_14 (by first | with_reducible assumption | rfl) rfl (by omega) (hn := by first | decide | omega) ?_ | refine st_iast dX11_stay_14 (by first | with_reducible assumption | rfl) (by omega) (by omega) (hn := by first | decide | omega) ?_
        refine st_iinc (L' := [_, _, _, _, _, _]) dX11_stay_15 rfl (by decide) rfl rfl ?_
        refine st_goto (tgt := 2) dX11_stay_18 rfl ?_
        refine AW.to (ih (k + 1) (q_up M1 159 k 0) (by omega) (hE.tr (Exc.up (by decide))) (fun h hh => ?_) kk) (h2 := by simp)
        by_cases e : h = k
        · rw [e]; simp [q_up]
        · rw [← hz h (by omega)]; simp [q_up, e]
  refine AW.to (z 31 0 M (Nat.zero_add _) Exc.rf (fun h hh => absurd hh (by omega)) (fun M1 l3 hE1 h110 => ?_))
  refine st_iconst dX11_stay_21 ?_
  refine st_istore_n (L' := [_, _, _, _, _, _]) dX11_stay_22 (by decide) rfl rfl ?_
  refine st_iconst dX11_stay_23 ?_
  refine st_istore (L' := [_, _, _, _, _, _]) dX11_stay_24 (by decide) rfl rfl ?_
  have loop : ∀ (q k : Nat) (M1 : q_Mem), k + q = L.length → Exc [159] M M1 → (∀ h : Nat, h < 31 → M1 159 h = cnH L r s k h) → {l5 : Option Value} → AW0 G d m_X11_stay 26 [some (.ref 112), some (I r), some (I s), some (I (mstT L r s k)), some (I k), l5] [] M1 N (CV (fun x M' N' => x = I (mstT L r s L.length) ∧ N' = N ∧ Exc [159] M M')) := by
    intro q
    induction q with
    | zero =>
      intro k M1 hk hE hc l5
      have hH1 := holdR_exc hH hE
      have hl := hL.1
      refine st_iload dX11_stay_26 rfl ?_
      refine st_aload_n dX11_stay_28 rfl ?_
      refine st_getfi dX11_stay_29 f_X11_574 (by first | with_reducible assumption | rfl) (by rfl) ?_
      rw [hH1.1]
      refine st_icmp_ge (tgt := 103) dX11_stay_32 (by omega) (by omega) rfl (fun h => ?_) (fun h => ?_)
      · refine st_iload_n dX11_stay_103 rfl ?_
        exact r_i dX11_stay_104 rfl ⟨by rw [show k = L.length by omega], rfl, hE⟩
      · skip
        omega
    | succ q ih =>
      intro k M1 hk hE hc l5
      have hH1 := holdR_exc hH hE
      have hl := hL.1
      have hj := hH1.2 k (by omega)
      have ho := hL.2 k (by omega)
      have hm := mstT_rng L r s k
      have hh := hmh_rng (a := r - ((L.getD k (0, 0, 0)).1 : Nat)) (b := s - ((L.getD k (0, 0, 0)).2.1 : Nat)) (h := ((L.getD k (0, 0, 0)).2.2 : Nat)) (by omega)
      have hhr : hmh (r - ((L.getD k (0, 0, 0)).1 : Nat)) (s - ((L.getD k (0, 0, 0)).2.1 : Nat)) ((L.getD k (0, 0, 0)).2.2 : Nat) = hrT L r s k := rfl
      refine st_iload dX11_stay_26 rfl ?_
      refine st_aload_n dX11_stay_28 rfl ?_
      refine st_getfi dX11_stay_29 f_X11_574 (by first | with_reducible assumption | rfl) (by rfl) ?_
      rw [hH1.1]
      refine st_icmp_ge (tgt := 103) dX11_stay_32 (by omega) (by omega) rfl (fun h => ?_) (fun h => ?_)
      · skip
        omega
      · refine st_iload_n dX11_stay_35 rfl ?_
        refine st_iload_n dX11_stay_36 rfl ?_
        refine st_aload_n dX11_stay_37 rfl ?_
        refine st_getfr dX11_stay_38 f_X11_146 (by first | with_reducible assumption | rfl) (by rfl) ?_
        refine st_iload dX11_stay_41 rfl ?_
        first | refine st_ialdK (k' := _) dX11_stay_43 (by first | with_reducible assumption | rfl) rfl (by omega) (hn := by first | decide | omega) ?_ | refine st_iald dX11_stay_43 (by first | with_reducible assumption | rfl) (by omega) (by omega) (hn := by first | decide | omega) ?_
        rw [hj.1]
        refine st_aload_n dX11_stay_44 rfl ?_
        refine st_getfr dX11_stay_45 f_X11_149 (by first | with_reducible assumption | rfl) (by rfl) ?_
        refine st_iload dX11_stay_48 rfl ?_
        first | refine st_ialdK (k' := _) dX11_stay_50 (by first | with_reducible assumption | rfl) rfl (by omega) (hn := by first | decide | omega) ?_ | refine st_iald dX11_stay_50 (by first | with_reducible assumption | rfl) (by omega) (by omega) (hn := by first | decide | omega) ?_
        rw [hj.2.1]
        refine st_aload_n dX11_stay_51 rfl ?_
        refine st_getfr dX11_stay_52 f_X11_152 (by first | with_reducible assumption | rfl) (by rfl) ?_
        refine st_iload dX11_stay_55 rfl ?_
        first | refine st_ialdK (k' := _) dX11_stay_57 (by first | with_reducible assumption | rfl) rfl (by omega) (hn := by first | decide | omega) ?_ | refine st_iald dX11_stay_57 (by first | with_reducible assumption | rfl) (by omega) (by omega) (hn := by first | decide | omega) ?_
        rw [hj.2.2]
        refine c_S5p (d' := d - 1) dX11_stay_58 l_X11_570 k_X11_hummed s_X11_hummed (by omega) (Nat.le_of_ble_eq_true rfl) (C_hummed (by omega) (by omega) (by omega) (by omega) (by omega) (by omega)) ?_
        rw [hhr]
        rw [hhr] at hh
        have hcn := cnt_rng (fun j => hrT L r s j = hrT L r s k) k
        have hck := hc (hrT L r s k).toNat (by omega)
        rw [show (((hrT L r s k).toNat : Nat) : Int) = hrT L r s k by omega] at hck
        have hcs : cnH L r s (k + 1) (hrT L r s k) = cnH L r s k (hrT L r s k) + 1 := by
          show cnt _ _ = _
          rw [cnt_succ, if_pos rfl]
          rfl
        have hcr : 0 ≤ cnH L r s k (hrT L r s k) ∧ cnH L r s k (hrT L r s k) ≤ k := hcn
        refine st_istore (L' := [_, _, _, _, _, _]) dX11_stay_61 (by decide) rfl rfl ?_
        refine st_aload_n dX11_stay_63 rfl ?_
        refine st_getfr dX11_stay_64 f_X11_155 (by first | with_reducible assumption | rfl) (by rfl) ?_
        refine st_iload dX11_stay_67 rfl ?_
        refine st_dup2 dX11_stay_69 rfl rfl ?_
        refine st_iald dX11_stay_70 sh_159 (by omega) (by omega) ?_
        rw [hck]
        refine st_iconst dX11_stay_71 ?_
        refine st_iadd dX11_stay_72 ?_
        refine st_iast dX11_stay_73 sh_159 (by omega) (by omega) ?_
        have hnew : ∀ h : Nat, h < 31 → q_up M1 159 (hrT L r s k).toNat (cnH L r s k (hrT L r s k) + 1) 159 h = cnH L r s (k + 1) h := by
          intro h hh2
          by_cases e : h = (hrT L r s k).toNat
          · subst e
            rw [show (((hrT L r s k).toNat : Nat) : Int) = hrT L r s k by omega, hcs]
            simp [q_up]
          · have e2 : q_up M1 159 (hrT L r s k).toNat (cnH L r s k (hrT L r s k) + 1) 159 h = M1 159 h := by simp [q_up, e]
            rw [e2, hc h hh2]
            show _ = cnt _ _
            rw [cnt_succ, if_neg (by omega)]
            show _ = cnH L r s k h + 0
            omega
        have hE2 : Exc [159] M (q_up M1 159 (hrT L r s k).toNat (cnH L r s k (hrT L r s k) + 1)) := hE.tr (Exc.up (by decide))
        have hat : q_up M1 159 (hrT L r s k).toNat (cnH L r s k (hrT L r s k) + 1) 159 (hrT L r s k).toNat = cnH L r s k (hrT L r s k) + 1 := by simp [q_up]
        generalize q_up M1 159 (hrT L r s k).toNat (cnH L r s k (hrT L r s k) + 1) = M2 at *
        have hmx : mstT L r s (k + 1) = max (mstT L r s k) (cnH L r s (k + 1) (hrT L r s k)) := rfl
        rw [hcs] at hmx
        refine st_aload_n dX11_stay_74 rfl ?_
        refine st_getfr dX11_stay_75 f_X11_155 (by first | with_reducible assumption | rfl) (by rfl) ?_
        refine st_iload dX11_stay_78 rfl ?_
        refine st_iald dX11_stay_80 sh_159 (by omega) (by omega) ?_
        rw [hat]
        refine st_iload_n dX11_stay_81 rfl ?_
        refine st_icmp_le (tgt := 95) dX11_stay_82 (by omega) (by omega) rfl (fun h6 => ?_) (fun h6 => ?_)
        · refine st_iload_n dX11_stay_95 rfl ?_
          refine st_istore_n (L' := [_, _, _, _, _, _]) dX11_stay_96 (by decide) rfl rfl ?_
          refine st_iinc (L' := [_, _, _, _, _, _]) dX11_stay_97 rfl (by decide) rfl rfl ?_
          refine st_goto (tgt := 26) dX11_stay_100 rfl ?_
          exact AW.to (ih (k + 1) M2 (by omega) hE2 hnew (l5 := some (I (hrT L r s k)))) (h2 := by rw [show mstT L r s (k + 1) = mstT L r s k by omega]; simp)
        · refine st_aload_n dX11_stay_85 rfl ?_
          refine st_getfr dX11_stay_86 f_X11_155 (by first | with_reducible assumption | rfl) (by rfl) ?_
          refine st_iload dX11_stay_89 rfl ?_
          refine st_iald dX11_stay_91 sh_159 (by omega) (by omega) ?_
          rw [hat]
          refine st_goto (tgt := 96) dX11_stay_92 rfl ?_
          refine st_istore_n (L' := [_, _, _, _, _, _]) dX11_stay_96 (by decide) rfl rfl ?_
          refine st_iinc (L' := [_, _, _, _, _, _]) dX11_stay_97 rfl (by decide) rfl rfl ?_
          refine st_goto (tgt := 26) dX11_stay_100 rfl ?_
          exact AW.to (ih (k + 1) M2 (by omega) hE2 hnew (l5 := some (I (hrT L r s k)))) (h2 := by rw [show mstT L r s (k + 1) = cnH L r s k (hrT L r s k) + 1 by omega]; simp)
  refine AW.to (loop L.length 0 M1 (by omega) hE1 (fun h hh => by rw [h110 h hh]; rfl) (l5 := none))
/-- the best so far, as the reference keeps it: room (-1: none yet), storey, how many -/
def neS (n : Nat) (z : Int × Int × Int) : Int × Int × Int := if z.1 = (n : Int) + 1 then (-1, 0, 0) else (z.2.1, z.2.2, z.1)
/-- what is kept of the best: it is none yet, or a place -/
def neI (n : Nat) (z : Int × Int × Int) : Prop := (z = ((n : Int) + 1, 0, 0)) ∨ ((0 ≤ z.1 ∧ z.1 ≤ n) ∧ (0 ≤ z.2.1 ∧ z.2.1 ≤ 10) ∧ 0 ≤ z.2.2 ∧ z.2.2 ≤ 10)
theorem neI_st {L : List (Nat × Nat × Nat)} {s n : Nat} {z : Int × Int × Int} (hs : s ≤ 10) (hn : n ≤ 10) (h : neI L.length z) : neI L.length (if mstT L n s L.length < z.1 then (mstT L n s L.length, (n : Int), (s : Int)) else z) := by
  have hm := mstT_rng L n s L.length
  split
  · refine Or.inr ⟨⟨?_, ?_⟩, ⟨?_, ?_⟩, ?_, ?_⟩
    · exact hm.1
    · exact hm.2
    · show (0 : Int) ≤ n; omega
    · show (n : Int) ≤ 10; omega
    · show (0 : Int) ≤ s; omega
    · show (s : Int) ≤ 10; omega
  · exact h
theorem bpI_neI {L : List (Nat × Nat × Nat)} {s : Nat} (hs : s ≤ 10) : ∀ {n : Nat} {z : Int × Int × Int}, n ≤ 10 → neI L.length z → neI L.length (bpI L s n z)
  | 0, _, _, h => h
  | n + 1, z, hn, h => by
    unfold bpI
    exact neI_st hs (by omega) (bpI_neI hs (by omega) h)
theorem bpO_neI {L : List (Nat × Nat × Nat)} {nr : Nat} (hn : nr ≤ 10) : ∀ {s : Nat}, s ≤ 10 → neI L.length (bpO L nr s)
  | 0, _ => Or.inl rfl
  | s + 1, h => bpI_neI (by omega) hn (bpO_neI hn (by omega))
theorem bpI_set {L : List (Nat × Nat × Nat)} {s : Int} {n : Nat} {z : Int × Int × Int} : (bpI L s (n + 1) z).1 ≤ L.length := by
  have hm := mstT_rng L n s L.length
  unfold bpI
  split
  · exact hm.2
  · omega
theorem C_rnextEar {G : q_G} {d : Nat} {B M : q_Mem} {N : q_MemL} {what : Int} (hd : 4 ≤ d) (hN : RN B M) (hw : i32 what) : AC0 G d m_X11_nextEar [.ref 112, I what] M N (CV (fun v M' N' => v = I (A_nextEar B what) ∧ N' = N ∧ Qk M M')) := by
  obtain ⟨hB, hT, hP, hW, hb6⟩ := id hN
  obtain ⟨h0, h1, h2, h3, h4, h5, h6, h11, h12, h13, h15, h17, h18, hb, hc, hw0, hv, hp, he, ht1, ht0⟩ := id hB
  have hTk := thR_okT (E := B 9) (ne := (B 3 17).toNat) (ns := (B 3 3).toNat) (nr := (B 3 1).toNat) (by omega) (by omega)
  have hww := hw
  unfold i32 at hww
  have no : ¬ (B 3 0 = 1 ∧ 0 ≤ what ∧ what ≤ 2) → AW0 G d m_X11_nextEar 19 [some (.ref 112), some (I what), none, none, none, none, none, none] [] M N (CV (fun v M' N' => v = I (A_nextEar B what) ∧ N' = N ∧ Qk M M')) := by
    intro h
    refine st_iconst dX11_nextEar_19 ?_
    exact r_i dX11_nextEar_20 rfl ⟨by rw [A_nextEar, if_neg h], rfl, Qk.rf⟩
  refine AC.of (L0 := [_, _, none, none, none, none, none, none]) pn_X11 (Nat.le_of_ble_eq_true rfl) rfl ?_
  refine st_aload_n dX11_nextEar_0 rfl ?_
  refine c_V0p (d' := d - 1) dX11_nextEar_1 l_X11_186 k_X11_isHouse i_X11_isHouse (Or.inl ⟨_, _, _, _, _, (by first | with_reducible assumption | rfl), by rfl⟩) (by omega) (Nat.le_of_ble_eq_true rfl) (C_isHouse hB hT) ?_
  refine b_eq (tgt := 19) dX11_nextEar_4 rfl (fun h7 => ?_) (fun h7 => ?_)
  · skip
    exact no (fun z => h7 z.1)
  · refine st_iload_n dX11_nextEar_7 rfl ?_
    refine st_i2lK dX11_nextEar_8 (by omega) ?_
    refine st_lc0K dX11_nextEar_9 ?_
    refine st_ldc2 dX11_nextEar_10 l_X11_506 ?_
    refine AW.topv (show _ = J 2 from rfl) ?_
    refine c_S3p (d' := d - 1) dX11_nextEar_13 l_X11_182 k_X11_in s_X11_in (by omega) (Nat.le_of_ble_eq_true rfl) (C_in (by omega) (by omega) (by omega)) ?_
    refine b_ne (tgt := 21) dX11_nextEar_16 rfl (fun h8 => ?_) (fun h8 => ?_)
    · refine st_aload_n dX11_nextEar_21 rfl ?_
      rw [show A_nextEar B what = A_best (susL B) (B 3 1).toNat (B 3 3).toNat what from if_pos ⟨h7, h8⟩]
      have hto := ht1 h7
      refine c_V0v (d' := d - 1) dX11_nextEar_22 l_X11_581 k_X11_findsThieves i_X11_findsThieves (Or.inl ⟨_, _, _, _, _, (by first | with_reducible assumption | rfl), by rfl⟩) (by omega) (Nat.le_of_ble_eq_true rfl) (C_findsThieves (by omega) hB hT h7) (fun M1 N1 hx => ?_)
      obtain ⟨rfl, hE, hH⟩ := hx
      have hTe : ∀ M2, Exc [159] M1 M2 → RT B M2 := fun M2 hE2 => (hT.exc hE.1 (fun j _ _ => by rw [hE.1 113 (by decide)]) (by decide)).exc hE2 (fun j _ _ => by rw [hE2 113 (by decide)]) (by decide)
      have hqk : ∀ M2, Exc [159] M1 M2 → Qk M M2 := fun M2 hE2 => hE.qk.tr (Qk.sc hE2 (by decide))
      rw [show thR (B 9) (B 3 17).toNat (B 3 3).toNat (B 3 1).toNat = susL B from rfl] at hTk
      generalize susL B = L at hTk hH ⊢
      have e5 := hH.1
      have hl := hTk.1
      have hnI := fun s (hs : s ≤ 10) => bpO_neI (L := L) (nr := (B 3 1).toNat) (by omega) hs
      refine st_aload_n dX11_nextEar_25 rfl ?_
      refine st_getfi dX11_nextEar_26 f_X11_574 (by first | with_reducible assumption | rfl) (by rfl) ?_
      rw [e5]
      refine st_if_ne (tgt := 35) dX11_nextEar_29 (by omega) rfl (fun h9 => ?_) (fun h9 => ?_)
      · refine st_iconst dX11_nextEar_35 ?_
        refine st_istore_n (L' := [_, _, _, _, _, _, _, _]) dX11_nextEar_36 (by decide) rfl rfl ?_
        refine st_iconst dX11_nextEar_37 ?_
        refine st_istore_n (L' := [_, _, _, _, _, _, _, _]) dX11_nextEar_38 (by decide) rfl rfl ?_
        refine st_iconst dX11_nextEar_39 ?_
        refine st_istore (L' := [_, _, _, _, _, _, _, _]) dX11_nextEar_40 (by decide) rfl rfl ?_
        refine st_iconst dX11_nextEar_42 ?_
        refine st_istore (L' := [_, _, _, _, _, _, _, _]) dX11_nextEar_43 (by decide) rfl rfl ?_
        have inner : ∀ (Q : q_Q0) (s : Nat), s < 8 → ∀ (q n : Nat) (M2 : q_Mem), n + q = (B 3 1).toNat → Exc [159] M1 M2 → {l7 : Option Value} →
            (∀ (M3 : q_Mem) (l6 l7 : Option Value), Exc [159] M1 M3 → AW0 G d m_X11_nextEar 108 [some (.ref 112), some (I what), some (I (neS L.length (bpO L (B 3 1).toNat (s + 1))).1), some (I (neS L.length (bpO L (B 3 1).toNat (s + 1))).2.1), some (I (neS L.length (bpO L (B 3 1).toNat (s + 1))).2.2), some (I s), l6, l7] [] M3 N1 Q) →
            AW0 G d m_X11_nextEar 59 [some (.ref 112), some (I what), some (I (neS L.length (bpI L s n (bpO L (B 3 1).toNat s))).1), some (I (neS L.length (bpI L s n (bpO L (B 3 1).toNat s))).2.1), some (I (neS L.length (bpI L s n (bpO L (B 3 1).toNat s))).2.2), some (I s), some (I n), l7] [] M2 N1 Q := by
          intro Q s hs q
          induction q with
          | zero =>
            intro n M2 hn hE2 l7 kk
            have e3 := (hTe M2 hE2).1.1
            refine st_iload dX11_nextEar_59 rfl ?_
            refine st_aload_n dX11_nextEar_61 rfl ?_
            refine st_getfr dX11_nextEar_62 f_X11_9 (by first | with_reducible assumption | rfl) (by rfl) ?_
            refine st_iconst dX11_nextEar_65 ?_
            refine st_ialdK (k' := 0) dX11_nextEar_66 (by first | with_reducible assumption | rfl) rfl (by omega) (hn := by first | decide | omega) ?_
            rw [e3]
            refine st_icmp_ge (tgt := 108) dX11_nextEar_67 (by omega) (by omega) rfl (fun h => ?_) (fun h => ?_)
            · skip
              have e := kk M2 (some (I n)) l7 hE2
              rw [show bpO L (B 3 1).toNat (s + 1) = bpI L s n (bpO L (B 3 1).toNat s) by rw [show n = (B 3 1).toNat by omega]; rfl] at e
              exact e
            · skip
              omega
          | succ q ih =>
            intro n M2 hn hE2 l7 kk
            have e3 := (hTe M2 hE2).1.1
            have hm := mstT_rng L n s L.length
            have hI := bpI_neI (L := L) (s := s) (by omega) (n := n) (by omega) (hnI s (by omega))
            have hbp : bpI L s (n + 1) (bpO L (B 3 1).toNat s) = if mstT L n s L.length < (bpI L s n (bpO L (B 3 1).toNat s)).1 then (mstT L n s L.length, (n : Int), (s : Int)) else bpI L s n (bpO L (B 3 1).toNat s) := rfl
            generalize bpI L s n (bpO L (B 3 1).toNat s) = z at *
            refine st_iload dX11_nextEar_59 rfl ?_
            refine st_aload_n dX11_nextEar_61 rfl ?_
            refine st_getfr dX11_nextEar_62 f_X11_9 (by first | with_reducible assumption | rfl) (by rfl) ?_
            refine st_iconst dX11_nextEar_65 ?_
            refine st_ialdK (k' := 0) dX11_nextEar_66 (by first | with_reducible assumption | rfl) rfl (by omega) (hn := by first | decide | omega) ?_
            rw [e3]
            refine st_icmp_ge (tgt := 108) dX11_nextEar_67 (by omega) (by omega) rfl (fun h => ?_) (fun h => ?_)
            · skip
              omega
            · refine st_aload_n dX11_nextEar_70 rfl ?_
              refine st_iload dX11_nextEar_71 rfl ?_
              refine st_iload dX11_nextEar_73 rfl ?_
              refine c_V2i (d' := d - 1) dX11_nextEar_75 l_X11_584 k_X11_stay i_X11_stay (Or.inl ⟨_, _, _, _, _, (by first | with_reducible assumption | rfl), by rfl⟩) (by omega) (Nat.le_of_ble_eq_true rfl) (C_stay (by omega) (holdR_exc hH hE2) hTk (by omega) (by omega)) (fun x M3 N3 hx => ?_)
              obtain ⟨rfl, rfl, hE3⟩ := hx
              have hE4 : Exc [159] M1 M3 := hE2.tr hE3
              have up : mstT L n s L.length < z.1 → AW0 G d m_X11_nextEar 92 [some (.ref 112), some (I what), some (I (neS L.length z).1), some (I (neS L.length z).2.1), some (I (neS L.length z).2.2), some (I s), some (I n), some (I (mstT L n s L.length))] [] M3 N3 Q := by
                intro hlt
                rw [if_pos hlt] at hbp
                refine st_iload dX11_nextEar_92 rfl ?_
                refine st_istore_n (L' := [_, _, _, _, _, _, _, _]) dX11_nextEar_94 (by decide) rfl rfl ?_
                refine st_iload dX11_nextEar_95 rfl ?_
                refine st_istore_n (L' := [_, _, _, _, _, _, _, _]) dX11_nextEar_97 (by decide) rfl rfl ?_
                refine st_iload dX11_nextEar_98 rfl ?_
                refine st_istore (L' := [_, _, _, _, _, _, _, _]) dX11_nextEar_100 (by decide) rfl rfl ?_
                refine st_iinc (L' := [_, _, _, _, _, _, _, _]) dX11_nextEar_102 rfl (by decide) rfl rfl ?_
                refine st_goto (tgt := 59) dX11_nextEar_105 rfl ?_
                refine AW.to (ih (n + 1) M3 (by omega) hE4 kk (l7 := some (I (mstT L n s L.length)))) (h2 := ?_)
                rw [hbp]
                unfold neS
                rw [if_neg (by show ¬ mstT L n s L.length = (L.length : Int) + 1; omega)]
                simp
              have keep : ¬ mstT L n s L.length < z.1 → AW0 G d m_X11_nextEar 102 [some (.ref 112), some (I what), some (I (neS L.length z).1), some (I (neS L.length z).2.1), some (I (neS L.length z).2.2), some (I s), some (I n), some (I (mstT L n s L.length))] [] M3 N3 Q := by
                intro hlt
                rw [if_neg hlt] at hbp
                refine st_iinc (L' := [_, _, _, _, _, _, _, _]) dX11_nextEar_102 rfl (by decide) rfl rfl ?_
                refine st_goto (tgt := 59) dX11_nextEar_105 rfl ?_
                exact AW.to (ih (n + 1) M3 (by omega) hE4 kk (l7 := some (I (mstT L n s L.length)))) (h2 := by rw [hbp]; simp)
              have rz : (-1 ≤ (neS L.length z).1 ∧ (neS L.length z).1 ≤ 10) ∧ 0 ≤ (neS L.length z).2.2 ∧ (neS L.length z).2.2 ≤ 1000 := by
                unfold neS
                rcases hI with rfl | hI
                · rw [if_pos rfl]; simp
                · rw [if_neg (by omega)]
                  simp only
                  omega
              refine st_istore (L' := [_, _, _, _, _, _, _, _]) dX11_nextEar_78 (by decide) rfl rfl ?_
              refine st_iload_n dX11_nextEar_80 rfl ?_
              refine st_iconst dX11_nextEar_81 ?_
              refine st_icmp_eq (tgt := 92) dX11_nextEar_82 (by omega) (by omega) rfl (fun h10 => ?_) (fun h10 => ?_)
              · skip
                refine up ?_
                rcases hI with rfl | hI
                · show _ < (L.length : Int) + 1; omega
                · unfold neS at h10
                  rw [if_neg (by omega)] at h10
                  simp only at h10
                  omega
              · refine st_iload dX11_nextEar_85 rfl ?_
                refine st_iload dX11_nextEar_87 rfl ?_
                have hzI : ¬ z.1 = (L.length : Int) + 1 := fun e => h10 (by unfold neS; rw [if_pos e])
                have ez : (neS L.length z).2.2 = z.1 := by unfold neS; rw [if_neg hzI]
                refine st_icmp_ge (tgt := 102) dX11_nextEar_89 (by omega) (by omega) rfl (fun h11 => ?_) (fun h11 => ?_)
                · skip
                  exact keep (by omega)
                · skip
                  exact up (by omega)
        have outer : ∀ (q s : Nat) (M2 : q_Mem), s + q = (B 3 3).toNat → Exc [159] M1 M2 → {l6 l7 : Option Value} → AW0 G d m_X11_nextEar 45 [some (.ref 112), some (I what), some (I (neS L.length (bpO L (B 3 1).toNat s)).1), some (I (neS L.length (bpO L (B 3 1).toNat s)).2.1), some (I (neS L.length (bpO L (B 3 1).toNat s)).2.2), some (I s), l6, l7] [] M2 N1 (CV (fun v M' N' => v = I (A_best L (B 3 1).toNat (B 3 3).toNat what) ∧ N' = N1 ∧ Qk M M')) := by
          intro q
          induction q with
          | zero =>
            intro s M2 hs hE2 l6 l7
            have hss : s = (B 3 3).toNat := by omega
            have e3 := (hTe M2 hE2).1.2.2.1
            have hset : ¬ (bpO L (B 3 1).toNat s).1 = (L.length : Int) + 1 := by
              obtain ⟨s', rfl⟩ : ∃ s', s = s' + 1 := ⟨s - 1, by omega⟩
              have := bpI_set (L := L) (s := s') (n := (B 3 1).toNat - 1) (z := bpO L (B 3 1).toNat s')
              rw [show (B 3 1).toNat - 1 + 1 = (B 3 1).toNat by omega] at this
              show ¬ (bpI L s' (B 3 1).toNat (bpO L (B 3 1).toNat s')).1 = _
              omega
            have en : neS L.length (bpO L (B 3 1).toNat s) = ((bpO L (B 3 1).toNat s).2.1, (bpO L (B 3 1).toNat s).2.2, (bpO L (B 3 1).toNat s).1) := if_neg hset
            rw [en]
            have hA : A_best L (B 3 1).toNat (B 3 3).toNat what = if what = 0 then (bpO L (B 3 1).toNat s).2.1 else if what = 1 then (bpO L (B 3 1).toNat s).2.2 else (bpO L (B 3 1).toNat s).1 := by rw [A_best, ← hss, if_neg (by omega)]
            rw [hA]
            refine st_iload dX11_nextEar_45 rfl ?_
            refine st_aload_n dX11_nextEar_47 rfl ?_
            refine st_getfr dX11_nextEar_48 f_X11_9 (by first | with_reducible assumption | rfl) (by rfl) ?_
            refine st_iconst dX11_nextEar_51 ?_
            refine st_ialdK (k' := 2) dX11_nextEar_52 (by first | with_reducible assumption | rfl) rfl (by omega) (hn := by first | decide | omega) ?_
            rw [e3]
            refine st_icmp_gt (tgt := 114) dX11_nextEar_53 (by omega) (by omega) rfl (fun h => ?_) (fun h => ?_)
            · refine st_iload_n dX11_nextEar_114 rfl ?_
              refine st_if_ne (tgt := 122) dX11_nextEar_115 (by omega) rfl (fun h10 => ?_) (fun h10 => ?_)
              · refine st_iload_n dX11_nextEar_122 rfl ?_
                refine st_iconst dX11_nextEar_123 ?_
                refine st_icmp_ne (tgt := 131) dX11_nextEar_124 (by omega) (by omega) rfl (fun h11 => ?_) (fun h11 => ?_)
                · refine st_iload dX11_nextEar_131 rfl ?_
                  exact r_i dX11_nextEar_133 rfl ⟨by rw [if_neg h10, if_neg h11], rfl, hqk M2 hE2⟩
                · refine st_iload_n dX11_nextEar_127 rfl ?_
                  refine st_goto (tgt := 133) dX11_nextEar_128 rfl ?_
                  exact r_i dX11_nextEar_133 rfl ⟨by rw [if_neg h10, if_pos h11], rfl, hqk M2 hE2⟩
              · refine st_iload_n dX11_nextEar_118 rfl ?_
                refine st_goto (tgt := 133) dX11_nextEar_119 rfl ?_
                exact r_i dX11_nextEar_133 rfl ⟨by rw [if_pos h10], rfl, hqk M2 hE2⟩
            · skip
              omega
          | succ q ih =>
            intro s M2 hs hE2 l6 l7
            have e3 := (hTe M2 hE2).1.2.2.1
            refine st_iload dX11_nextEar_45 rfl ?_
            refine st_aload_n dX11_nextEar_47 rfl ?_
            refine st_getfr dX11_nextEar_48 f_X11_9 (by first | with_reducible assumption | rfl) (by rfl) ?_
            refine st_iconst dX11_nextEar_51 ?_
            refine st_ialdK (k' := 2) dX11_nextEar_52 (by first | with_reducible assumption | rfl) rfl (by omega) (hn := by first | decide | omega) ?_
            rw [e3]
            refine st_icmp_gt (tgt := 114) dX11_nextEar_53 (by omega) (by omega) rfl (fun h => ?_) (fun h => ?_)
            · skip
              omega
            · refine st_iconst dX11_nextEar_56 ?_
              refine st_istore (L' := [_, _, _, _, _, _, _, _]) dX11_nextEar_57 (by decide) rfl rfl ?_
              refine AW.to (inner _ s (by omega) (B 3 1).toNat 0 M2 (Nat.zero_add _) hE2 (fun M3 l6 l7 hE3 => ?_) (l7 := l7))
              refine st_iinc (L' := [_, _, _, _, _, _, _, _]) dX11_nextEar_108 rfl (by decide) rfl rfl ?_
              refine st_goto (tgt := 45) dX11_nextEar_111 rfl ?_
              exact AW.to (ih (s + 1) M3 (by omega) hE3 (l6 := l6) (l7 := l7)) (h2 := by simp)
        exact AW.to (outer _ 0 M1 (Nat.zero_add _) Exc.rf (l6 := none) (l7 := none)) (h2 := by
          show _ = [_, _, some (I (neS L.length ((L.length : Nat) + 1, 0, 0)).1), some (I (neS L.length ((L.length : Nat) + 1, 0, 0)).2.1), some (I (neS L.length ((L.length : Nat) + 1, 0, 0)).2.2), _, _, _]
          unfold neS
          simp)
      · refine st_bipush dX11_nextEar_32 (by decide) ?_
        exact r_i dX11_nextEar_34 rfl ⟨by rw [A_best, if_pos (by omega)], rfl, hqk M1 Exc.rf⟩
    · skip
      exact no (fun z => h8 z.2)


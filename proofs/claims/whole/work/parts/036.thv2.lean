/-! the system's Thieves: all who fit, the best place for the next ear -/
/-- nothing else is touched but the thieves -/
abbrev thX : List Nat := [106, 107, 108, 109]
theorem C_thGather {G : q_G} {d : Nat} {M : q_Mem} {N : q_MemL} (hd : 3 ≤ d) (h1 : 0 ≤ M 3 1 ∧ M 3 1 ≤ 4) (h3 : 0 ≤ M 3 3 ∧ M 3 3 ≤ 8) (h17 : 0 ≤ M 3 17 ∧ M 3 17 ≤ 8) (h9 : ∀ k, -1 ≤ M 9 k ∧ M 9 k ≤ 100) : AC0 G d m_X9_gather [.ref 106] M N (CN (fun M' N' => N' = N ∧ Exc thX M M' ∧ holdT (thR (M 9) (M 3 17).toNat (M 3 3).toNat (M 3 1).toNat) M')) := by
  have hlR := thR_len (M 9) (M 3 17).toNat (M 3 3).toNat (by omega)
  have hlS := fun r => thS_len (M 9) (M 3 17).toNat r
  have hlK := fun r s => thK_len (M 9) (M 3 17).toNat r s
  refine AC.of (L0 := [_, none, none, none]) pn_X9 (Nat.le_of_ble_eq_true rfl) rfl ?_
  refine st_aload_n dX9_gather_0 rfl ?_
  refine st_iconst dX9_gather_1 ?_
  refine st_putfi dX9_gather_2 w_X9_31 (by first | assumption | rfl) (by rfl) rfl rfl ?_
  refine st_iconst dX9_gather_5 ?_
  refine st_istore_n (L' := [_, _, _, _]) dX9_gather_6 (by decide) rfl rfl ?_
  have inner : ∀ (Q : q_Q0) (r s : Nat), r < 4 → s < 8 → ∀ (q n : Nat) (M1 : q_Mem) (L : List (Nat × Nat × Nat)), n + q = 30 → L.length ≤ 930 → Exc thX M M1 → holdT (L ++ thK (M 9) (M 3 17).toNat r s n) M1 →
      (∀ (M2 : q_Mem) (l3 : Option Value), Exc thX M M2 → holdT (L ++ thK (M 9) (M 3 17).toNat r s 30) M2 → AW0 G d m_X9_gather 101 [some (.ref 106), some (I r), some (I s), l3] [] M2 N Q) →
      AW0 G d m_X9_gather 33 [some (.ref 106), some (I r), some (I s), some (I (n + 1))] [] M1 N Q := by
    intro Q r s hr hs q
    induction q with
    | zero =>
      intro n M1 L hn hL hE hH kk
      refine st_iload_n dX9_gather_33 rfl ?_
      refine st_bipush dX9_gather_34 (by decide) ?_
      refine st_icmp_gt (tgt := 101) dX9_gather_36 (by omega) (by omega) rfl (fun h => ?_) (fun h => ?_)
      · skip
        exact kk M1 _ hE (by rw [show (30 : Nat) = n by omega]; exact hH)
      · skip
        omega
    | succ q ih =>
      intro n M1 L hn hL hE hH kk
      have e3 := hE 3 (by decide)
      have e9 := hE 9 (by decide)
      have hk := hlK r s n
      have hlen : (L ++ thK (M 9) (M 3 17).toNat r s n).length < 960 := by rw [List.length_append]; omega
      refine st_iload_n dX9_gather_33 rfl ?_
      refine st_bipush dX9_gather_34 (by decide) ?_
      refine st_icmp_gt (tgt := 101) dX9_gather_36 (by omega) (by omega) rfl (fun h => ?_) (fun h => ?_)
      · skip
        omega
      · refine st_aload_n dX9_gather_39 rfl ?_
        refine st_iload_n dX9_gather_40 rfl ?_
        refine st_iload_n dX9_gather_41 rfl ?_
        refine st_iload_n dX9_gather_42 rfl ?_
        refine c_V3p (d' := d - 1) dX9_gather_43 l_X9_45 k_X9_fits i_X9_fits (Or.inl ⟨_, _, _, _, _, (by first | assumption | rfl), by rfl⟩) (by omega) (Nat.le_of_ble_eq_true rfl) (C_fits (by omega) (by rw [e3]; exact h17) (by rw [e9]; exact h9) (by omega) (by omega) (by omega)) ?_
        rw [e3, e9]
        refine b_eq (tgt := 95) dX9_gather_46 rfl (fun h8 => ?_) (fun h8 => ?_)
        · refine st_iinc (L' := [_, _, _, _]) dX9_gather_95 rfl (by decide) rfl rfl ?_
          refine st_goto (tgt := 33) dX9_gather_98 rfl ?_
          have e : thK (M 9) (M 3 17).toNat r s (n + 1) = thK (M 9) (M 3 17).toNat r s n := if_neg h8
          exact AW.to (ih (n + 1) M1 L (by omega) hL hE (by rw [e]; exact hH) kk) (h2 := by simp)
        · refine st_aload_n dX9_gather_49 rfl ?_
          refine st_getfr dX9_gather_50 f_X9_11 (by first | assumption | rfl) (by rfl) ?_
          refine st_aload_n dX9_gather_53 rfl ?_
          refine st_getfi dX9_gather_54 f_X9_31 (by first | assumption | rfl) (by rfl) ?_
          refine st_iload_n dX9_gather_57 rfl ?_
          have e : thK (M 9) (M 3 17).toNat r s (n + 1) = thK (M 9) (M 3 17).toNat r s n ++ [(r, s, n + 1)] := if_pos h8
          have hA := holdT_app (t := (r, s, n + 1)) hH
          rw [List.append_assoc, ← e] at hA
          have e5 := hH.1
          generalize (L ++ thK (M 9) (M 3 17).toNat r s n).length = len at hlen hA e5
          rw [e5]
          refine c_S3v (d' := d - 1) dX9_gather_58 l_X9_49 k_X10_put s_X10_put (by omega) (Nat.le_of_ble_eq_true rfl) (C_putI sh_107 (by decide) (by omega)) (fun M2 N2 hx => ?_)
          obtain ⟨rfl, rfl⟩ := hx
          refine st_aload_n dX9_gather_61 rfl ?_
          refine st_getfr dX9_gather_62 f_X9_15 (by first | assumption | rfl) (by rfl) ?_
          refine st_aload_n dX9_gather_65 rfl ?_
          refine st_getfi dX9_gather_66 f_X9_31 (by first | assumption | rfl) (by rfl) ?_
          refine st_iload_n dX9_gather_69 rfl ?_
          rw [show q_up M1 107 (len : Int).toNat (r : Int) 106 5 = (len : Int) by rw [← e5]; simp [q_up]]
          refine c_S3v (d' := d - 1) dX9_gather_70 l_X9_49 k_X10_put s_X10_put (by omega) (Nat.le_of_ble_eq_true rfl) (C_putI sh_108 (by decide) (by omega)) (fun M2 N2 hx => ?_)
          obtain ⟨rfl, rfl⟩ := hx
          refine st_aload_n dX9_gather_73 rfl ?_
          refine st_getfr dX9_gather_74 f_X9_18 (by first | assumption | rfl) (by rfl) ?_
          refine st_aload_n dX9_gather_77 rfl ?_
          refine st_getfi dX9_gather_78 f_X9_31 (by first | assumption | rfl) (by rfl) ?_
          refine st_iload_n dX9_gather_81 rfl ?_
          rw [show q_up (q_up M1 107 (len : Int).toNat (r : Int)) 108 (len : Int).toNat (s : Int) 106 5 = (len : Int) by rw [← e5]; simp [q_up]]
          refine c_S3v (d' := d - 1) dX9_gather_82 l_X9_49 k_X10_put s_X10_put (by omega) (Nat.le_of_ble_eq_true rfl) (C_putI sh_109 (by decide) (by omega)) (fun M2 N2 hx => ?_)
          obtain ⟨rfl, rfl⟩ := hx
          refine st_aload_n dX9_gather_85 rfl ?_
          refine st_dup dX9_gather_86 rfl ?_
          refine st_getfi dX9_gather_87 f_X9_31 (by first | assumption | rfl) (by rfl) ?_
          refine st_iconst dX9_gather_90 ?_
          refine st_iadd dX9_gather_91 ?_
          refine st_putfi dX9_gather_92 w_X9_31 (by first | assumption | rfl) (by rfl) rfl rfl ?_
          refine st_iinc (L' := [_, _, _, _]) dX9_gather_95 rfl (by decide) rfl rfl ?_
          refine st_goto (tgt := 33) dX9_gather_98 rfl ?_
          rw [show q_up (q_up (q_up M1 107 (len : Int).toNat (r : Int)) 108 (len : Int).toNat (s : Int)) 109 (len : Int).toNat ((n : Int) + 1) 106 5 = (len : Int) by rw [← e5]; simp [q_up]]
          exact AW.to (ih (n + 1) _ L (by omega) hL (hE.tr (((Exc.up (by decide)).tr (Exc.up (by decide))).tr ((Exc.up (by decide)).tr (Exc.up (by decide))))) hA kk) (h2 := by simp)
  have middle : ∀ (Q : q_Q0) (r : Nat), r < 4 → ∀ (q s : Nat) (M1 : q_Mem) (L : List (Nat × Nat × Nat)), s + q = (M 3 3).toNat → L.length ≤ 720 → Exc thX M M1 → holdT (L ++ thS (M 9) (M 3 17).toNat r s) M1 → {l3 : Option Value} →
      (∀ (M2 : q_Mem) (l2 l3 : Option Value), Exc thX M M2 → holdT (L ++ thS (M 9) (M 3 17).toNat r (M 3 3).toNat) M2 → AW0 G d m_X9_gather 107 [some (.ref 106), some (I r), l2, l3] [] M2 N Q) →
      AW0 G d m_X9_gather 20 [some (.ref 106), some (I r), some (I s), l3] [] M1 N Q := by
    intro Q r hr q
    induction q with
    | zero =>
      intro s M1 L hs hL hE hH l3 kk
      have e3 := hE 3 (by decide)
      refine st_iload_n dX9_gather_20 rfl ?_
      refine st_aload_n dX9_gather_21 rfl ?_
      refine st_getfr dX9_gather_22 f_X9_24 (by first | assumption | rfl) (by rfl) ?_
      refine st_getfi dX9_gather_25 f_X9_43 (by first | assumption | rfl) (by rfl) ?_
      rw [e3]
      refine st_icmp_ge (tgt := 107) dX9_gather_28 (by omega) (by omega) rfl (fun h => ?_) (fun h => ?_)
      · skip
        exact kk M1 _ l3 hE (by rw [show (M 3 3).toNat = s by omega]; exact hH)
      · skip
        omega
    | succ q ih =>
      intro s M1 L hs hL hE hH l3 kk
      have e3 := hE 3 (by decide)
      have hk := hlS r s
      refine st_iload_n dX9_gather_20 rfl ?_
      refine st_aload_n dX9_gather_21 rfl ?_
      refine st_getfr dX9_gather_22 f_X9_24 (by first | assumption | rfl) (by rfl) ?_
      refine st_getfi dX9_gather_25 f_X9_43 (by first | assumption | rfl) (by rfl) ?_
      rw [e3]
      refine st_icmp_ge (tgt := 107) dX9_gather_28 (by omega) (by omega) rfl (fun h => ?_) (fun h => ?_)
      · skip
        omega
      · refine st_iconst dX9_gather_31 ?_
        refine st_istore_n (L' := [_, _, _, _]) dX9_gather_32 (by decide) rfl rfl ?_
        refine AW.to (inner Q r s hr (by omega) 30 0 M1 (L ++ thS (M 9) (M 3 17).toNat r s) (by omega) (by rw [List.length_append]; omega) hE (by rw [thK, List.append_nil]; exact hH) (fun M2 l3 hE2 hH2 => ?_))
        refine st_iinc (L' := [_, _, _, _]) dX9_gather_101 rfl (by decide) rfl rfl ?_
        refine st_goto (tgt := 20) dX9_gather_104 rfl ?_
        rw [List.append_assoc] at hH2
        exact AW.to (ih (s + 1) M2 L (by omega) hL hE2 hH2 kk (l3 := l3)) (h2 := by simp)
  have outer : ∀ (q r : Nat) (M1 : q_Mem), r + q = (M 3 1).toNat → Exc thX M M1 → holdT (thR (M 9) (M 3 17).toNat (M 3 3).toNat r) M1 → {l2 l3 : Option Value} →
      AW0 G d m_X9_gather 7 [some (.ref 106), some (I r), l2, l3] [] M1 N (CN (fun M' N' => N' = N ∧ Exc thX M M' ∧ holdT (thR (M 9) (M 3 17).toNat (M 3 3).toNat (M 3 1).toNat) M')) := by
    intro q
    induction q with
    | zero =>
      intro r M1 hr hE hH l2 l3
      have e3 := hE 3 (by decide)
      refine st_iload_n dX9_gather_7 rfl ?_
      refine st_aload_n dX9_gather_8 rfl ?_
      refine st_getfr dX9_gather_9 f_X9_24 (by first | assumption | rfl) (by rfl) ?_
      refine st_getfi dX9_gather_12 f_X9_39 (by first | assumption | rfl) (by rfl) ?_
      rw [e3]
      refine st_icmp_ge (tgt := 113) dX9_gather_15 (by omega) (by omega) rfl (fun h => ?_) (fun h => ?_)
      · skip
        exact r_v dX9_gather_113 rfl ⟨rfl, hE, by rw [show (M 3 1).toNat = r by omega]; exact hH⟩
      · skip
        omega
    | succ q ih =>
      intro r M1 hr hE hH l2 l3
      have e3 := hE 3 (by decide)
      have hk := hlR r
      refine st_iload_n dX9_gather_7 rfl ?_
      refine st_aload_n dX9_gather_8 rfl ?_
      refine st_getfr dX9_gather_9 f_X9_24 (by first | assumption | rfl) (by rfl) ?_
      refine st_getfi dX9_gather_12 f_X9_39 (by first | assumption | rfl) (by rfl) ?_
      rw [e3]
      refine st_icmp_ge (tgt := 113) dX9_gather_15 (by omega) (by omega) rfl (fun h => ?_) (fun h => ?_)
      · skip
        omega
      · refine st_iconst dX9_gather_18 ?_
        refine st_istore_n (L' := [_, _, _, _]) dX9_gather_19 (by decide) rfl rfl ?_
        refine AW.to (middle _ r (by omega) (M 3 3).toNat 0 M1 (thR (M 9) (M 3 17).toNat (M 3 3).toNat r) (by omega) (by omega) hE (by rw [thS, List.append_nil]; exact hH) (fun M2 l2 l3 hE2 hH2 => ?_) (l3 := l3))
        refine st_iinc (L' := [_, _, _, _]) dX9_gather_107 rfl (by decide) rfl rfl ?_
        refine st_goto (tgt := 7) dX9_gather_110 rfl ?_
        exact AW.to (ih (r + 1) M2 (by omega) hE2 hH2 (l2 := l2) (l3 := l3)) (h2 := by simp)
  exact outer (M 3 1).toNat 0 _ (by omega) (Exc.up (by decide)) ⟨by simp [q_up, thR], fun j hj => absurd hj (by simp [thR])⟩ (l2 := none) (l3 := none)
def A_susp (L : List (Nat × Nat × Nat)) (what : Int) : Int := if what = 0 then (L.length : Nat) else if L.length = 0 then -2 else if what = 1 then ((L.getD 0 (0, 0, 0)).1 : Nat) else if what = 2 then ((L.getD 0 (0, 0, 0)).2.1 : Nat) else ((L.getD 0 (0, 0, 0)).2.2 : Nat)
theorem C_suspects {G : q_G} {d : Nat} {M : q_Mem} {N : q_MemL} {what : Int} (hd : 4 ≤ d) (h1 : 0 ≤ M 3 1 ∧ M 3 1 ≤ 4) (h3 : 0 ≤ M 3 3 ∧ M 3 3 ≤ 8) (h17 : 0 ≤ M 3 17 ∧ M 3 17 ≤ 8) (h9 : ∀ k, -1 ≤ M 9 k ∧ M 9 k ≤ 100) (hw : 0 ≤ what ∧ what ≤ 3) : AC0 G d m_X9_suspects [.ref 106, I what] M N (CV (fun x M' N' => x = I (A_susp (thR (M 9) (M 3 17).toNat (M 3 3).toNat (M 3 1).toNat) what) ∧ N' = N ∧ Exc thX M M')) := by
  have hlR := thR_len (M 9) (M 3 17).toNat (M 3 3).toNat (by omega) (M 3 1).toNat
  refine AC.of (L0 := [_, _]) pn_X9 (Nat.le_of_ble_eq_true rfl) rfl ?_
  refine st_aload_n dX9_suspects_0 rfl ?_
  refine c_V0v (d' := d - 1) dX9_suspects_1 l_X9_28 k_X9_gather i_X9_gather (Or.inl ⟨_, _, _, _, _, (by first | assumption | rfl), by rfl⟩) (by omega) (Nat.le_of_ble_eq_true rfl) (C_thGather (by omega) h1 h3 h17 h9) (fun M1 N1 hx => ?_)
  obtain ⟨hN, hE, hH⟩ := hx
  rw [hN]
  generalize thR (M 9) (M 3 17).toNat (M 3 3).toNat (M 3 1).toNat = L at hlR hH ⊢
  have e5 := hH.1
  refine st_iload_n dX9_suspects_4 rfl ?_
  refine st_if_ne (tgt := 13) dX9_suspects_5 (by omega) rfl (fun h7 => ?_) (fun h7 => ?_)
  · refine st_aload_n dX9_suspects_13 rfl ?_
    refine st_getfi dX9_suspects_14 f_X9_31 (by first | assumption | rfl) (by rfl) ?_
    rw [e5]
    refine st_if_ne (tgt := 23) dX9_suspects_17 (by omega) rfl (fun h8 => ?_) (fun h8 => ?_)
    · refine st_iload_n dX9_suspects_23 rfl ?_
      refine st_iconst dX9_suspects_24 ?_
      have hg := hH.2 0 (by omega)
      refine st_icmp_ne (tgt := 37) dX9_suspects_25 (by omega) (by omega) rfl (fun h9' => ?_) (fun h9' => ?_)
      · refine st_iload_n dX9_suspects_37 rfl ?_
        refine st_iconst dX9_suspects_38 ?_
        refine st_icmp_ne (tgt := 49) dX9_suspects_39 (by omega) (by omega) rfl (fun h10 => ?_) (fun h10 => ?_)
        · refine st_aload_n dX9_suspects_49 rfl ?_
          refine st_getfr dX9_suspects_50 f_X9_18 (by first | assumption | rfl) (by rfl) ?_
          refine st_iconst dX9_suspects_53 ?_
          refine c_S2p (d' := d - 1) dX9_suspects_54 l_X9_35 k_X10_cell s_X10_cell (by omega) (Nat.le_of_ble_eq_true rfl) (C_cellI sh_109 (by decide) (by omega)) ?_
          exact r_i dX9_suspects_57 rfl ⟨by rw [A_susp, if_neg h7, if_neg (by omega), if_neg h9', if_neg h10, ← hg.2.2]; rfl, rfl, hE⟩
        · refine st_aload_n dX9_suspects_42 rfl ?_
          refine st_getfr dX9_suspects_43 f_X9_15 (by first | assumption | rfl) (by rfl) ?_
          refine st_goto (tgt := 53) dX9_suspects_46 rfl ?_
          refine st_iconst dX9_suspects_53 ?_
          refine c_S2p (d' := d - 1) dX9_suspects_54 l_X9_35 k_X10_cell s_X10_cell (by omega) (Nat.le_of_ble_eq_true rfl) (C_cellI sh_108 (by decide) (by omega)) ?_
          exact r_i dX9_suspects_57 rfl ⟨by rw [A_susp, if_neg h7, if_neg (by omega), if_neg h9', if_pos (by omega), ← hg.2.1]; rfl, rfl, hE⟩
      · refine st_aload_n dX9_suspects_28 rfl ?_
        refine st_getfr dX9_suspects_29 f_X9_11 (by first | assumption | rfl) (by rfl) ?_
        refine st_iconst dX9_suspects_32 ?_
        refine c_S2p (d' := d - 1) dX9_suspects_33 l_X9_35 k_X10_cell s_X10_cell (by omega) (Nat.le_of_ble_eq_true rfl) (C_cellI sh_107 (by decide) (by omega)) ?_
        exact r_i dX9_suspects_36 rfl ⟨by rw [A_susp, if_neg h7, if_neg (by omega), if_pos (by omega), ← hg.1]; rfl, rfl, hE⟩
    · refine st_bipush dX9_suspects_20 (by decide) ?_
      exact r_i dX9_suspects_22 rfl ⟨by rw [A_susp, if_neg h7, if_pos (by omega)], rfl, hE⟩
  · refine st_aload_n dX9_suspects_8 rfl ?_
    refine st_getfi dX9_suspects_9 f_X9_31 (by first | assumption | rfl) (by rfl) ?_
    rw [e5]
    exact r_i dX9_suspects_12 rfl ⟨by rw [A_susp, if_pos (by omega)], rfl, hE⟩


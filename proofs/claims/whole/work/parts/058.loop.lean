/-! the reference: the loop -/
def lpX : List Nat := [112, 113, 116, 120, 143, 144, 149]
/-- all that stands when so many situations have been looked at -/
def LpI (B M1 M2 : q_Mem) (N2 : q_MemL) (n : Nat) : Prop := Exc lpX M1 M2 ∧ (∀ j, ¬ j = 51 → ¬ j = 52 → M2 112 j = M1 112 j) ∧ RF B M2 n ∧ (∀ j, j < n → N2 148 j = Int64.ofInt (keyF B j)) ∧ ∀ j, j < n → M2 149 j = topS (B 3 4).toNat (fut B 3 j)
/-- no two of so many are alike -/
def NoM (B : q_Mem) (n : Nat) : Prop := ∀ n' k' : Nat, k' < n' → n' < n → ¬ mtch (fut B 3) (max 1 (B 3 2)) k' n'
theorem keyF_rng {B : q_Mem} (hB : NowOk B) (k : Nat) : -9223372036854775808 ≤ keyF B k ∧ keyF B k < 9223372036854775808 := by
  obtain ⟨h0, h1, h2, h3, h4, h5, h6, h11, -⟩ := id hB
  have hh := hourOf_rng (h := B 3 2) (b := B 3 11 + k) (by omega)
  have hh2 : 0 ≤ hourOf (B 3 2) (B 3 11 + k) ∧ hourOf (B 3 2) (B 3 11 + k) ≤ 10 := by
    by_cases c : 0 < B 3 2
    · have := hh.2.1 c; omega
    · have := hh.2.2 c; omega
  have h := kP_rng hh2 (dgT_rng (B 3 4).toNat (fut B 3 k)) ((B 3 4).toNat + (B 3 5).toNat)
  have h8 : 8 ^ ((B 3 4).toNat + (B 3 5).toNat) ≤ 8 ^ 10 := Nat.pow_le_pow_right (by omega) (by omega)
  have h9 : (8 : Nat) ^ 10 = 1073741824 := by decide
  unfold keyF
  omega
def LoopP (B M : q_Mem) (R : q_Mem → Prop) : q_Mem → q_MemL → Prop := fun M' _ => Qk M M' ∧ R M'
/-- what the search for a loop finds -/
def LoopF (B M' : q_Mem) : Prop := (∃ n k : Nat, k < n ∧ n ≤ 2000 ∧ mtch (fut B 3) (max 1 (B 3 2)) k n ∧ NoM B n ∧ M' 112 51 = (k : Nat) ∧ M' 112 52 = ((n : Int) - k) ∧ ∀ j, j ≤ n → M' 149 j = topS (B 3 4).toNat (fut B 3 j)) ∨ (NoM B 2001 ∧ M' 112 51 = -1)
theorem C_findsLoop {G : q_G} {d : Nat} {B M : q_Mem} {N : q_MemL} (hd : 3 ≤ d) (hN : RN B M) (hz : Zd (B 3 4).toNat (B 3 5).toNat (B 3 12)) (htl : B 3 0 = 1) : AC0 G d m_X11_findsLoop [.ref 112] M N (CN (fun M' _ => Qk M M' ∧ LoopF B M')) := by
  have hB := hN.1
  obtain ⟨h0, h1, h2, h3, h4, h5, h6, h11, -⟩ := id hB
  refine AC.of (L0 := [_, none, none]) pn_X11 (Nat.le_of_ble_eq_true rfl) rfl ?_
  refine st_aload_n dX11_findsLoop_0 rfl ?_
  refine c_V0v (d' := d - 1) dX11_findsLoop_1 l_X11_485 k_X11_keepsAll i_X11_keepsAll (Or.inl ⟨_, _, _, _, _, (by first | with_reducible assumption | rfl), by rfl⟩) (by omega) (Nat.le_of_ble_eq_true rfl) (C_keepsAll (by omega)) (fun M1 N1 hx => ?_)
  obtain ⟨rfl, hF⟩ := hx
  have hN1 := hN.exc hF.1 (by decide)
  refine st_aload_n dX11_findsLoop_4 rfl ?_
  refine st_iconst dX11_findsLoop_5 ?_
  refine st_putfi dX11_findsLoop_6 w_X11_493 (by first | with_reducible assumption | rfl) (by rfl) rfl rfl ?_
  refine st_iconst dX11_findsLoop_9 ?_
  refine st_istore_n (L' := [_, _, _]) dX11_findsLoop_10 (by decide) rfl rfl ?_
  -- the end
  have fin : ∀ (M2 : q_Mem) (N2 : q_MemL) (l1 l2 : Option Value), Exc lpX M1 M2 → (∀ j, ¬ j = 51 → ¬ j = 52 → M2 112 j = M1 112 j) → LoopF B M2 → AW0 G d m_X11_findsLoop 116 [some (.ref 112), l1, l2] [] M2 N2 (CN (fun M' _ => Qk M M' ∧ LoopF B M')) := by
    intro M2 N2 l1 l2 hE h112 hL
    refine st_aload_n dX11_findsLoop_116 rfl ?_
    refine c_V0v (d' := d - 1) dX11_findsLoop_117 l_X11_488 k_X11_laysBack i_X11_laysBack (Or.inl ⟨_, _, _, _, _, (by first | with_reducible assumption | rfl), by rfl⟩) (by omega) (Nat.le_of_ble_eq_true rfl) (C_laysBack (by omega)) (fun M3 N3 hx => ?_)
    obtain ⟨rfl, hb⟩ := hx
    have e149 := hb.exc 149 (by decide)
    have e51 : M3 112 51 = M2 112 51 := hb.2.2.1 51 (by decide) (by decide) (by decide)
    have e52 : M3 112 52 = M2 112 52 := hb.2.2.1 52 (by decide) (by decide) (by decide)
    refine r_v dX11_findsLoop_120 rfl ⟨hF.back hE hb (by decide) (by decide) (fun j hj => ?_), ?_⟩
    · simp only [List.mem_cons, List.not_mem_nil, or_false] at hj
      exact h112 j (by omega) (by omega)
    · unfold LoopF at hL ⊢
      rw [e51, e52, e149]
      exact hL
  have outl : ∀ (m n : Nat) (M2 : q_Mem) (N2 : q_MemL) (l2 : Option Value), n + m = 2001 → LpI B M1 M2 N2 n → NoM B n → M2 112 51 = -1 → AW0 G d m_X11_findsLoop 11 [some (.ref 112), some (I n), l2] [] M2 N2 (CN (fun M' _ => Qk M M' ∧ LoopF B M')) := by
    intro m
    induction m with
    | zero =>
      intro n M2 N2 l2 hn hI hno h51
      obtain ⟨hE, h112, hS, hk, ht⟩ := hI
      refine st_iload_n dX11_findsLoop_11 rfl ?_
      refine st_sipush dX11_findsLoop_12 (by decide) ?_
      refine st_icmp_gt (tgt := 116) dX11_findsLoop_15 (by omega) (by omega) rfl (fun h => ?_) (fun h => ?_)
      · skip
        refine fin M2 N2 _ _ hE h112 (Or.inr ⟨?_, h51⟩)
        rw [show 2001 = n by omega]
        exact hno
      · skip
        omega
    | succ m ih =>
      intro n M2 N2 l2 hn hI hno h51
      obtain ⟨hE, h112, hS, hk, ht⟩ := hI
      have hkr := keyF_rng hB
      refine st_iload_n dX11_findsLoop_11 rfl ?_
      refine st_sipush dX11_findsLoop_12 (by decide) ?_
      refine st_icmp_gt (tgt := 116) dX11_findsLoop_15 (by omega) (by omega) rfl (fun h => ?_) (fun h => ?_)
      · skip
        omega
      · refine st_aload_n dX11_findsLoop_18 rfl ?_
        refine st_getfi dX11_findsLoop_19 f_X11_493 (by first | with_reducible assumption | rfl) (by rfl) ?_
        refine st_iconst dX11_findsLoop_22 ?_
        rw [h51]
        refine st_icmp_ne (tgt := 116) dX11_findsLoop_23 (by omega) (by omega) rfl (fun h2 => ?_) (fun h2 => ?_)
        · skip
          omega
        · refine st_aload_n dX11_findsLoop_26 rfl ?_
          refine st_getfr dX11_findsLoop_27 f_X11_122 (by first | with_reducible assumption | rfl) (by rfl) ?_
          refine st_iload_n dX11_findsLoop_30 rfl ?_
          refine st_aload_n dX11_findsLoop_31 rfl ?_
          refine c_V0p (d' := d - 1) dX11_findsLoop_32 l_X11_496 k_X11_situation i_X11_situation (Or.inl ⟨_, _, _, _, _, (by first | with_reducible assumption | rfl), by rfl⟩) (by omega) (Nat.le_of_ble_eq_true rfl) (C_situation (by omega) hB hS (by omega) htl) ?_
          rw [show kP (hourOf (B 3 2) (B 3 11 + (n : Int))) (dgT (B 3 4).toNat (fut B 3 n)) ((B 3 4).toNat + (B 3 5).toNat) = keyF B n from rfl]
          first | refine st_lastK (k' := _) dX11_findsLoop_35 (by first | with_reducible assumption | rfl) rfl (by omega) (hn := by first | decide | omega) ?_ | refine st_last dX11_findsLoop_35 (by first | with_reducible assumption | rfl) (by omega) (by omega) (hn := by first | decide | omega) ?_
          refine st_aload_n dX11_findsLoop_36 rfl ?_
          refine st_getfr dX11_findsLoop_37 f_X11_125 (by first | with_reducible assumption | rfl) (by rfl) ?_
          refine st_iload_n dX11_findsLoop_40 rfl ?_
          refine st_aload_n dX11_findsLoop_41 rfl ?_
          refine c_V0p (d' := d - 1) dX11_findsLoop_42 l_X11_500 k_X11_highestNow i_X11_highestNow (Or.inl ⟨_, _, _, _, _, (by first | with_reducible assumption | rfl), by rfl⟩) (by omega) (Nat.le_of_ble_eq_true rfl) (C_highestNow hB hS) ?_
          first | refine st_iastK (k' := _) dX11_findsLoop_45 (by first | with_reducible assumption | rfl) rfl (by omega) (hn := by first | decide | omega) ?_ | refine st_iast dX11_findsLoop_45 (by first | with_reducible assumption | rfl) (by omega) (by omega) (hn := by first | decide | omega) ?_
          refine st_iconst dX11_findsLoop_46 ?_
          refine st_istore_n (L' := [_, _, _]) dX11_findsLoop_47 (by decide) rfl rfl ?_
          have e5 : ∀ j, q_up M2 149 n (topS (B 3 4).toNat (fut B 3 n)) 112 j = M2 112 j := fun j => by rw [q_up_ne (by decide)]
          have hI0 : Exc lpX M1 (q_up M2 149 n (topS (B 3 4).toNat (fut B 3 n))) := hE.tr (Exc.up (by decide))
          have hS0 : RF B (q_up M2 149 n (topS (B 3 4).toNat (fut B 3 n))) n := hS.exc (X := [149]) (Exc.up (by decide)) (by decide)
          have ht0 : ∀ j, j ≤ n → q_up M2 149 n (topS (B 3 4).toNat (fut B 3 n)) 149 j = topS (B 3 4).toNat (fut B 3 j) := by
            intro j hj
            by_cases e : j = n
            · rw [e]; simp [q_up]
            · rw [← ht j (by omega)]; simp [q_up, e]
          have hk0 : ∀ j, j ≤ n → q_upL N2 148 n (Int64.ofInt (keyF B n)) 148 j = Int64.ofInt (keyF B j) := by
            intro j hj
            by_cases e : j = n
            · rw [e]; simp [q_upL]
            · rw [← hk j (by omega)]; simp [q_upL, e]
          have h1120 : ∀ j, ¬ j = 51 → ¬ j = 52 → q_up M2 149 n (topS (B 3 4).toNat (fut B 3 n)) 112 j = M1 112 j := fun j j1 j2 => by rw [e5]; exact h112 j j1 j2
          have h510 : q_up M2 149 n (topS (B 3 4).toNat (fut B 3 n)) 112 51 = -1 := by rw [e5]; exact h51
          generalize q_up M2 149 n (topS (B 3 4).toNat (fut B 3 n)) = M3 at *
          generalize q_upL N2 148 n (Int64.ofInt (keyF B n)) = N3 at *
          -- behind the comparing
          have tl : ∀ (M4 : q_Mem) (l2 : Option Value), Exc lpX M1 M4 → (∀ j, ¬ j = 51 → ¬ j = 52 → M4 112 j = M1 112 j) → RF B M4 n → (∀ j, j ≤ n → M4 149 j = topS (B 3 4).toNat (fut B 3 j)) → ((M4 112 51 = -1 ∧ NoM B (n + 1)) ∨ (∃ k : Nat, k < n ∧ mtch (fut B 3) (max 1 (B 3 2)) k n ∧ M4 112 51 = (k : Nat))) → AW0 G d m_X11_findsLoop 92 [some (.ref 112), some (I n), l2] [] M4 N3 (CN (fun M' _ => Qk M M' ∧ LoopF B M')) := by
            intro M4 l2 g1 g2 g3 g4 g5
            refine st_aload_n dX11_findsLoop_92 rfl ?_
            refine st_iload_n dX11_findsLoop_93 rfl ?_
            refine st_aload_n dX11_findsLoop_94 rfl ?_
            refine st_getfi dX11_findsLoop_95 f_X11_493 (by first | with_reducible assumption | rfl) (by rfl) ?_
            refine st_isub dX11_findsLoop_98 ?_
            refine st_putfi dX11_findsLoop_99 w_X11_503 (by first | with_reducible assumption | rfl) (by rfl) rfl rfl ?_
            refine st_iinc (L' := [_, _, _]) dX11_findsLoop_102 rfl (by decide) rfl rfl ?_
            refine st_aload_n dX11_findsLoop_105 rfl ?_
            have u1 : Exc lpX M1 (q_up M4 112 52 ((n : Int) - M4 112 51)) := g1.tr (Exc.up (by decide))
            have u2 : ∀ j, ¬ j = 51 → ¬ j = 52 → q_up M4 112 52 ((n : Int) - M4 112 51) 112 j = M1 112 j := fun j j1 j2 => by rw [← g2 j j1 j2]; simp [q_up, j2]
            have u3 : RF B (q_up M4 112 52 ((n : Int) - M4 112 51)) n := g3.exc (X := [112]) (Exc.up (by decide)) (by decide)
            have u4 : ∀ j, j ≤ n → q_up M4 112 52 ((n : Int) - M4 112 51) 149 j = topS (B 3 4).toNat (fut B 3 j) := fun j hj => by rw [q_up_ne (by decide)]; exact g4 j hj
            have u5 : q_up M4 112 52 ((n : Int) - M4 112 51) 112 51 = M4 112 51 := by simp [q_up]
            have u6 : q_up M4 112 52 ((n : Int) - M4 112 51) 112 52 = (n : Int) - M4 112 51 := by simp [q_up]
            generalize hz51 : M4 112 51 = z51 at *
            generalize q_up M4 112 52 ((n : Int) - z51) = M5 at *
            refine c_V0v (d' := d - 1) dX11_findsLoop_106 l_X11_412 k_X11_laysNow i_X11_laysNow (Or.inl ⟨_, _, _, _, _, (by first | with_reducible assumption | rfl), by rfl⟩) (by omega) (Nat.le_of_ble_eq_true rfl) (C_simNow (by omega) hB u3 (by omega) htl) (fun M6 N6 hx => ?_)
            obtain ⟨rfl, hE6, hv6, hS6⟩ := hx
            refine st_aload_n dX11_findsLoop_109 rfl ?_
            refine c_V0v (d' := d - 1) dX11_findsLoop_110 l_X11_453 k_X11_beats i_X11_beats (Or.inl ⟨_, _, _, _, _, (by first | with_reducible assumption | rfl), by rfl⟩) (by omega) (Nat.le_of_ble_eq_true rfl) (C_simBeat (by omega) hB hS6 hv6) (fun M7 N7 hx => ?_)
            obtain ⟨rfl, hE7, hj7, hS7⟩ := hx
            have e112 : M7 112 = M5 112 := by rw [hE7 112 (by decide), hE6 112 (by decide)]
            have e149 : M7 149 = M5 149 := by rw [hE7 149 (by decide), hE6 149 (by decide)]
            have w1 : Exc lpX M1 M7 := (u1.tr (hE6.sub (by decide))).tr (hE7.sub (by decide))
            refine st_goto (tgt := 11) dX11_findsLoop_113 rfl ?_
            rcases g5 with ⟨g5, g6⟩ | ⟨k, k1, k2, k3⟩
            · exact AW.to (ih (n + 1) M7 N7 l2 (by omega) ⟨w1, fun j j1 j2 => by rw [e112]; exact u2 j j1 j2, hS7, fun j hj => hk0 j (by omega), fun j hj => by rw [e149]; exact u4 j (by omega)⟩ g6 (by rw [e112, u5]; exact g5)) (h2 := by simp)
            · have hL : LoopF B M7 := Or.inl ⟨n, k, k1, by omega, k2, hno, by rw [e112, u5]; exact k3, by rw [e112, u6, k3], fun j hj => by rw [e149]; exact u4 j hj⟩
              have w2 : ∀ j, ¬ j = 51 → ¬ j = 52 → M7 112 j = M1 112 j := fun j j1 j2 => by rw [e112]; exact u2 j j1 j2
              refine st_iload_n dX11_findsLoop_11 rfl ?_
              refine st_sipush dX11_findsLoop_12 (by decide) ?_
              refine st_icmp_gt (tgt := 116) dX11_findsLoop_15 (by omega) (by omega) rfl (fun h9 => ?_) (fun h9 => ?_)
              · skip
                exact fin M7 N7 _ _ w1 w2 hL
              · refine st_aload_n dX11_findsLoop_18 rfl ?_
                refine st_getfi dX11_findsLoop_19 f_X11_493 (by first | with_reducible assumption | rfl) (by rfl) ?_
                refine st_iconst dX11_findsLoop_22 ?_
                rw [show M7 112 51 = (k : Int) by rw [e112, u5]; exact k3]
                refine st_icmp_ne (tgt := 116) dX11_findsLoop_23 (by omega) (by omega) rfl (fun h10 => ?_) (fun h10 => ?_)
                · skip
                  exact fin M7 N7 _ _ w1 w2 hL
                · skip
                  omega
          have inn : ∀ (q k : Nat) (M4 : q_Mem), k + q = n → Exc lpX M1 M4 → (∀ j, ¬ j = 51 → ¬ j = 52 → M4 112 j = M1 112 j) → RF B M4 n → (∀ j, j ≤ n → M4 149 j = topS (B 3 4).toNat (fut B 3 j)) → M4 112 51 = -1 → (∀ k', k' < k → ¬ mtch (fut B 3) (max 1 (B 3 2)) k' n) → AW0 G d m_X11_findsLoop 48 [some (.ref 112), some (I n), some (I k)] [] M4 N3 (CN (fun M' _ => Qk M M' ∧ LoopF B M')) := by
            intro q
            induction q with
            | zero =>
              intro k M4 hq g1 g2 g3 g4 g5 g6
              refine st_iload_n dX11_findsLoop_48 rfl ?_
              refine st_iload_n dX11_findsLoop_49 rfl ?_
              refine st_icmp_ge (tgt := 92) dX11_findsLoop_50 (by omega) (by omega) rfl (fun h3 => ?_) (fun h3 => ?_)
              · skip
                refine tl M4 _ g1 g2 g3 g4 (Or.inl ⟨g5, fun n' k' c1 c2 => ?_⟩)
                by_cases e : n' = n
                · rw [e]; exact g6 k' (by omega)
                · exact hno n' k' c1 (by omega)
              · skip
                omega
            | succ q ih2 =>
              intro k M4 hq g1 g2 g3 g4 g5 g6
              refine st_iload_n dX11_findsLoop_48 rfl ?_
              refine st_iload_n dX11_findsLoop_49 rfl ?_
              refine st_icmp_ge (tgt := 92) dX11_findsLoop_50 (by omega) (by omega) rfl (fun h3 => ?_) (fun h3 => ?_)
              · skip
                omega
              · refine st_aload_n dX11_findsLoop_53 rfl ?_
                refine st_getfi dX11_findsLoop_54 f_X11_493 (by first | with_reducible assumption | rfl) (by rfl) ?_
                refine st_iconst dX11_findsLoop_57 ?_
                rw [g5]
                refine st_icmp_ne (tgt := 92) dX11_findsLoop_58 (by omega) (by omega) rfl (fun h5 => ?_) (fun h5 => ?_)
                · skip
                  omega
                · refine st_aload_n dX11_findsLoop_61 rfl ?_
                  refine st_aload_n dX11_findsLoop_62 rfl ?_
                  refine st_getfr dX11_findsLoop_63 f_X11_122 (by first | with_reducible assumption | rfl) (by rfl) ?_
                  refine st_iload_n dX11_findsLoop_66 rfl ?_
                  first | refine st_laldK (k' := _) dX11_findsLoop_67 (by first | with_reducible assumption | rfl) rfl (by omega) (hn := by first | decide | omega) ?_ | refine st_lald dX11_findsLoop_67 (by first | with_reducible assumption | rfl) (by omega) (by omega) (hn := by first | decide | omega) ?_
                  rw [hk0 k (by omega)]
                  refine st_aload_n dX11_findsLoop_68 rfl ?_
                  refine st_getfr dX11_findsLoop_69 f_X11_122 (by first | with_reducible assumption | rfl) (by rfl) ?_
                  refine st_iload_n dX11_findsLoop_72 rfl ?_
                  first | refine st_laldK (k' := _) dX11_findsLoop_73 (by first | with_reducible assumption | rfl) rfl (by omega) (hn := by first | decide | omega) ?_ | refine st_lald dX11_findsLoop_73 (by first | with_reducible assumption | rfl) (by omega) (by omega) (hn := by first | decide | omega) ?_
                  rw [hk0 n (by omega)]
                  have rk := hkr k
                  have rn := hkr n
                  have rc := cmpJ_rng (keyF B k) (keyF B n)
                  have hm := keyF_eq hB hz htl (show k < n by omega)
                  have hup : ∀ (z : Int), Exc lpX M1 (q_up M4 112 51 z) ∧ (∀ j, ¬ j = 51 → ¬ j = 52 → q_up M4 112 51 z 112 j = M1 112 j) ∧ RF B (q_up M4 112 51 z) n ∧ (∀ j, j ≤ n → q_up M4 112 51 z 149 j = topS (B 3 4).toNat (fut B 3 j)) := fun z => ⟨g1.tr (Exc.up (by decide)), fun j j1 j2 => by rw [← g2 j j1 j2]; simp [q_up, j1], g3.exc (X := [112]) (Exc.up (by decide)) (by decide), fun j hj => by rw [q_up_ne (by decide)]; exact g4 j hj⟩
                  refine st_lcmpJ dX11_findsLoop_74 (by omega) (by omega) ?_
                  refine st_if_ne (tgt := 82) dX11_findsLoop_75 (by omega) rfl (fun h6 => ?_) (fun h6 => ?_)
                  · refine st_iconst dX11_findsLoop_82 ?_
                    refine st_putfi dX11_findsLoop_83 w_X11_493 (by first | with_reducible assumption | rfl) (by rfl) rfl rfl ?_
                    refine st_iinc (L' := [_, _, _]) dX11_findsLoop_86 rfl (by decide) rfl rfl ?_
                    refine st_goto (tgt := 48) dX11_findsLoop_89 rfl ?_
                    rw [cmpJ_eq] at h6
                    refine AW.to (ih2 (k + 1) (q_up M4 112 51 (-1)) (by omega) (hup _).1 (hup _).2.1 (hup _).2.2.1 (hup _).2.2.2 (by simp [q_up]) (fun k' hk' => ?_)) (h2 := by simp)
                    by_cases e : k' = k
                    · rw [e]; exact fun z => h6 (hm.2 z)
                    · exact g6 k' (by omega)
                  · refine st_iload_n dX11_findsLoop_78 rfl ?_
                    refine st_goto (tgt := 83) dX11_findsLoop_79 rfl ?_
                    refine st_putfi dX11_findsLoop_83 w_X11_493 (by first | with_reducible assumption | rfl) (by rfl) rfl rfl ?_
                    refine st_iinc (L' := [_, _, _]) dX11_findsLoop_86 rfl (by decide) rfl rfl ?_
                    refine st_goto (tgt := 48) dX11_findsLoop_89 rfl ?_
                    rw [cmpJ_eq] at h6
                    have e51 : q_up M4 112 51 (k : Int) 112 51 = (k : Int) := by simp [q_up]
                    have ht2 := fun l2 => tl (q_up M4 112 51 (k : Int)) l2 (hup _).1 (hup _).2.1 (hup _).2.2.1 (hup _).2.2.2 (Or.inr ⟨k, by omega, hm.1 h6, e51⟩)
                    refine st_iload_n dX11_findsLoop_48 rfl ?_
                    refine st_iload_n dX11_findsLoop_49 rfl ?_
                    refine st_icmp_ge (tgt := 92) dX11_findsLoop_50 (by omega) (by omega) rfl (fun h7 => ?_) (fun h7 => ?_)
                    · skip
                      exact ht2 _
                    · refine st_aload_n dX11_findsLoop_53 rfl ?_
                      refine st_getfi dX11_findsLoop_54 f_X11_493 (by first | with_reducible assumption | rfl) (by rfl) ?_
                      refine st_iconst dX11_findsLoop_57 ?_
                      rw [e51]
                      refine st_icmp_ne (tgt := 92) dX11_findsLoop_58 (by omega) (by omega) rfl (fun h8 => ?_) (fun h8 => ?_)
                      · skip
                        exact ht2 _
                      · skip
                        omega
          exact AW.to (inn n 0 M3 (Nat.zero_add _) hI0 h1120 hS0 ht0 h510 (fun k' hk' => absurd hk' (by omega)))
  refine AW.to (outl 2001 0 (q_up M1 112 51 (-1)) N1 none (Nat.zero_add _) ⟨Exc.up (by decide), fun j j1 j2 => by simp [q_up, j1], (RF.st hN1).exc (X := [112]) (Exc.up (by decide)) (by decide), fun j hj => absurd hj (by omega), fun j hj => absurd hj (by omega)⟩ (fun n' k' c1 c2 => absurd c2 (by omega)) (by simp [q_up]))
theorem topS_rgW (w : Int) : ∀ n, -2 ≤ topS n w ∧ topS n w < 8
  | 0 => ⟨Int.le_refl _, by show (-2 : Int) < 8; omega⟩
  | n + 1 => by
    have ih := topS_rgW w n
    have g := g8_lt w n
    show -2 ≤ max (topS n w) (g8 w n) ∧ max (topS n w) (g8 w n) < 8
    omega
def LoopA (B : q_Mem) (what r : Int) : Prop := (¬ A_loopOk B what ∧ r = -1) ∨ (A_loopOk B what ∧ LoopR (fut B 3) (max 1 (B 3 2)) (B 3 4).toNat what r)
theorem C_rloop {G : q_G} {d : Nat} {B M : q_Mem} {N : q_MemL} {what : Int} (hd : 4 ≤ d) (hN : RN B M) (hz : Zd (B 3 4).toNat (B 3 5).toNat (B 3 12)) (hw : i32 what) : AC0 G d m_X11_loop [.ref 112, I what] M N (CV (fun v M' _ => Qk M M' ∧ ∃ r, v = I r ∧ LoopA B what r)) := by
  obtain ⟨hB, hT, hP, hW, hb6⟩ := id hN
  obtain ⟨h0, h1, h2, h3, h4, h5, h6, h11, -⟩ := id hB
  have hww := hw
  unfold i32 at hww
  have no : ¬ A_loopOk B what → AW0 G d m_X11_loop 19 [some (.ref 112), some (I what), none, none] [] M N (CV (fun v M' _ => Qk M M' ∧ ∃ r, v = I r ∧ LoopA B what r)) := by
    intro h
    refine st_iconst dX11_loop_19 ?_
    exact r_i dX11_loop_20 rfl ⟨Qk.rf, -1, rfl, Or.inl ⟨h, rfl⟩⟩
  refine AC.of (L0 := [_, _, none, none]) pn_X11 (Nat.le_of_ble_eq_true rfl) rfl ?_
  refine st_aload_n dX11_loop_0 rfl ?_
  refine c_V0p (d' := d - 1) dX11_loop_1 l_X11_186 k_X11_isHouse i_X11_isHouse (Or.inl ⟨_, _, _, _, _, (by first | with_reducible assumption | rfl), by rfl⟩) (by omega) (Nat.le_of_ble_eq_true rfl) (C_isHouse hB hT) ?_
  refine b_eq (tgt := 19) dX11_loop_4 rfl (fun h7 => ?_) (fun h7 => ?_)
  · skip
    exact no (fun z => h7 z.1)
  · refine st_iload_n dX11_loop_7 rfl ?_
    refine st_i2lK dX11_loop_8 (by omega) ?_
    refine st_lc0K dX11_loop_9 ?_
    refine st_ldc2 dX11_loop_10 l_X11_506 ?_
    refine AW.topv (show _ = J 2 from rfl) ?_
    refine c_S3p (d' := d - 1) dX11_loop_13 l_X11_182 k_X11_in s_X11_in (by omega) (Nat.le_of_ble_eq_true rfl) (C_in (by omega) (by omega) (by omega)) ?_
    refine b_ne (tgt := 21) dX11_loop_16 rfl (fun h8 => ?_) (fun h8 => ?_)
    · refine st_aload_n dX11_loop_21 rfl ?_
      have hok : A_loopOk B what := ⟨h7, h8⟩
      refine c_V0v (d' := d - 1) dX11_loop_22 l_X11_508 k_X11_findsLoop i_X11_findsLoop (Or.inl ⟨_, _, _, _, _, (by first | with_reducible assumption | rfl), by rfl⟩) (by omega) (Nat.le_of_ble_eq_true rfl) (C_findsLoop (by omega) hN hz h7) (fun M1 N1 hx => ?_)
      obtain ⟨hq, hL⟩ := hx
      refine st_aload_n dX11_loop_25 rfl ?_
      refine st_getfi dX11_loop_26 f_X11_493 (by first | with_reducible assumption | rfl) (by rfl) ?_
      refine st_iconst dX11_loop_29 ?_
      rcases hL with ⟨n, k, k1, k2, k3, k4, e51, e52, e149⟩ | ⟨k4, e51⟩
      · rw [e51]
        refine st_icmp_ne (tgt := 36) dX11_loop_30 (by omega) (by omega) rfl (fun h9 => ?_) (fun h9 => ?_)
        · refine st_bipush dX11_loop_36 (by decide) ?_
          refine st_istore_n (L' := [_, _, _, _]) dX11_loop_38 (by decide) rfl rfl ?_
          refine st_aload_n dX11_loop_39 rfl ?_
          have hT2 := topS_rgW
          have fr : ∀ i, -2 ≤ fmax (fun i => topS (B 3 4).toNat (fut B 3 (k + i))) (-2) i ∧ fmax (fun i => topS (B 3 4).toNat (fut B 3 (k + i))) (-2) i < 8 := by
            intro i
            have a := fmax_ge (fun i => topS (B 3 4).toNat (fut B 3 (k + i))) (-2) i
            have b := fmax_le (f := fun i => topS (B 3 4).toNat (fut B 3 (k + i))) (c := -2) (e := 7) (by omega) (n := i) (fun j _ => by have := hT2 (fut B 3 (k + j)) (B 3 4).toNat; omega)
            omega
          refine st_getfi dX11_loop_40 f_X11_493 (by first | with_reducible assumption | rfl) (by rfl) ?_
          rw [e51]
          refine st_istore_n (L' := [_, _, _, _]) dX11_loop_43 (by decide) rfl rfl ?_
          have loop : ∀ (m i : Nat), i + m = n - k → AW0 G d m_X11_loop 44 [some (.ref 112), some (I what), some (I (fmax (fun i => topS (B 3 4).toNat (fut B 3 (k + i))) (-2) i)), some (I (k + i : Nat))] [] M1 N1 (CV (fun v M' _ => Qk M M' ∧ ∃ r, v = I r ∧ LoopA B what r)) := by
            intro m
            induction m with
            | zero =>
              intro i hi
              have hin : i = n - k := by omega
              subst hin
              refine st_iload_n dX11_loop_44 rfl ?_
              refine st_aload_n dX11_loop_45 rfl ?_
              refine st_getfi dX11_loop_46 f_X11_493 (by first | with_reducible assumption | rfl) (by rfl) ?_
              rw [e51]
              refine st_aload_n dX11_loop_49 rfl ?_
              refine st_getfi dX11_loop_50 f_X11_503 (by first | with_reducible assumption | rfl) (by rfl) ?_
              rw [e52]
              refine st_iadd dX11_loop_53 ?_
              refine st_icmp_ge (tgt := 84) dX11_loop_54 (by omega) (by omega) rfl (fun h2 => ?_) (fun h2 => ?_)
              · refine st_iload_n dX11_loop_84 rfl ?_
                have yes : ∀ r, r = toldR (fut B 3) (B 3 4).toNat k n what → LoopA B what r := fun r hr => Or.inr ⟨hok, Or.inl ⟨n, k, k1, k2, k3, k4, hr⟩⟩
                refine st_if_ne (tgt := 95) dX11_loop_85 (by omega) rfl (fun h10 => ?_) (fun h10 => ?_)
                · refine st_iload_n dX11_loop_95 rfl ?_
                  refine st_iconst dX11_loop_96 ?_
                  refine st_icmp_ne (tgt := 107) dX11_loop_97 (by omega) (by omega) rfl (fun h11 => ?_) (fun h11 => ?_)
                  · refine st_iload_n dX11_loop_107 rfl ?_
                    exact r_i dX11_loop_108 rfl ⟨hq, _, rfl, yes _ (by unfold toldR; rw [if_neg h10, if_neg h11])⟩
                  · refine st_aload_n dX11_loop_100 rfl ?_
                    refine st_getfi dX11_loop_101 f_X11_503 (by first | with_reducible assumption | rfl) (by rfl) ?_
                    rw [e52]
                    refine st_goto (tgt := 108) dX11_loop_104 rfl ?_
                    exact r_i dX11_loop_108 rfl ⟨hq, _, rfl, yes _ (by unfold toldR; rw [if_neg h10, if_pos h11])⟩
                · refine st_aload_n dX11_loop_88 rfl ?_
                  refine st_getfi dX11_loop_89 f_X11_493 (by first | with_reducible assumption | rfl) (by rfl) ?_
                  rw [e51]
                  refine st_goto (tgt := 108) dX11_loop_92 rfl ?_
                  exact r_i dX11_loop_108 rfl ⟨hq, _, rfl, yes _ (by unfold toldR; rw [if_pos h10])⟩
              · skip
                omega
            | succ m ih =>
              intro i hi
              have fri := fr i
              have tt := hT2 (fut B 3 (k + i)) (B 3 4).toNat
              have fe : fmax (fun i => topS (B 3 4).toNat (fut B 3 (k + i))) (-2) (i + 1) = max (fmax (fun i => topS (B 3 4).toNat (fut B 3 (k + i))) (-2) i) (topS (B 3 4).toNat (fut B 3 (k + i))) := rfl
              refine st_iload_n dX11_loop_44 rfl ?_
              refine st_aload_n dX11_loop_45 rfl ?_
              refine st_getfi dX11_loop_46 f_X11_493 (by first | with_reducible assumption | rfl) (by rfl) ?_
              rw [e51]
              refine st_aload_n dX11_loop_49 rfl ?_
              refine st_getfi dX11_loop_50 f_X11_503 (by first | with_reducible assumption | rfl) (by rfl) ?_
              rw [e52]
              refine st_iadd dX11_loop_53 ?_
              refine st_icmp_ge (tgt := 84) dX11_loop_54 (by omega) (by omega) rfl (fun h2 => ?_) (fun h2 => ?_)
              · skip
                omega
              · refine st_aload_n dX11_loop_57 rfl ?_
                refine st_getfr dX11_loop_58 f_X11_125 (by first | with_reducible assumption | rfl) (by rfl) ?_
                refine st_iload_n dX11_loop_61 rfl ?_
                first | refine st_ialdK (k' := _) dX11_loop_62 (by first | with_reducible assumption | rfl) rfl (by omega) (hn := by first | decide | omega) ?_ | refine st_iald dX11_loop_62 (by first | with_reducible assumption | rfl) (by omega) (by omega) (hn := by first | decide | omega) ?_
                rw [e149 _ (by omega)]
                refine st_iload_n dX11_loop_63 rfl ?_
                refine st_icmp_le (tgt := 76) dX11_loop_64 (by omega) (by omega) rfl (fun h10 => ?_) (fun h10 => ?_)
                · refine st_iload_n dX11_loop_76 rfl ?_
                  refine st_istore_n (L' := [_, _, _, _]) dX11_loop_77 (by decide) rfl rfl ?_
                  refine st_iinc (L' := [_, _, _, _]) dX11_loop_78 rfl (by decide) rfl rfl ?_
                  refine st_goto (tgt := 44) dX11_loop_81 rfl ?_
                  exact AW.to (ih (i + 1) (by omega)) (h2 := by rw [fe, show max (fmax (fun i => topS (B 3 4).toNat (fut B 3 (k + i))) (-2) i) (topS (B 3 4).toNat (fut B 3 (k + i))) = fmax (fun i => topS (B 3 4).toNat (fut B 3 (k + i))) (-2) i by omega]; simp [Nat.add_assoc, Int.add_assoc])
                · refine st_aload_n dX11_loop_67 rfl ?_
                  refine st_getfr dX11_loop_68 f_X11_125 (by first | with_reducible assumption | rfl) (by rfl) ?_
                  refine st_iload_n dX11_loop_71 rfl ?_
                  first | refine st_ialdK (k' := _) dX11_loop_72 (by first | with_reducible assumption | rfl) rfl (by omega) (hn := by first | decide | omega) ?_ | refine st_iald dX11_loop_72 (by first | with_reducible assumption | rfl) (by omega) (by omega) (hn := by first | decide | omega) ?_
                  rw [e149 _ (by omega)]
                  refine st_goto (tgt := 77) dX11_loop_73 rfl ?_
                  refine st_istore_n (L' := [_, _, _, _]) dX11_loop_77 (by decide) rfl rfl ?_
                  refine st_iinc (L' := [_, _, _, _]) dX11_loop_78 rfl (by decide) rfl rfl ?_
                  refine st_goto (tgt := 44) dX11_loop_81 rfl ?_
                  exact AW.to (ih (i + 1) (by omega)) (h2 := by rw [fe, show max (fmax (fun i => topS (B 3 4).toNat (fut B 3 (k + i))) (-2) i) (topS (B 3 4).toNat (fut B 3 (k + i))) = topS (B 3 4).toNat (fut B 3 (k + i)) by omega]; simp [Nat.add_assoc, Int.add_assoc])
          exact AW.to (loop (n - k) 0 (Nat.zero_add _))
        · skip
          omega
      · rw [e51]
        refine st_icmp_ne (tgt := 36) dX11_loop_30 (by omega) (by omega) rfl (fun h9 => ?_) (fun h9 => ?_)
        · skip
          omega
        · refine st_bipush dX11_loop_33 (by decide) ?_
          exact r_i dX11_loop_35 rfl ⟨hq, -3, rfl, Or.inr ⟨hok, Or.inr ⟨fun n k c1 c2 => k4 n k c1 (by omega), rfl⟩⟩⟩
    · skip
      exact no (fun z => h8 z.2)


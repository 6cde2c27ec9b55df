/-! the reference: sets of people; who lifts, the least voice, quiet, ears -/
theorem z_or0 {s : Int} (hs : 0 ≤ s) : zi s ||| zi 0 = zi s := by
  rw [z_toN hs, show (0 : Int) = ((0 : Nat) : Int) from rfl, zi_or, Nat.or_zero]
theorem toldV_pw {B : q_Mem} {b : Int} (o j : Nat) : toldV B 3 b (pw o) j = if j = o then 0 else toldV B 3 b 0 j := by
  unfold toldV pw
  rw [Int.toNat_natCast, Nat.testBit_two_pow]
  by_cases e : j = o
  · simp [e]
  · simp [e, show ¬ o = j from fun z => e z.symm]
theorem toldV_set {B : q_Mem} {b s : Int} (j : Nat) : toldV B 3 b s j = if s.toNat.testBit j = true then 0 else toldV B 3 b 0 j := by
  unfold toldV
  by_cases e : s.toNat.testBit j = true
  · simp [e]
  · simp [e]
theorem C_peopleAt {G : q_G} {d : Nat} {B M : q_Mem} {N : q_MemL} {r s : Int} (hN : RN B M) (hr0 : i32 r) (hs : i32 s) : AC0 G d m_X11_peopleAt [.ref 112, I r, I s] M N (CV (PU (I (atF B r s (B 3 4).toNat)) M N)) := by
  obtain ⟨hB, hT, hP, hW, hb6⟩ := id hN
  obtain ⟨h0, h1, h2, h3, h4, h5, h6, h11, h12, h13, h15, h17, h18, -⟩ := id hB
  obtain ⟨⟨t0, t1, t2, t3, t4, t5, t7⟩, ts, tp, tt, te⟩ := id hT
  unfold i32 at hr0 hs
  refine AC.of (L0 := [_, _, _, none, none]) pn_X11 (Nat.le_of_ble_eq_true rfl) rfl ?_
  refine st_iconst dX11_peopleAt_0 ?_
  refine st_istore_n (L' := [_, _, _, _, _]) dX11_peopleAt_1 (by decide) rfl rfl ?_
  refine st_iconst dX11_peopleAt_2 ?_
  refine st_istore (L' := [_, _, _, _, _]) dX11_peopleAt_3 (by decide) rfl rfl ?_
  have loop : ∀ (n k : Nat), k + n = (B 3 4).toNat → AW0 G d m_X11_peopleAt 5 [some (.ref 112), some (I r), some (I s), some (I (atF B r s k)), some (I k)] [] M N (CV (PU (I (atF B r s (B 3 4).toNat)) M N)) := by
    intro n
    induction n with
    | zero =>
      intro k hk
      refine st_iload dX11_peopleAt_5 rfl ?_
      refine st_aload_n dX11_peopleAt_7 rfl ?_
      refine st_getfr dX11_peopleAt_8 f_X11_9 (by first | with_reducible assumption | rfl) (by rfl) ?_
      refine st_iconst dX11_peopleAt_11 ?_
      refine st_ialdK (k' := 3) dX11_peopleAt_12 (by first | with_reducible assumption | rfl) rfl (by omega) (hn := by first | decide | omega) ?_
      rw [t3]
      refine st_icmp_ge (tgt := 55) dX11_peopleAt_13 (by omega) (by omega) rfl (fun h => ?_) (fun h => ?_)
      · refine st_iload_n dX11_peopleAt_55 rfl ?_
        exact r_i dX11_peopleAt_56 rfl ⟨by rw [show k = (B 3 4).toNat by omega], rfl, rfl⟩
      · skip
        omega
    | succ n ih =>
      intro k hk
      have hl := atF_rng B r s k (by omega)
      have g4k := g4_lt (B 3 13) k
      have g8k := g8_lt (B 3 12) k
      have no : ¬ (g4 (B 3 13) k = r ∧ g8 (B 3 12) k = s) → AW0 G d m_X11_peopleAt 46 [some (.ref 112), some (I r), some (I s), some (I (atF B r s k)), some (I k)] [I (atF B r s k)] M N (CV (PU (I (atF B r s (B 3 4).toNat)) M N)) := by
        intro h9
        refine st_iconst dX11_peopleAt_46 ?_
        refine st_ior dX11_peopleAt_47 ?_
        refine AW.topv (show _ = I (atF B r s k) from congrArg Value.int (z_or0 hl.1)) ?_
        refine st_istore_n (L' := [_, _, _, _, _]) dX11_peopleAt_48 (by decide) rfl rfl ?_
        refine st_iinc (L' := [_, _, _, _, _]) dX11_peopleAt_49 rfl (by decide) rfl rfl ?_
        refine st_goto (tgt := 5) dX11_peopleAt_52 rfl ?_
        exact AW.to (ih (k + 1) (by omega)) (h2 := by rw [show atF B r s (k + 1) = atF B r s k from if_neg h9]; simp)
      refine st_iload dX11_peopleAt_5 rfl ?_
      refine st_aload_n dX11_peopleAt_7 rfl ?_
      refine st_getfr dX11_peopleAt_8 f_X11_9 (by first | with_reducible assumption | rfl) (by rfl) ?_
      refine st_iconst dX11_peopleAt_11 ?_
      refine st_ialdK (k' := 3) dX11_peopleAt_12 (by first | with_reducible assumption | rfl) rfl (by omega) (hn := by first | decide | omega) ?_
      rw [t3]
      refine st_icmp_ge (tgt := 55) dX11_peopleAt_13 (by omega) (by omega) rfl (fun h => ?_) (fun h => ?_)
      · skip
        omega
      · refine st_iload_n dX11_peopleAt_16 rfl ?_
        refine st_aload_n dX11_peopleAt_17 rfl ?_
        refine st_getfr dX11_peopleAt_18 f_X11_16 (by first | with_reducible assumption | rfl) (by rfl) ?_
        refine st_iload dX11_peopleAt_21 rfl ?_
        first | refine st_ialdK (k' := _) dX11_peopleAt_23 (by first | with_reducible assumption | rfl) rfl (by omega) (hn := by first | decide | omega) ?_ | refine st_iald dX11_peopleAt_23 (by first | with_reducible assumption | rfl) (by omega) (by omega) (hn := by first | decide | omega) ?_
        rw [hP.1 k (by omega)]
        refine st_iload_n dX11_peopleAt_24 rfl ?_
        refine st_icmp_ne (tgt := 46) dX11_peopleAt_25 (by omega) (by omega) rfl (fun h2 => ?_) (fun h2 => ?_)
        · skip
          exact no (by omega)
        · refine st_aload_n dX11_peopleAt_28 rfl ?_
          refine st_getfr dX11_peopleAt_29 f_X11_19 (by first | with_reducible assumption | rfl) (by rfl) ?_
          refine st_iload dX11_peopleAt_32 rfl ?_
          first | refine st_ialdK (k' := _) dX11_peopleAt_34 (by first | with_reducible assumption | rfl) rfl (by omega) (hn := by first | decide | omega) ?_ | refine st_iald dX11_peopleAt_34 (by first | with_reducible assumption | rfl) (by omega) (by omega) (hn := by first | decide | omega) ?_
          rw [hW.1 k (by omega)]
          refine st_iload_n dX11_peopleAt_35 rfl ?_
          refine st_icmp_ne (tgt := 46) dX11_peopleAt_36 (by omega) (by omega) rfl (fun h3 => ?_) (fun h3 => ?_)
          · skip
            exact no (by omega)
          · refine st_iconst dX11_peopleAt_39 ?_
            refine st_iload dX11_peopleAt_40 rfl ?_
            refine st_ishl dX11_peopleAt_42 ?_
            refine st_goto (tgt := 47) dX11_peopleAt_43 rfl ?_
            refine st_ior dX11_peopleAt_47 ?_
            refine AW.topv (show _ = I (orb (atF B r s k) k) from congrArg Value.int (z_set hl.1 (by omega))) ?_
            refine st_istore_n (L' := [_, _, _, _, _]) dX11_peopleAt_48 (by decide) rfl rfl ?_
            refine st_iinc (L' := [_, _, _, _, _]) dX11_peopleAt_49 rfl (by decide) rfl rfl ?_
            refine st_goto (tgt := 5) dX11_peopleAt_52 rfl ?_
            exact AW.to (ih (k + 1) (by omega)) (h2 := by rw [show atF B r s (k + 1) = orb (atF B r s k) k from if_pos (by omega)]; simp)
  exact loop _ 0 (Nat.zero_add _)
theorem C_rat {G : q_G} {d : Nat} {B M : q_Mem} {N : q_MemL} {r s : Int} (hd : 3 ≤ d) (hN : RN B M) (hr0 : i32 r) (hs : i32 s) : AC0 G d m_X11_at [.ref 112, I r, I s] M N (CV (PU (I (A_at B r s)) M N)) := by
  obtain ⟨hB, hT, hP, hW, hb6⟩ := id hN
  unfold A_at
  refine AC.of (L0 := [_, _, _]) pn_X11 (Nat.le_of_ble_eq_true rfl) rfl ?_
  refine st_aload_n dX11_at_0 rfl ?_
  refine st_iload_n dX11_at_1 rfl ?_
  refine c_V1p (d' := d - 1) dX11_at_2 l_X11_423 k_X11_isRoom i_X11_isRoom (Or.inl ⟨_, _, _, _, _, (by first | with_reducible assumption | rfl), by rfl⟩) (by omega) (Nat.le_of_ble_eq_true rfl) (C_isRoom (by omega) hB hT hr0) ?_
  refine b_eq (tgt := 25) dX11_at_5 rfl (fun h7 => ?_) (fun h7 => ?_)
  · refine st_iconst dX11_at_25 ?_
    exact r_i dX11_at_26 rfl ⟨by rw [if_neg (fun z => h7 z.1)], rfl, rfl⟩
  · refine st_aload_n dX11_at_8 rfl ?_
    refine st_iload_n dX11_at_9 rfl ?_
    refine c_V1p (d' := d - 1) dX11_at_10 l_X11_426 k_X11_isStorey i_X11_isStorey (Or.inl ⟨_, _, _, _, _, (by first | with_reducible assumption | rfl), by rfl⟩) (by omega) (Nat.le_of_ble_eq_true rfl) (C_isStorey (by omega) hB hT hs) ?_
    refine b_eq (tgt := 25) dX11_at_13 rfl (fun h8 => ?_) (fun h8 => ?_)
    · refine st_iconst dX11_at_25 ?_
      exact r_i dX11_at_26 rfl ⟨by rw [if_neg (fun z => h8 z.2)], rfl, rfl⟩
    · refine st_aload_n dX11_at_16 rfl ?_
      refine st_iload_n dX11_at_17 rfl ?_
      refine st_iload_n dX11_at_18 rfl ?_
      refine c_V2p (d' := d - 1) dX11_at_19 l_X11_429 k_X11_peopleAt i_X11_peopleAt (Or.inl ⟨_, _, _, _, _, (by first | with_reducible assumption | rfl), by rfl⟩) (by omega) (Nat.le_of_ble_eq_true rfl) (C_peopleAt hN hr0 hs) ?_
      refine st_goto (tgt := 26) dX11_at_22 rfl ?_
      exact r_i dX11_at_26 rfl ⟨by rw [if_pos ⟨h7, h8⟩], rfl, rfl⟩
theorem C_rhighest {G : q_G} {d : Nat} {B M : q_Mem} {N : q_MemL} (hd : 1 ≤ d) (hN : RN B M) : AC0 G d m_X11_highest [.ref 112] M N (CV (PU (I (A_highest B)) M N)) := by
  obtain ⟨hB, hT, hP, hW, hb6⟩ := id hN
  obtain ⟨h0, h1, h2, h3, h4, h5, h6, h11, h12, h13, h15, h17, h18, -⟩ := id hB
  obtain ⟨⟨t0, t1, t2, t3, t4, t5, t7⟩, ts, tp, tt, te⟩ := id hT
  have hiI : ∀ n, (n = 0 ∧ (hiF (B 3 12) n).1 = -2) ∨ (∃ j : Nat, j < n ∧ (hiF (B 3 12) n).1 = (j : Nat) ∧ (hiF (B 3 12) n).2 = g8 (B 3 12) j) := by
    intro n
    induction n with
    | zero => exact Or.inl ⟨rfl, rfl⟩
    | succ n ih =>
      refine Or.inr ?_
      have g := g8_lt (B 3 12) n
      by_cases e : (hiF (B 3 12) n).2 < g8 (B 3 12) n
      · have : hiF (B 3 12) (n + 1) = ((n : Int), g8 (B 3 12) n) := if_pos e
        rw [this]
        exact ⟨n, by omega, rfl, rfl⟩
      · have : hiF (B 3 12) (n + 1) = hiF (B 3 12) n := if_neg e
        rw [this]
        rcases ih with ⟨rfl, z⟩ | ⟨j, j1, j2, j3⟩
        · exfalso
          have : (hiF (B 3 12) 0).2 = -1 := rfl
          omega
        · exact ⟨j, by omega, j2, j3⟩
  unfold A_highest
  refine AC.of (L0 := [_, none, none]) pn_X11 (Nat.le_of_ble_eq_true rfl) rfl ?_
  refine st_aload_n dX11_highest_0 rfl ?_
  refine c_V0p (d' := d - 1) dX11_highest_1 l_X11_186 k_X11_isHouse i_X11_isHouse (Or.inl ⟨_, _, _, _, _, (by first | with_reducible assumption | rfl), by rfl⟩) (by omega) (Nat.le_of_ble_eq_true rfl) (C_isHouse hB hT) ?_
  refine b_ne (tgt := 9) dX11_highest_4 rfl (fun h7 => ?_) (fun h7 => ?_)
  · refine st_bipush dX11_highest_9 (by decide) ?_
    refine st_istore_n (L' := [_, _, _]) dX11_highest_11 (by decide) rfl rfl ?_
    refine st_iconst dX11_highest_12 ?_
    refine st_istore_n (L' := [_, _, _]) dX11_highest_13 (by decide) rfl rfl ?_
    rw [if_pos h7]
    have loop : ∀ (n k : Nat), k + n = (B 3 4).toNat → AW0 G d m_X11_highest 14 [some (.ref 112), some (I (hiF (B 3 12) k).1), some (I k)] [] M N (CV (PU (I (hiF (B 3 12) (B 3 4).toNat).1) M N)) := by
      intro n
      induction n with
      | zero =>
        intro k hk
        refine st_iload_n dX11_highest_14 rfl ?_
        refine st_aload_n dX11_highest_15 rfl ?_
        refine st_getfr dX11_highest_16 f_X11_9 (by first | with_reducible assumption | rfl) (by rfl) ?_
        refine st_iconst dX11_highest_19 ?_
        refine st_ialdK (k' := 3) dX11_highest_20 (by first | with_reducible assumption | rfl) rfl (by omega) (hn := by first | decide | omega) ?_
        rw [t3]
        refine st_icmp_ge (tgt := 57) dX11_highest_21 (by omega) (by omega) rfl (fun h => ?_) (fun h => ?_)
        · refine st_iload_n dX11_highest_57 rfl ?_
          exact r_i dX11_highest_58 rfl ⟨by rw [show k = (B 3 4).toNat by omega], rfl, rfl⟩
        · skip
          omega
      | succ n ih =>
        intro k hk
        have g := g8_lt (B 3 12) k
        have e : hiF (B 3 12) (k + 1) = if (hiF (B 3 12) k).2 < g8 (B 3 12) k then ((k : Int), g8 (B 3 12) k) else hiF (B 3 12) k := rfl
        have up : (hiF (B 3 12) k).2 < g8 (B 3 12) k → AW0 G d m_X11_highest 45 [some (.ref 112), some (I (hiF (B 3 12) k).1), some (I k)] [] M N (CV (PU (I (hiF (B 3 12) (B 3 4).toNat).1) M N)) := by
          intro hh
          rw [if_pos hh] at e
          refine st_iload_n dX11_highest_45 rfl ?_
          refine st_goto (tgt := 50) dX11_highest_46 rfl ?_
          refine st_istore_n (L' := [_, _, _]) dX11_highest_50 (by decide) rfl rfl ?_
          refine st_iinc (L' := [_, _, _]) dX11_highest_51 rfl (by decide) rfl rfl ?_
          refine st_goto (tgt := 14) dX11_highest_54 rfl ?_
          exact AW.to (ih (k + 1) (by omega)) (h2 := by rw [e]; simp)
        refine st_iload_n dX11_highest_14 rfl ?_
        refine st_aload_n dX11_highest_15 rfl ?_
        refine st_getfr dX11_highest_16 f_X11_9 (by first | with_reducible assumption | rfl) (by rfl) ?_
        refine st_iconst dX11_highest_19 ?_
        refine st_ialdK (k' := 3) dX11_highest_20 (by first | with_reducible assumption | rfl) rfl (by omega) (hn := by first | decide | omega) ?_
        rw [t3]
        refine st_icmp_ge (tgt := 57) dX11_highest_21 (by omega) (by omega) rfl (fun h => ?_) (fun h => ?_)
        · skip
          omega
        · refine st_iload_n dX11_highest_24 rfl ?_
          refine st_bipush dX11_highest_25 (by decide) ?_
          rcases hiI k with ⟨rfl, z⟩ | ⟨j, j1, j2, j3⟩
          · rw [z]
            refine st_icmp_eq (tgt := 45) dX11_highest_27 (by omega) (by omega) rfl (fun h2 => ?_) (fun h2 => ?_)
            · skip
              rw [z] at up
              exact up (by show (-1 : Int) < _; omega)
            · skip
              omega
          · skip
            rw [j2]
            have gj := g8_lt (B 3 12) j
            refine st_icmp_eq (tgt := 45) dX11_highest_27 (by omega) (by omega) rfl (fun h2 => ?_) (fun h2 => ?_)
            · skip
              omega
            · refine st_aload_n dX11_highest_30 rfl ?_
              refine st_getfr dX11_highest_31 f_X11_19 (by first | with_reducible assumption | rfl) (by rfl) ?_
              refine st_iload_n dX11_highest_34 rfl ?_
              first | refine st_ialdK (k' := _) dX11_highest_35 (by first | with_reducible assumption | rfl) rfl (by omega) (hn := by first | decide | omega) ?_ | refine st_iald dX11_highest_35 (by first | with_reducible assumption | rfl) (by omega) (by omega) (hn := by first | decide | omega) ?_
              rw [hW.1 k (by omega)]
              refine st_aload_n dX11_highest_36 rfl ?_
              refine st_getfr dX11_highest_37 f_X11_19 (by first | with_reducible assumption | rfl) (by rfl) ?_
              refine st_iload_n dX11_highest_40 rfl ?_
              first | refine st_ialdK (k' := _) dX11_highest_41 (by first | with_reducible assumption | rfl) rfl (by omega) (hn := by first | decide | omega) ?_ | refine st_iald dX11_highest_41 (by first | with_reducible assumption | rfl) (by omega) (by omega) (hn := by first | decide | omega) ?_
              rw [hW.1 j (by omega)]
              refine st_icmp_le (tgt := 49) dX11_highest_42 (by omega) (by omega) rfl (fun h3 => ?_) (fun h3 => ?_)
              · refine st_iload_n dX11_highest_49 rfl ?_
                refine st_istore_n (L' := [_, _, _]) dX11_highest_50 (by decide) rfl rfl ?_
                refine st_iinc (L' := [_, _, _]) dX11_highest_51 rfl (by decide) rfl rfl ?_
                refine st_goto (tgt := 14) dX11_highest_54 rfl ?_
                rw [if_neg (by omega)] at e
                exact AW.to (ih (k + 1) (by omega)) (h2 := by rw [e, j2]; simp)
              · skip
                rw [j2] at up
                exact up (by omega)
    exact loop _ 0 (Nat.zero_add _)
  · refine st_iconst dX11_highest_7 ?_
    rw [if_neg h7]
    exact r_i dX11_highest_8 rfl ⟨rfl, rfl, rfl⟩


/-! the system's Home: what is heard, and the beat -/
theorem C_isAt {G : q_G} {d : Nat} {M : q_Mem} {N : q_MemL} {a k : Nat} {r s : Int} (ha : isHome a) (hd : 1 ≤ d) (hM : Hrg M a ∧ (0 ≤ M a 12 ∧ M a 12 < 1073741824)) (hk : k < 10) (hr : -2147483648 ≤ r ∧ r < 2147483648) (hs : -2147483648 ≤ s ∧ s < 2147483648) : AC0 G d m_X2_isAt [.ref a, I k, I r, I s] M N (CV (PU (Bz (g4 (M a 13) k = r ∧ g8 (M a 12) k = s)) M N)) := by
  have hS := sh_home ha
  obtain ⟨⟨h2, h3, h4, h5, h6, h13, hb, hw, hv⟩, h12⟩ := hM
  have e4 := g4_lt (M a 13) k
  have e8 := g8_lt (M a 12) k
  refine AC.of (L0 := [_, _, _, _]) pn_X2 (Nat.le_of_ble_eq_true rfl) rfl ?_
  refine st_aload_n dX2_isAt_0 rfl ?_
  refine st_getfi dX2_isAt_1 f_X2_63 (by first | assumption | rfl) (by rfl) ?_
  refine st_iload_n dX2_isAt_4 rfl ?_
  refine c_S2p (d' := d - 1) dX2_isAt_5 l_X2_100 k_X10_roomIn s_X10_roomIn (by omega) (Nat.le_of_ble_eq_true rfl) (C_roomIn (by omega) hk) ?_
  refine st_iload_n dX2_isAt_8 rfl ?_
  refine st_icmp_ne (tgt := 28) dX2_isAt_9 (by omega) (by omega) rfl (fun h => ?_) (fun h => ?_)
  · refine st_iconst dX2_isAt_28 ?_
    exact r_z dX2_isAt_29 rfl (by first | omega | (split <;> decide)) ⟨bz0 (by omega), rfl, rfl⟩
  · refine st_aload_n dX2_isAt_12 rfl ?_
    refine st_getfi dX2_isAt_13 f_X2_60 (by first | assumption | rfl) (by rfl) ?_
    refine st_iload_n dX2_isAt_16 rfl ?_
    refine c_S2p (d' := d - 1) dX2_isAt_17 l_X2_103 k_X10_storeyIn s_X10_storeyIn (by omega) (Nat.le_of_ble_eq_true rfl) (C_storeyIn (by omega) hk) ?_
    refine st_iload_n dX2_isAt_20 rfl ?_
    refine st_icmp_ne (tgt := 28) dX2_isAt_21 (by omega) (by omega) rfl (fun h2 => ?_) (fun h2 => ?_)
    · refine st_iconst dX2_isAt_28 ?_
      exact r_z dX2_isAt_29 rfl (by first | omega | (split <;> decide)) ⟨bz0 (by omega), rfl, rfl⟩
    · refine st_iconst dX2_isAt_24 ?_
      refine st_goto (tgt := 29) dX2_isAt_25 rfl ?_
      exact r_z dX2_isAt_29 rfl (by first | omega | (split <;> decide)) ⟨bz1 (by omega), rfl, rfl⟩
def cnt (P : Nat → Prop) [DecidablePred P] (n : Nat) : Int := hsum (fun q => if P q then 1 else 0) n
theorem cnt_succ (P : Nat → Prop) [hd : DecidablePred P] (n : Nat) : cnt P (n + 1) = cnt P n + if P n then 1 else 0 := rfl
theorem cnt_rng (P : Nat → Prop) [hd : DecidablePred P] (n : Nat) : 0 ≤ cnt P n ∧ cnt P n ≤ n := by
  have := hsum_rng (f := fun q => if P q then 1 else 0) (c := 1) (n := n) (fun q _ => by by_cases hq : P q <;> simp [hq])
  unfold cnt
  omega
theorem C_crowdAt {G : q_G} {d : Nat} {M : q_Mem} {N : q_MemL} {a : Nat} {r s : Int} (ha : isHome a) (hd : 2 ≤ d) (hM : Hrg M a ∧ (0 ≤ M a 12 ∧ M a 12 < 1073741824)) (hr : -2147483648 ≤ r ∧ r < 2147483648) (hs : -2147483648 ≤ s ∧ s < 2147483648) : AC0 G d m_X2_crowdAt [.ref a, I r, I s] M N (CV (PU (I (cnt (fun k => g4 (M a 13) k = r ∧ g8 (M a 12) k = s) (M a 4).toNat)) M N)) := by
  have hS := sh_home ha
  have hM0 := hM
  obtain ⟨⟨h2, h3, h4, h5, h6, h13, hb, hw, hv⟩, h12⟩ := hM
  refine AC.of (L0 := [_, _, _, none, none]) pn_X2 (Nat.le_of_ble_eq_true rfl) rfl ?_
  refine st_iconst dX2_crowdAt_0 ?_
  refine st_istore_n (L' := [_, _, _, _, _]) dX2_crowdAt_1 (by decide) rfl rfl ?_
  refine st_iconst dX2_crowdAt_2 ?_
  refine st_istore (L' := [_, _, _, _, _]) dX2_crowdAt_3 (by decide) rfl rfl ?_
  have loop : ∀ (q k : Nat), k + q = (M a 4).toNat → AW0 G d m_X2_crowdAt 5 [some (.ref a), some (I r), some (I s), some (I (cnt (fun k => g4 (M a 13) k = r ∧ g8 (M a 12) k = s) k)), some (I k)] [] M N (CV (PU (I (cnt (fun k => g4 (M a 13) k = r ∧ g8 (M a 12) k = s) (M a 4).toNat)) M N)) := by
    intro q
    induction q with
    | zero =>
      intro k hk
      refine st_iload dX2_crowdAt_5 rfl ?_
      refine st_aload_n dX2_crowdAt_7 rfl ?_
      refine st_getfi dX2_crowdAt_8 f_X2_44 (by first | assumption | rfl) (by rfl) ?_
      refine st_icmp_ge (tgt := 34) dX2_crowdAt_11 (by omega) (by omega) rfl (fun h => ?_) (fun h => ?_)
      · refine st_iload_n dX2_crowdAt_34 rfl ?_
        exact r_i dX2_crowdAt_35 rfl ⟨by rw [show k = (M a 4).toNat by omega], rfl, rfl⟩
      · skip
        omega
    | succ q ih =>
      intro k hk
      refine st_iload dX2_crowdAt_5 rfl ?_
      refine st_aload_n dX2_crowdAt_7 rfl ?_
      refine st_getfi dX2_crowdAt_8 f_X2_44 (by first | assumption | rfl) (by rfl) ?_
      refine st_icmp_ge (tgt := 34) dX2_crowdAt_11 (by omega) (by omega) rfl (fun h => ?_) (fun h => ?_)
      · skip
        omega
      · refine st_aload_n dX2_crowdAt_14 rfl ?_
        refine st_iload dX2_crowdAt_15 rfl ?_
        refine st_iload_n dX2_crowdAt_17 rfl ?_
        refine st_iload_n dX2_crowdAt_18 rfl ?_
        refine c_V3p (d' := d - 1) dX2_crowdAt_19 l_X2_106 k_X2_isAt i_X2_isAt (Or.inl ⟨_, _, _, _, _, (by first | assumption | rfl), by rfl⟩) (by omega) (Nat.le_of_ble_eq_true rfl) (C_isAt ha (by omega) hM0 (by omega) hr hs) ?_
        have e := cnt_succ (fun k => g4 (M a 13) k = r ∧ g8 (M a 12) k = s) k
        refine b_eq (tgt := 28) dX2_crowdAt_22 rfl (fun h2 => ?_) (fun h2 => ?_)
        · refine st_iinc (L' := [_, _, _, _, _]) dX2_crowdAt_28 rfl (by decide) rfl rfl ?_
          refine st_goto (tgt := 5) dX2_crowdAt_31 rfl ?_
          rw [if_neg h2] at e
          refine AW.to (ih (k + 1) (by omega)) (h2 := by rw [e]; simp)
        · refine st_iinc (L' := [_, _, _, _, _]) dX2_crowdAt_25 rfl (by decide) rfl rfl ?_
          refine st_iinc (L' := [_, _, _, _, _]) dX2_crowdAt_28 rfl (by decide) rfl rfl ?_
          refine st_goto (tgt := 5) dX2_crowdAt_31 rfl ?_
          rw [if_pos h2] at e
          refine AW.to (ih (k + 1) (by omega)) (h2 := by rw [e]; simp)
  exact loop (M a 4).toNat 0 (by omega)
theorem C_tell {G : q_G} {d : Nat} {M : q_Mem} {N : q_MemL} {a r n : Nat} {vs : List Value} {b s : Int} (ha : isHome a) (hd : 2 ≤ d) (hM : Hrg M a) (hr : S0[r]? = some (20, n, vs)) (hn : 7 ≤ n ∧ n < 1000) (hra : r ≠ a ∧ r ≠ a + 4) (hb0 : 0 ≤ b ∧ b < 1000000) (hs : 0 ≤ s ∧ s < 2147483648) : AC0 G d m_X2_tell [.ref a, I b, I s, .ref r] M N (CN (fun M' N' => N' = N ∧ M' = fun a' j => if a' = r ∧ j < (M a 4).toNat then (if s.toNat.testBit j = true then 0 else M (a + 4) (j * 6 + (hourOf (M a 2) b).toNat)) else M a' j)) := by
  have hS := sh_home ha
  obtain ⟨h2, h3, h4, h5, h6, h13, hb, hw, hv⟩ := hM
  have hh := hourOf_rng (h := M a 2) (b := b) hb0.1
  refine AC.of (L0 := [_, _, _, _, none, none]) pn_X2 (Nat.le_of_ble_eq_true rfl) rfl ?_
  refine st_aload_n dX2_tell_0 rfl ?_
  refine st_iload_n dX2_tell_1 rfl ?_
  refine c_V1p (d' := d - 1) dX2_tell_2 l_X2_110 k_X2_hourAt i_X2_hourAt (Or.inl ⟨_, _, _, _, _, (by first | assumption | rfl), by rfl⟩) (by omega) (Nat.le_of_ble_eq_true rfl) (C_hourAt ha h2 (by omega)) ?_
  refine st_istore (L' := [_, _, _, _, _, _]) dX2_tell_5 (by decide) rfl rfl ?_
  refine st_iconst dX2_tell_7 ?_
  refine st_istore (L' := [_, _, _, _, _, _]) dX2_tell_8 (by decide) rfl rfl ?_
  have loop : ∀ (q k : Nat) (M1 : q_Mem), k + q = (M a 4).toNat → (M1 = fun a' j => if a' = r ∧ j < k then (if s.toNat.testBit j = true then 0 else M (a + 4) (j * 6 + (hourOf (M a 2) b).toNat)) else M a' j) → AW0 G d m_X2_tell 10 [some (.ref a), some (I b), some (I s), some (.ref r), some (I (hourOf (M a 2) b)), some (I k)] [] M1 N (CN (fun M' N' => N' = N ∧ M' = fun a' j => if a' = r ∧ j < (M a 4).toNat then (if s.toNat.testBit j = true then 0 else M (a + 4) (j * 6 + (hourOf (M a 2) b).toNat)) else M a' j)) := by
    intro q
    induction q with
    | zero =>
      intro k M1 hk hM1
      have e1 : M1 a = M a := by rw [hM1]; funext j; simp [Ne.symm hra.1]
      refine st_iload dX2_tell_10 rfl ?_
      refine st_aload_n dX2_tell_12 rfl ?_
      refine st_getfi dX2_tell_13 f_X2_44 (by first | assumption | rfl) (by rfl) ?_
      rw [e1]
      refine st_icmp_ge (tgt := 57) dX2_tell_16 (by omega) (by omega) rfl (fun h => ?_) (fun h => ?_)
      · skip
        exact r_v dX2_tell_57 rfl ⟨rfl, by rw [hM1, show k = (M a 4).toNat by omega]⟩
      · skip
        omega
    | succ q ih =>
      intro k M1 hk hM1
      have e1 : M1 a = M a := by rw [hM1]; funext j; simp [Ne.symm hra.1]
      have e4 : M1 (a + 4) = M (a + 4) := by rw [hM1]; funext j; simp [Ne.symm hra.2]
      have step : ∀ z : Int, z = (if s.toNat.testBit k = true then 0 else M (a + 4) (k * 6 + (hourOf (M a 2) b).toNat)) → q_up M1 r k z = fun a' j => if a' = r ∧ j < k + 1 then (if s.toNat.testBit j = true then 0 else M (a + 4) (j * 6 + (hourOf (M a 2) b).toNat)) else M a' j := by
        intro z hz
        rw [hM1]
        funext a' j
        simp only [q_up]
        by_cases ha' : a' = r
        · by_cases hj : j = k
          · simp [ha', hj, hz]
          · have : (j < k) = (j < k + 1) := by apply propext; omega
            simp [ha', hj, this]
        · simp [ha']
      refine st_iload dX2_tell_10 rfl ?_
      refine st_aload_n dX2_tell_12 rfl ?_
      refine st_getfi dX2_tell_13 f_X2_44 (by first | assumption | rfl) (by rfl) ?_
      rw [e1]
      refine st_icmp_ge (tgt := 57) dX2_tell_16 (by omega) (by omega) rfl (fun h => ?_) (fun h => ?_)
      · skip
        omega
      · refine st_iload dX2_tell_19 rfl ?_
        refine st_aload_n dX2_tell_21 rfl ?_
        refine st_alen dX2_tell_22 (by first | assumption | rfl) (by decide) ?_
        refine st_icmp_ge (tgt := 57) dX2_tell_23 (by omega) (by omega) rfl (fun h2 => ?_) (fun h2 => ?_)
        · skip
          omega
        · refine st_aload_n dX2_tell_26 rfl ?_
          refine st_iload dX2_tell_27 rfl ?_
          refine st_iload_n dX2_tell_29 rfl ?_
          refine st_iload dX2_tell_30 rfl ?_
          refine c_S2p (d' := d - 1) dX2_tell_32 l_X2_114 k_X10_has s_X10_has (by omega) (Nat.le_of_ble_eq_true rfl) (C_has hs (by omega)) ?_
          refine b_eq (tgt := 42) dX2_tell_35 rfl (fun h3 => ?_) (fun h3 => ?_)
          · refine st_aload_n dX2_tell_42 rfl ?_
            refine st_iload dX2_tell_43 rfl ?_
            refine st_iload dX2_tell_45 rfl ?_
            refine c_V2p (d' := d - 1) dX2_tell_47 l_X2_118 k_X2_voice i_X2_voice (Or.inl ⟨_, _, _, _, _, (by first | assumption | rfl), by rfl⟩) (by omega) (Nat.le_of_ble_eq_true rfl) (C_voice ha (by omega) (by omega) (by omega)) ?_
            rw [e4]
            refine st_iast dX2_tell_50 (by first | assumption | rfl) (by omega) (by omega) (hn := by first | decide | omega) ?_
            refine st_iinc (L' := [_, _, _, _, _, _]) dX2_tell_51 rfl (by decide) rfl rfl ?_
            refine st_goto (tgt := 10) dX2_tell_54 rfl ?_
            rw [show (((k : Int)).toNat) = k by omega]
            refine AW.to (ih (k + 1) _ (by omega) (step _ ?_)) (h2 := by simp)
            rw [if_neg h3]
            congr 1
            omega
          · refine st_iconst dX2_tell_38 ?_
            refine st_goto (tgt := 50) dX2_tell_39 rfl ?_
            refine st_iast dX2_tell_50 (by first | assumption | rfl) (by omega) (by omega) (hn := by first | decide | omega) ?_
            refine st_iinc (L' := [_, _, _, _, _, _]) dX2_tell_51 rfl (by decide) rfl rfl ?_
            refine st_goto (tgt := 10) dX2_tell_54 rfl ?_
            rw [show (((k : Int)).toNat) = k by omega]
            refine AW.to (ih (k + 1) _ (by omega) (step _ ?_)) (h2 := by simp)
            rw [if_pos h3]
  exact loop (M a 4).toNat 0 M (by omega) (by funext a' j; simp)
theorem C_faded {G : q_G} {d : Nat} {M : q_Mem} {N : q_MemL} {x y : Int} (hx : 0 ≤ x ∧ x < 2147483648) (hy : -2147483648 ≤ y ∧ y < 2147483648) : AC0 G d m_X2_faded [I x, I y] M N (CV (PU (I (fade x y)) M N)) := by
  refine AC.of (L0 := [_, _]) pn_X2 (Nat.le_of_ble_eq_true rfl) rfl ?_
  refine st_iload_n dX2_faded_0 rfl ?_
  refine st_if_ne (tgt := 8) dX2_faded_1 (by omega) rfl (fun h => ?_) (fun h => ?_)
  · refine st_iload_n dX2_faded_8 rfl ?_
    refine st_iconst dX2_faded_9 ?_
    refine st_icmp_eq (tgt := 18) dX2_faded_10 (by omega) (by omega) rfl (fun h2 => ?_) (fun h2 => ?_)
    · refine st_iload_n dX2_faded_18 rfl ?_
      refine st_iconst dX2_faded_19 ?_
      refine st_idiv dX2_faded_20 (zi_ne0 (by omega)) ?_
      refine AW.top (zi_divI hx (by omega)) ?_
      refine st_goto (tgt := 25) dX2_faded_21 rfl ?_
      exact r_i dX2_faded_25 rfl ⟨by rw [fade, if_neg h, if_pos (Or.inl h2)], rfl, rfl⟩
    · refine st_iload_n dX2_faded_13 rfl ?_
      refine st_iconst dX2_faded_14 ?_
      refine st_icmp_ne (tgt := 24) dX2_faded_15 (by omega) (by omega) rfl (fun h3 => ?_) (fun h3 => ?_)
      · refine st_iconst dX2_faded_24 ?_
        exact r_i dX2_faded_25 rfl ⟨by rw [fade, if_neg h, if_neg (by omega)], rfl, rfl⟩
      · refine st_iload_n dX2_faded_18 rfl ?_
        refine st_iconst dX2_faded_19 ?_
        refine st_idiv dX2_faded_20 (zi_ne0 (by omega)) ?_
        refine AW.top (zi_divI hx (by omega)) ?_
        refine st_goto (tgt := 25) dX2_faded_21 rfl ?_
        exact r_i dX2_faded_25 rfl ⟨by rw [fade, if_neg h, if_pos (by omega)], rfl, rfl⟩
  · refine st_iload_n dX2_faded_4 rfl ?_
    refine st_iconst dX2_faded_5 ?_
    refine st_idiv dX2_faded_6 (zi_ne0 (by omega)) ?_
    refine AW.top (zi_divI hx (by omega)) ?_
    exact r_i dX2_faded_7 rfl ⟨by rw [fade, if_pos h], rfl, rfl⟩
theorem C_heardBy {G : q_G} {d : Nat} {M : q_Mem} {N : q_MemL} {a r p n : Nat} {vs : List Value} {w rg : Int} (ha : isHome a) (hd : 1 ≤ d) (hM : Hrg M a) (hr : S0[r]? = some (20, n, vs)) (hn : 7 ≤ n ∧ n < 1000) (hp : p < (M a 4).toNat) (hw0 : 0 ≤ w ∧ w < 2147483648) (hg0 : 0 ≤ rg ∧ rg < 2147483648) (hv0 : Sok M r (M a 4).toNat) : AC0 G d m_X2_heardBy [.ref a, I p, I w, I rg, .ref r] M N (CV (PU (I (hearP (M a 4).toNat (M a 6) (g8 w) (g4 rg) (M r) p)) M N)) := by
  have hS := sh_home ha
  obtain ⟨h2, h3, h4, h5, h6, h13, hb, hw, hv⟩ := hM
  refine AC.of (L0 := [_, _, _, _, _, none, none, none, none]) pn_X2 (Nat.le_of_ble_eq_true rfl) rfl ?_
  refine st_aload_n dX2_heardBy_0 rfl ?_
  refine st_getfi dX2_heardBy_1 f_X2_50 (by first | assumption | rfl) (by rfl) ?_
  refine st_iload_n dX2_heardBy_4 rfl ?_
  refine c_S2p (d' := d - 1) dX2_heardBy_5 l_X2_114 k_X10_has s_X10_has (by omega) (Nat.le_of_ble_eq_true rfl) (C_has (by omega) (by omega)) ?_
  refine b_eq (tgt := 18) dX2_heardBy_8 rfl (fun h => ?_) (fun h => ?_)
  · refine st_iload_n dX2_heardBy_18 rfl ?_
    refine st_iload_n dX2_heardBy_19 rfl ?_
    refine c_S2p (d' := d - 1) dX2_heardBy_20 l_X2_103 k_X10_storeyIn s_X10_storeyIn (by omega) (Nat.le_of_ble_eq_true rfl) (C_storeyIn hw0 (by omega)) ?_
    refine st_istore (L' := [_, _, _, _, _, _, _, _, _]) dX2_heardBy_23 (by decide) rfl rfl ?_
    refine st_iload_n dX2_heardBy_25 rfl ?_
    refine st_iload_n dX2_heardBy_26 rfl ?_
    refine c_S2p (d' := d - 1) dX2_heardBy_27 l_X2_100 k_X10_roomIn s_X10_roomIn (by omega) (Nat.le_of_ble_eq_true rfl) (C_roomIn hg0 (by omega)) ?_
    refine st_istore (L' := [_, _, _, _, _, _, _, _, _]) dX2_heardBy_30 (by decide) rfl rfl ?_
    refine st_iconst dX2_heardBy_32 ?_
    refine st_istore (L' := [_, _, _, _, _, _, _, _, _]) dX2_heardBy_33 (by decide) rfl rfl ?_
    refine st_iconst dX2_heardBy_35 ?_
    refine st_istore (L' := [_, _, _, _, _, _, _, _, _]) dX2_heardBy_36 (by decide) rfl rfl ?_
    have loop : ∀ (q k : Nat), k + q = (M a 4).toNat → AW0 G d m_X2_heardBy 38 [some (.ref a), some (I p), some (I w), some (I rg), some (.ref r), some (I (g8 w p)), some (I (g4 rg p)), some (I (hsum (hearF (g8 w) (g4 rg) (M r) p) k)), some (I k)] [] M N (CV (PU (I (hearP (M a 4).toNat (M a 6) (g8 w) (g4 rg) (M r) p)) M N)) := by
      intro q
      induction q with
      | zero =>
        intro k hk
        refine st_iload dX2_heardBy_38 rfl ?_
        refine st_aload_n dX2_heardBy_40 rfl ?_
        refine st_getfi dX2_heardBy_41 f_X2_44 (by first | assumption | rfl) (by rfl) ?_
        refine st_icmp_ge (tgt := 113) dX2_heardBy_44 (by omega) (by omega) rfl (fun h7 => ?_) (fun h7 => ?_)
        · refine st_iload dX2_heardBy_113 rfl ?_
          exact r_i dX2_heardBy_115 rfl ⟨by rw [hearP, if_neg h, show k = (M a 4).toNat by omega], rfl, rfl⟩
        · skip
          omega
      | succ q ih =>
        intro k hk
        have hvk := hv0 k (by omega)
        have e4 := g4_lt rg k
        have e4p := g4_lt rg p
        have e8 := g8_lt w k
        have e8p := g8_lt w p
        have hs : hsum (hearF (g8 w) (g4 rg) (M r) p) (k + 1) = hsum (hearF (g8 w) (g4 rg) (M r) p) k + hearF (g8 w) (g4 rg) (M r) p k := rfl
        refine st_iload dX2_heardBy_38 rfl ?_
        refine st_aload_n dX2_heardBy_40 rfl ?_
        refine st_getfi dX2_heardBy_41 f_X2_44 (by first | assumption | rfl) (by rfl) ?_
        refine st_icmp_ge (tgt := 113) dX2_heardBy_44 (by omega) (by omega) rfl (fun h7 => ?_) (fun h7 => ?_)
        · skip
          omega
        · refine st_iload dX2_heardBy_47 rfl ?_
          refine st_aload dX2_heardBy_49 rfl ?_
          refine st_alen dX2_heardBy_51 (by first | assumption | rfl) (by decide) ?_
          refine st_icmp_ge (tgt := 113) dX2_heardBy_52 (by omega) (by omega) rfl (fun h8 => ?_) (fun h8 => ?_)
          · skip
            omega
          · refine st_iload dX2_heardBy_55 rfl ?_
            refine st_iload_n dX2_heardBy_57 rfl ?_
            refine st_icmp_ne (tgt := 74) dX2_heardBy_58 (by omega) (by omega) rfl (fun h9 => ?_) (fun h9 => ?_)
            · refine st_iload_n dX2_heardBy_74 rfl ?_
              refine st_iload dX2_heardBy_75 rfl ?_
              refine c_S2p (d' := d - 1) dX2_heardBy_77 l_X2_103 k_X10_storeyIn s_X10_storeyIn (by omega) (Nat.le_of_ble_eq_true rfl) (C_storeyIn hw0 (by omega)) ?_
              refine st_iload dX2_heardBy_80 rfl ?_
              refine st_icmp_ne (tgt := 107) dX2_heardBy_82 (by omega) (by omega) rfl (fun h10 => ?_) (fun h10 => ?_)
              · refine st_iinc (L' := [_, _, _, _, _, _, _, _, _]) dX2_heardBy_107 rfl (by decide) rfl rfl ?_
                refine st_goto (tgt := 38) dX2_heardBy_110 rfl ?_
                refine AW.to (ih (k + 1) (by omega)) (h2 := by rw [hs, hearF, if_neg (by omega), if_neg h10]; simp)
              · refine st_iload dX2_heardBy_85 rfl ?_
                refine st_aload dX2_heardBy_87 rfl ?_
                refine st_iload dX2_heardBy_89 rfl ?_
                refine st_iald dX2_heardBy_91 (by first | assumption | rfl) (by omega) (by omega) (hn := by first | decide | omega) ?_
                refine st_iload dX2_heardBy_92 rfl ?_
                refine st_iload_n dX2_heardBy_94 rfl ?_
                refine st_iload dX2_heardBy_95 rfl ?_
                refine c_S2p (d' := d - 1) dX2_heardBy_97 l_X2_100 k_X10_roomIn s_X10_roomIn (by omega) (Nat.le_of_ble_eq_true rfl) (C_roomIn hg0 (by omega)) ?_
                refine st_isub dX2_heardBy_100 ?_
                rw [show (((k : Int)).toNat) = k by omega]
                refine c_S2p (d' := d - 1) dX2_heardBy_101 l_X2_121 k_X2_faded s_X2_faded (by omega) (Nat.le_of_ble_eq_true rfl) (C_faded (by omega) (by omega)) ?_
                refine st_iadd dX2_heardBy_104 ?_
                refine st_istore (L' := [_, _, _, _, _, _, _, _, _]) dX2_heardBy_105 (by decide) rfl rfl ?_
                refine st_iinc (L' := [_, _, _, _, _, _, _, _, _]) dX2_heardBy_107 rfl (by decide) rfl rfl ?_
                refine st_goto (tgt := 38) dX2_heardBy_110 rfl ?_
                refine AW.to (ih (k + 1) (by omega)) (h2 := by rw [hs, hearF, if_neg (by omega), if_pos h10]; simp)
            · refine st_iload dX2_heardBy_61 rfl ?_
              refine st_aload dX2_heardBy_63 rfl ?_
              refine st_iload dX2_heardBy_65 rfl ?_
              refine st_iald dX2_heardBy_67 (by first | assumption | rfl) (by omega) (by omega) (hn := by first | decide | omega) ?_
              refine st_iadd dX2_heardBy_68 ?_
              refine st_istore (L' := [_, _, _, _, _, _, _, _, _]) dX2_heardBy_69 (by decide) rfl rfl ?_
              refine st_goto (tgt := 107) dX2_heardBy_71 rfl ?_
              refine st_iinc (L' := [_, _, _, _, _, _, _, _, _]) dX2_heardBy_107 rfl (by decide) rfl rfl ?_
              refine st_goto (tgt := 38) dX2_heardBy_110 rfl ?_
              rw [show (((k : Int)).toNat) = k by omega]
              refine AW.to (ih (k + 1) (by omega)) (h2 := by rw [hs, hearF, if_pos (by omega)]; simp)
    exact loop (M a 4).toNat 0 (by omega)
  · refine st_aload dX2_heardBy_11 rfl ?_
    refine st_iload_n dX2_heardBy_13 rfl ?_
    refine c_S2p (d' := d - 1) dX2_heardBy_14 l_X2_93 k_X10_cell s_X10_cell (by omega) (Nat.le_of_ble_eq_true rfl) (C_cell (z := M r p) hr (by omega) (by omega) (by rw [if_pos (by omega)]; rfl)) ?_
    exact r_i dX2_heardBy_17 rfl ⟨by rw [hearP, if_pos h], rfl, rfl⟩


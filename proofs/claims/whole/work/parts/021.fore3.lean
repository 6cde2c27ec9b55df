/-! the system's Forecast: sneezes -/
def drw (x : Int) : Int := (x * 1103515245 + 12345) % 2147483648
theorem drw_rng (x : Int) : 0 ≤ drw x ∧ drw x < 2147483648 := by unfold drw; omega
theorem j_bv (n : Nat) : (Int64.ofInt n).toBitVec = BitVec.ofNat 64 n := BitVec.ofInt_natCast 64 n
theorem j_and31 (n : Nat) (hn : n < 9223372036854775808) : Int64.ofInt n &&& 2147483647 = Int64.ofInt ((n % 2147483648 : Nat) : Int) := by
  apply Int64.toBitVec.inj
  rw [Int64.toBitVec_and, j_bv, j_bv, show (2147483647 : Int64).toBitVec = BitVec.ofNat 64 (2 ^ 31 - 1) from rfl]
  apply BitVec.eq_of_toNat_eq
  rw [BitVec.toNat_and, BitVec.toNat_ofNat, BitVec.toNat_ofNat, BitVec.toNat_ofNat, Nat.mod_eq_of_lt (by omega), Nat.mod_eq_of_lt (a := 2 ^ 31 - 1) (by decide), Nat.and_two_pow_sub_one_eq_mod, Nat.mod_eq_of_lt (a := n % 2147483648) (by omega)]
theorem C_nextDraw {G : q_G} {d : Nat} {M : q_Mem} {N : q_MemL} {x : Int} (hx : 0 ≤ x ∧ x < 2147483648) : AC0 G d m_X1_nextDraw [I x] M N (CV (PU (I (drw x)) M N)) := by
  have e1 : ((zi x).toInt64 * 1103515245 + 12345) &&& 2147483647 = Int64.ofInt (drw x) := by
    rw [j_i2l (by omega), show (1103515245 : Int64) = Int64.ofInt 1103515245 from rfl, ← Int64.ofInt_mul, show (12345 : Int64) = Int64.ofInt 12345 from rfl, ← Int64.ofInt_add, show x * 1103515245 + 12345 = (((x * 1103515245 + 12345).toNat : Nat) : Int) by omega, j_and31 _ (by omega)]
    congr 1
    unfold drw
    omega
  refine AC.of (L0 := [_]) pn_X1 (Nat.le_of_ble_eq_true rfl) rfl ?_
  refine st_iload_n dX1_nextDraw_0 rfl ?_
  refine st_i2l dX1_nextDraw_1 ?_
  refine st_ldc2 dX1_nextDraw_2 l_X1_86 ?_
  refine st_lmul dX1_nextDraw_5 ?_
  refine st_ldc2 dX1_nextDraw_6 l_X1_88 ?_
  refine st_ladd dX1_nextDraw_9 ?_
  refine st_ldc2 dX1_nextDraw_10 l_X1_90 ?_
  refine st_land dX1_nextDraw_13 ?_
  rw [e1]
  refine st_l2i dX1_nextDraw_14 ?_
  rw [Int64.toInt32_ofInt]
  exact r_i dX1_nextDraw_15 rfl ⟨rfl, rfl, rfl⟩
theorem C_risen {G : q_G} {d : Nat} {M : q_Mem} {N : q_MemL} {w z : Int} (hd : 1 ≤ d) (h4 : 0 ≤ M 3 4 ∧ M 3 4 ≤ 7) (hw : 0 ≤ w ∧ w < 1073741824) (hz : 0 ≤ z ∧ z < 1073741824) : AC0 G d m_X1_risen [.ref 91, I w, I z] M N (CV (PU (I (cnt (fun q => g8 w q < g8 z q) (M 3 4).toNat)) M N)) := by
  refine AC.of (L0 := [_, _, _, none, none]) pn_X1 (Nat.le_of_ble_eq_true rfl) rfl ?_
  refine st_iconst dX1_risen_0 ?_
  refine st_istore_n (L' := [_, _, _, _, _]) dX1_risen_1 (by decide) rfl rfl ?_
  refine st_iconst dX1_risen_2 ?_
  refine st_istore (L' := [_, _, _, _, _]) dX1_risen_3 (by decide) rfl rfl ?_
  have loop : ∀ (q k : Nat), k + q = (M 3 4).toNat → AW0 G d m_X1_risen 5 [some (.ref 91), some (I w), some (I z), some (I (cnt (fun q => g8 w q < g8 z q) k)), some (I k)] [] M N (CV (PU (I (cnt (fun q => g8 w q < g8 z q) (M 3 4).toNat)) M N)) := by
    intro q
    induction q with
    | zero =>
      intro k hk
      refine st_iload dX1_risen_5 rfl ?_
      refine st_aload_n dX1_risen_7 rfl ?_
      refine st_getfr dX1_risen_8 f_X1_18 (by first | assumption | rfl) (by rfl) ?_
      refine st_getfi dX1_risen_11 f_X1_62 (by first | assumption | rfl) (by rfl) ?_
      refine st_icmp_ge (tgt := 41) dX1_risen_14 (by omega) (by omega) rfl (fun h => ?_) (fun h => ?_)
      · refine st_iload_n dX1_risen_41 rfl ?_
        exact r_i dX1_risen_42 rfl ⟨by rw [show k = (M 3 4).toNat by omega], rfl, rfl⟩
      · skip
        omega
    | succ q ih =>
      intro k hk
      have e := cnt_succ (fun q => g8 w q < g8 z q) k
      have h1 := g8_lt w k
      have h2 := g8_lt z k
      refine st_iload dX1_risen_5 rfl ?_
      refine st_aload_n dX1_risen_7 rfl ?_
      refine st_getfr dX1_risen_8 f_X1_18 (by first | assumption | rfl) (by rfl) ?_
      refine st_getfi dX1_risen_11 f_X1_62 (by first | assumption | rfl) (by rfl) ?_
      refine st_icmp_ge (tgt := 41) dX1_risen_14 (by omega) (by omega) rfl (fun h => ?_) (fun h => ?_)
      · skip
        omega
      · refine st_iload_n dX1_risen_17 rfl ?_
        refine st_iload dX1_risen_18 rfl ?_
        refine c_S2p (d' := d - 1) dX1_risen_20 l_X1_65 k_X10_storeyIn s_X10_storeyIn (by omega) (Nat.le_of_ble_eq_true rfl) (C_storeyIn (by omega) (by omega)) ?_
        refine st_iload_n dX1_risen_23 rfl ?_
        refine st_iload dX1_risen_24 rfl ?_
        refine c_S2p (d' := d - 1) dX1_risen_26 l_X1_65 k_X10_storeyIn s_X10_storeyIn (by omega) (Nat.le_of_ble_eq_true rfl) (C_storeyIn (by omega) (by omega)) ?_
        refine st_icmp_le (tgt := 35) dX1_risen_29 (by omega) (by omega) rfl (fun h3 => ?_) (fun h3 => ?_)
        · refine st_iinc (L' := [_, _, _, _, _]) dX1_risen_35 rfl (by decide) rfl rfl ?_
          refine st_goto (tgt := 5) dX1_risen_38 rfl ?_
          rw [if_neg (by omega)] at e
          refine AW.to (ih (k + 1) (by omega)) (h2 := by rw [e]; simp)
        · refine st_iinc (L' := [_, _, _, _, _]) dX1_risen_32 rfl (by decide) rfl rfl ?_
          refine st_iinc (L' := [_, _, _, _, _]) dX1_risen_35 rfl (by decide) rfl rfl ?_
          refine st_goto (tgt := 5) dX1_risen_38 rfl ?_
          rw [if_pos (by omega)] at e
          refine AW.to (ih (k + 1) (by omega)) (h2 := by rw [e]; simp)
  exact loop (M 3 4).toNat 0 (by omega)
theorem C_onTop {G : q_G} {d : Nat} {M : q_Mem} {N : q_MemL} {w : Int} (hd : 1 ≤ d) (h3 : 0 ≤ M 3 3 ∧ M 3 3 ≤ 8) (h4 : 0 ≤ M 3 4 ∧ M 3 4 ≤ 7) (hw : 0 ≤ w ∧ w < 1073741824) : AC0 G d m_X1_onTop [.ref 91, I w] M N (CV (PU (I (cnt (fun q => g8 w q = M 3 3 - 1) (M 3 4).toNat)) M N)) := by
  refine AC.of (L0 := [_, _, none, none]) pn_X1 (Nat.le_of_ble_eq_true rfl) rfl ?_
  refine st_iconst dX1_onTop_0 ?_
  refine st_istore_n (L' := [_, _, _, _]) dX1_onTop_1 (by decide) rfl rfl ?_
  refine st_iconst dX1_onTop_2 ?_
  refine st_istore_n (L' := [_, _, _, _]) dX1_onTop_3 (by decide) rfl rfl ?_
  have loop : ∀ (q k : Nat), k + q = (M 3 4).toNat → AW0 G d m_X1_onTop 4 [some (.ref 91), some (I w), some (I (cnt (fun q => g8 w q = M 3 3 - 1) k)), some (I k)] [] M N (CV (PU (I (cnt (fun q => g8 w q = M 3 3 - 1) (M 3 4).toNat)) M N)) := by
    intro q
    induction q with
    | zero =>
      intro k hk
      refine st_iload_n dX1_onTop_4 rfl ?_
      refine st_aload_n dX1_onTop_5 rfl ?_
      refine st_getfr dX1_onTop_6 f_X1_18 (by first | assumption | rfl) (by rfl) ?_
      refine st_getfi dX1_onTop_9 f_X1_62 (by first | assumption | rfl) (by rfl) ?_
      refine st_icmp_ge (tgt := 41) dX1_onTop_12 (by omega) (by omega) rfl (fun h => ?_) (fun h => ?_)
      · refine st_iload_n dX1_onTop_41 rfl ?_
        exact r_i dX1_onTop_42 rfl ⟨by rw [show k = (M 3 4).toNat by omega], rfl, rfl⟩
      · skip
        omega
    | succ q ih =>
      intro k hk
      have e := cnt_succ (fun q => g8 w q = M 3 3 - 1) k
      have h1 := g8_lt w k
      refine st_iload_n dX1_onTop_4 rfl ?_
      refine st_aload_n dX1_onTop_5 rfl ?_
      refine st_getfr dX1_onTop_6 f_X1_18 (by first | assumption | rfl) (by rfl) ?_
      refine st_getfi dX1_onTop_9 f_X1_62 (by first | assumption | rfl) (by rfl) ?_
      refine st_icmp_ge (tgt := 41) dX1_onTop_12 (by omega) (by omega) rfl (fun h => ?_) (fun h => ?_)
      · skip
        omega
      · refine st_iload_n dX1_onTop_15 rfl ?_
        refine st_iload_n dX1_onTop_16 rfl ?_
        refine c_S2p (d' := d - 1) dX1_onTop_17 l_X1_65 k_X10_storeyIn s_X10_storeyIn (by omega) (Nat.le_of_ble_eq_true rfl) (C_storeyIn (by omega) (by omega)) ?_
        refine st_aload_n dX1_onTop_20 rfl ?_
        refine st_getfr dX1_onTop_21 f_X1_18 (by first | assumption | rfl) (by rfl) ?_
        refine st_getfi dX1_onTop_24 f_X1_92 (by first | assumption | rfl) (by rfl) ?_
        refine st_iconst dX1_onTop_27 ?_
        refine st_isub dX1_onTop_28 ?_
        refine st_icmp_ne (tgt := 35) dX1_onTop_29 (by omega) (by omega) rfl (fun h7 => ?_) (fun h7 => ?_)
        · refine st_iinc (L' := [_, _, _, _]) dX1_onTop_35 rfl (by decide) rfl rfl ?_
          refine st_goto (tgt := 4) dX1_onTop_38 rfl ?_
          rw [if_neg (by omega)] at e
          refine AW.to (ih (k + 1) (by omega)) (h2 := by rw [e]; simp)
        · refine st_iinc (L' := [_, _, _, _]) dX1_onTop_32 rfl (by decide) rfl rfl ?_
          refine st_iinc (L' := [_, _, _, _]) dX1_onTop_35 rfl (by decide) rfl rfl ?_
          refine st_goto (tgt := 4) dX1_onTop_38 rfl ?_
          rw [if_pos (by omega)] at e
          refine AW.to (ih (k + 1) (by omega)) (h2 := by rw [e]; simp)
  exact loop (M 3 4).toNat 0 (by omega)
theorem C_allDown {G : q_G} {d : Nat} {M : q_Mem} {N : q_MemL} {w : Int} (hd : 1 ≤ d) (h4 : 0 ≤ M 3 4 ∧ M 3 4 ≤ 7) (hw : 0 ≤ w ∧ w < 1073741824) : AC0 G d m_X1_allDown [.ref 3, I w] M N (CV (PU (Bz (∀ q, q < (M 3 4).toNat → g8 w q = 0)) M N)) := by
  refine AC.of (L0 := [_, _, none]) pn_X1 (Nat.le_of_ble_eq_true rfl) rfl ?_
  refine st_iconst dX1_allDown_0 ?_
  refine st_istore_n (L' := [_, _, _]) dX1_allDown_1 (by decide) rfl rfl ?_
  have loop : ∀ (q k : Nat), k + q = (M 3 4).toNat → (∀ j, j < k → g8 w j = 0) → AW0 G d m_X1_allDown 2 [some (.ref 3), some (I w), some (I k)] [] M N (CV (PU (Bz (∀ q, q < (M 3 4).toNat → g8 w q = 0)) M N)) := by
    intro q
    induction q with
    | zero =>
      intro k hk hno
      refine st_iload_n dX1_allDown_2 rfl ?_
      refine st_aload_n dX1_allDown_3 rfl ?_
      refine st_getfi dX1_allDown_4 f_X1_62 (by first | assumption | rfl) (by rfl) ?_
      refine st_icmp_ge (tgt := 26) dX1_allDown_7 (by omega) (by omega) rfl (fun h => ?_) (fun h => ?_)
      · refine st_iconst dX1_allDown_26 ?_
        exact r_z dX1_allDown_27 rfl (by first | omega | (split <;> decide)) ⟨bz1 (fun j hj => hno j (by omega)), rfl, rfl⟩
      · skip
        omega
    | succ q ih =>
      intro k hk hno
      have h1 := g8_lt w k
      refine st_iload_n dX1_allDown_2 rfl ?_
      refine st_aload_n dX1_allDown_3 rfl ?_
      refine st_getfi dX1_allDown_4 f_X1_62 (by first | assumption | rfl) (by rfl) ?_
      refine st_icmp_ge (tgt := 26) dX1_allDown_7 (by omega) (by omega) rfl (fun h => ?_) (fun h => ?_)
      · skip
        omega
      · refine st_iload_n dX1_allDown_10 rfl ?_
        refine st_iload_n dX1_allDown_11 rfl ?_
        refine c_S2p (d' := d - 1) dX1_allDown_12 l_X1_65 k_X10_storeyIn s_X10_storeyIn (by omega) (Nat.le_of_ble_eq_true rfl) (C_storeyIn (by omega) (by omega)) ?_
        refine st_if_eq (tgt := 20) dX1_allDown_15 (by omega) rfl (fun h7 => ?_) (fun h7 => ?_)
        · refine st_iinc (L' := [_, _, _]) dX1_allDown_20 rfl (by decide) rfl rfl ?_
          refine st_goto (tgt := 2) dX1_allDown_23 rfl ?_
          refine AW.to (ih (k + 1) (by omega) (fun j hj => ?_)) (h2 := by simp)
          by_cases q1 : j = k
          · rw [q1]; exact h7
          · exact hno j (by omega)
        · refine st_iconst dX1_allDown_18 ?_
          exact r_z dX1_allDown_19 rfl (by first | omega | (split <;> decide)) ⟨bz0 (fun z => h7 (z k (by omega))), rfl, rfl⟩
  exact loop (M 3 4).toNat 0 (by omega) (fun j hj => by omega)
theorem C_isAmong {G : q_G} {d : Nat} {M : q_Mem} {N : q_MemL} {o : Int} {n p : Nat} (hd : 1 ≤ d) (hn : n ≤ 7) (hp : p < 8) (ho : 0 ≤ o ∧ o < 1073741824) : AC0 G d m_X1_isAmong [I o, I n, I p] M N (CV (PU (Bz (∃ k, k < n ∧ g8 o k = p)) M N)) := by
  refine AC.of (L0 := [_, _, _, none]) pn_X1 (Nat.le_of_ble_eq_true rfl) rfl ?_
  refine st_iconst dX1_isAmong_0 ?_
  refine st_istore_n (L' := [_, _, _, _]) dX1_isAmong_1 (by decide) rfl rfl ?_
  have loop : ∀ (q k : Nat), k + q = n → (∀ j, j < k → ¬ g8 o j = p) → AW0 G d m_X1_isAmong 2 [some (I o), some (I n), some (I p), some (I k)] [] M N (CV (PU (Bz (∃ k, k < n ∧ g8 o k = p)) M N)) := by
    intro q
    induction q with
    | zero =>
      intro k hk hno
      refine st_iload_n dX1_isAmong_2 rfl ?_
      refine st_iload_n dX1_isAmong_3 rfl ?_
      refine st_icmp_ge (tgt := 24) dX1_isAmong_4 (by omega) (by omega) rfl (fun h => ?_) (fun h => ?_)
      · refine st_iconst dX1_isAmong_24 ?_
        exact r_z dX1_isAmong_25 rfl (by first | omega | (split <;> decide)) ⟨bz0 (fun ⟨j, hj, z⟩ => hno j (by omega) z), rfl, rfl⟩
      · skip
        omega
    | succ q ih =>
      intro k hk hno
      have h1 := g8_lt o k
      refine st_iload_n dX1_isAmong_2 rfl ?_
      refine st_iload_n dX1_isAmong_3 rfl ?_
      refine st_icmp_ge (tgt := 24) dX1_isAmong_4 (by omega) (by omega) rfl (fun h => ?_) (fun h => ?_)
      · skip
        omega
      · refine st_iload_n dX1_isAmong_7 rfl ?_
        refine st_iload_n dX1_isAmong_8 rfl ?_
        refine c_S2p (d' := d - 1) dX1_isAmong_9 l_X1_65 k_X10_storeyIn s_X10_storeyIn (by omega) (Nat.le_of_ble_eq_true rfl) (C_storeyIn (by omega) (by omega)) ?_
        refine st_iload_n dX1_isAmong_12 rfl ?_
        refine st_icmp_ne (tgt := 18) dX1_isAmong_13 (by omega) (by omega) rfl (fun h7 => ?_) (fun h7 => ?_)
        · refine st_iinc (L' := [_, _, _, _]) dX1_isAmong_18 rfl (by decide) rfl rfl ?_
          refine st_goto (tgt := 2) dX1_isAmong_21 rfl ?_
          refine AW.to (ih (k + 1) (by omega) (fun j hj => ?_)) (h2 := by simp)
          by_cases q1 : j = k
          · rw [q1]; exact h7
          · exact hno j (by omega)
        · refine st_iconst dX1_isAmong_16 ?_
          exact r_z dX1_isAmong_17 rfl (by first | omega | (split <;> decide)) ⟨bz1 ⟨k, by omega, h7⟩, rfl, rfl⟩
  exact loop n 0 (by omega) (fun j hj => by omega)


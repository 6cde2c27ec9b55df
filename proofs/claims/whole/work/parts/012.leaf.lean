/-! the system's own small methods -/
theorem bz1 {c : Prop} [hd : Decidable c] (h : c) : I 1 = Bz c := by unfold Bz; rw [if_pos h]
theorem bz0 {c : Prop} [hd : Decidable c] (h : ¬ c) : I 0 = Bz c := by unfold Bz; rw [if_neg h]
theorem C_cell {G : q_G} {d : Nat} {M : q_Mem} {N : q_MemL} {r n : Nat} {vs : List Value} {i z : Int} (hr : S0[r]? = some (20, n, vs)) (hn : n < 100000) (hi : -2147483648 ≤ i ∧ i < 2147483648) (hz : z = if 0 ≤ i ∧ i < n then M r i.toNat else 0) : AC0 G d m_X10_cell [.ref r, I i] M N (CV (PU (I z) M N)) := by
  subst hz
  refine AC.of (L0 := [_, _]) pn_X10 (Nat.le_of_ble_eq_true rfl) rfl ?_
  refine st_iload_n dX10_cell_0 rfl ?_
  refine st_if_lt (tgt := 16) dX10_cell_1 (by omega) rfl (fun h => ?_) (fun h => ?_)
  · refine st_iconst dX10_cell_16 ?_
    rw [if_neg (by omega)]
    exact r_i dX10_cell_17 rfl ⟨rfl, rfl, rfl⟩
  · refine st_iload_n dX10_cell_4 rfl ?_
    refine st_aload_n dX10_cell_5 rfl ?_
    refine st_alen dX10_cell_6 (by first | assumption | rfl) (by decide) ?_
    refine st_icmp_ge (tgt := 16) dX10_cell_7 (by omega) (by omega) rfl (fun h2 => ?_) (fun h2 => ?_)
    · refine st_iconst dX10_cell_16 ?_
      rw [if_neg (by omega)]
      exact r_i dX10_cell_17 rfl ⟨rfl, rfl, rfl⟩
    · refine st_aload_n dX10_cell_10 rfl ?_
      refine st_iload_n dX10_cell_11 rfl ?_
      refine st_iald dX10_cell_12 (by first | assumption | rfl) (by omega) (by omega) (hn := by first | decide | omega) ?_
      refine st_goto (tgt := 17) dX10_cell_13 rfl ?_
      rw [if_pos (by omega)]
      exact r_i dX10_cell_17 rfl ⟨rfl, rfl, rfl⟩
theorem C_put {G : q_G} {d : Nat} {M : q_Mem} {N : q_MemL} {r n : Nat} {vs : List Value} {i v : Int} (hr : S0[r]? = some (20, n, vs)) (hn : n < 100000) (hi : -2147483648 ≤ i ∧ i < 2147483648) : AC0 G d m_X10_put [.ref r, I i, I v] M N (CN (fun M' N' => N' = N ∧ M' = if 0 ≤ i ∧ i < n then q_up M r i.toNat v else M)) := by
  refine AC.of (L0 := [_, _, _]) pn_X10 (Nat.le_of_ble_eq_true rfl) rfl ?_
  refine st_iload_n dX10_put_0 rfl ?_
  refine st_if_lt (tgt := 14) dX10_put_1 (by omega) rfl (fun h => ?_) (fun h => ?_)
  · skip
    rw [if_neg (by omega)]
    exact r_v dX10_put_14 rfl ⟨rfl, rfl⟩
  · refine st_iload_n dX10_put_4 rfl ?_
    refine st_aload_n dX10_put_5 rfl ?_
    refine st_alen dX10_put_6 (by first | assumption | rfl) (by decide) ?_
    refine st_icmp_ge (tgt := 14) dX10_put_7 (by omega) (by omega) rfl (fun h2 => ?_) (fun h2 => ?_)
    · skip
      rw [if_neg (by omega)]
      exact r_v dX10_put_14 rfl ⟨rfl, rfl⟩
    · refine st_aload_n dX10_put_10 rfl ?_
      refine st_iload_n dX10_put_11 rfl ?_
      refine st_iload_n dX10_put_12 rfl ?_
      refine st_iast dX10_put_13 (by first | assumption | rfl) (by omega) (by omega) (hn := by first | decide | omega) ?_
      rw [if_pos (by omega)]
      exact r_v dX10_put_14 rfl ⟨rfl, rfl⟩
theorem C_has {G : q_G} {d : Nat} {M : q_Mem} {N : q_MemL} {s : Int} {k : Nat} (hs : 0 ≤ s ∧ s < 2147483648) (hk : k < 32) : AC0 G d m_X10_has [I s, I k] M N (CV (PU (Bz (s.toNat.testBit k = true)) M N)) := by
  have e : ((zi s).toUInt32 >>> ((zi (k : Int)).toUInt32 &&& Int32.toUInt32 31)).toInt32 &&& zi 1 = zi (if s.toNat.testBit k = true then 1 else 0) := by
    rw [z_toN hs.1, zi_ushr _ _ (by omega) hk, show (1 : Int) = ((1 : Nat) : Int) from rfl, zi_and, Int.toNat_natCast, Nat.and_one_is_mod, Nat.testBit_eq_decide_div_mod_eq]
    congr 1
    by_cases h : s.toNat / 2 ^ k % 2 = 1
    · simp [h]
    · have h2 : s.toNat / 2 ^ k % 2 = 0 := by omega
      simp [h2]
  refine AC.of (L0 := [_, _]) pn_X10 (Nat.le_of_ble_eq_true rfl) rfl ?_
  refine st_iload_n dX10_has_0 rfl ?_
  refine st_iload_n dX10_has_1 rfl ?_
  refine st_iushr dX10_has_2 ?_
  refine st_iconst dX10_has_3 ?_
  refine st_iand dX10_has_4 ?_
  refine AW.top e ?_
  refine st_iconst dX10_has_5 ?_
  refine st_icmp_ne (tgt := 13) dX10_has_6 (by split <;> omega) (by omega) rfl (fun h => ?_) (fun h => ?_)
  · refine st_iconst dX10_has_13 ?_
    exact r_z dX10_has_14 rfl (by first | omega | (split <;> decide)) ⟨bz0 (fun q => h (by rw [if_pos q])), rfl, rfl⟩
  · refine st_iconst dX10_has_9 ?_
    refine st_goto (tgt := 14) dX10_has_10 rfl ?_
    exact r_z dX10_has_14 rfl (by first | omega | (split <;> decide)) ⟨bz1 (by by_cases q : s.toNat.testBit k = true; exact q; rw [if_neg q] at h; cases h), rfl, rfl⟩
theorem C_isVoice {G : q_G} {d : Nat} {M : q_Mem} {N : q_MemL} {v : Int} (hv : -2147483648 ≤ v ∧ v < 2147483648) : AC0 G d m_X10_isVoice [I v] M N (CV (PU (Bz (0 ≤ v ∧ v ≤ 30)) M N)) := by
  refine AC.of (L0 := [_]) pn_X10 (Nat.le_of_ble_eq_true rfl) rfl ?_
  refine st_iload_n dX10_isVoice_0 rfl ?_
  refine st_if_lt (tgt := 14) dX10_isVoice_1 (by omega) rfl (fun h => ?_) (fun h => ?_)
  · refine st_iconst dX10_isVoice_14 ?_
    exact r_z dX10_isVoice_15 rfl (by first | omega | (split <;> decide)) ⟨bz0 (by omega), rfl, rfl⟩
  · refine st_iload_n dX10_isVoice_4 rfl ?_
    refine st_bipush dX10_isVoice_5 (by decide) ?_
    refine st_icmp_gt (tgt := 14) dX10_isVoice_7 (by omega) (by omega) rfl (fun h2 => ?_) (fun h2 => ?_)
    · refine st_iconst dX10_isVoice_14 ?_
      exact r_z dX10_isVoice_15 rfl (by first | omega | (split <;> decide)) ⟨bz0 (by omega), rfl, rfl⟩
    · refine st_iconst dX10_isVoice_10 ?_
      refine st_goto (tgt := 15) dX10_isVoice_11 rfl ?_
      exact r_z dX10_isVoice_15 rfl (by first | omega | (split <;> decide)) ⟨bz1 (by omega), rfl, rfl⟩
theorem C_storeyIn {G : q_G} {d : Nat} {M : q_Mem} {N : q_MemL} {s : Int} {k : Nat} (hs : 0 ≤ s ∧ s < 2147483648) (hk : k < 10) : AC0 G d m_X10_storeyIn [I s, I k] M N (CV (PU (I (g8 s k)) M N)) := by
  refine AC.of (L0 := [_, _]) pn_X10 (Nat.le_of_ble_eq_true rfl) rfl ?_
  refine st_iload_n dX10_storeyIn_0 rfl ?_
  refine st_iconst dX10_storeyIn_1 ?_
  refine st_iload_n dX10_storeyIn_2 rfl ?_
  refine st_imul dX10_storeyIn_3 ?_
  refine st_iushr dX10_storeyIn_4 ?_
  refine st_bipush dX10_storeyIn_5 (by decide) ?_
  refine st_iand dX10_storeyIn_7 ?_
  refine AW.top (z_st hs hk) ?_
  exact r_i dX10_storeyIn_8 rfl ⟨rfl, rfl, rfl⟩
theorem C_roomIn {G : q_G} {d : Nat} {M : q_Mem} {N : q_MemL} {s : Int} {k : Nat} (hs : 0 ≤ s ∧ s < 2147483648) (hk : k < 10) : AC0 G d m_X10_roomIn [I s, I k] M N (CV (PU (I (g4 s k)) M N)) := by
  refine AC.of (L0 := [_, _]) pn_X10 (Nat.le_of_ble_eq_true rfl) rfl ?_
  refine st_iload_n dX10_roomIn_0 rfl ?_
  refine st_iconst dX10_roomIn_1 ?_
  refine st_iload_n dX10_roomIn_2 rfl ?_
  refine st_imul dX10_roomIn_3 ?_
  refine st_iushr dX10_roomIn_4 ?_
  refine st_iconst dX10_roomIn_5 ?_
  refine st_iand dX10_roomIn_6 ?_
  refine AW.top (z_rm hs hk) ?_
  exact r_i dX10_roomIn_7 rfl ⟨rfl, rfl, rfl⟩
theorem C_withStorey {G : q_G} {d : Nat} {M : q_Mem} {N : q_MemL} {s v : Int} {k : Nat} (hs : 0 ≤ s) (hv : 0 ≤ v ∧ v < 8) (hk : k < 10) : AC0 G d m_X10_withStorey [I s, I k, I v] M N (CV (PU (I (w8 s k v)) M N)) := by
  refine AC.of (L0 := [_, _, _]) pn_X10 (Nat.le_of_ble_eq_true rfl) rfl ?_
  refine st_iload_n dX10_withStorey_0 rfl ?_
  refine st_bipush dX10_withStorey_1 (by decide) ?_
  refine st_iconst dX10_withStorey_3 ?_
  refine st_iload_n dX10_withStorey_4 rfl ?_
  refine st_imul dX10_withStorey_5 ?_
  refine st_ishl dX10_withStorey_6 ?_
  refine st_iconst dX10_withStorey_7 ?_
  refine st_ixor dX10_withStorey_8 ?_
  refine st_iand dX10_withStorey_9 ?_
  refine st_iload_n dX10_withStorey_10 rfl ?_
  refine st_bipush dX10_withStorey_11 (by decide) ?_
  refine st_iand dX10_withStorey_13 ?_
  refine st_iconst dX10_withStorey_14 ?_
  refine st_iload_n dX10_withStorey_15 rfl ?_
  refine st_imul dX10_withStorey_16 ?_
  refine st_ishl dX10_withStorey_17 ?_
  refine st_ior dX10_withStorey_18 ?_
  refine AW.top (z_wst hs hv hk) ?_
  exact r_i dX10_withStorey_19 rfl ⟨rfl, rfl, rfl⟩
theorem C_withRoom {G : q_G} {d : Nat} {M : q_Mem} {N : q_MemL} {s v : Int} {k : Nat} (hs : 0 ≤ s) (hv : 0 ≤ v ∧ v < 4) (hk : k < 10) : AC0 G d m_X10_withRoom [I s, I k, I v] M N (CV (PU (I (w4 s k v)) M N)) := by
  refine AC.of (L0 := [_, _, _]) pn_X10 (Nat.le_of_ble_eq_true rfl) rfl ?_
  refine st_iload_n dX10_withRoom_0 rfl ?_
  refine st_iconst dX10_withRoom_1 ?_
  refine st_iconst dX10_withRoom_2 ?_
  refine st_iload_n dX10_withRoom_3 rfl ?_
  refine st_imul dX10_withRoom_4 ?_
  refine st_ishl dX10_withRoom_5 ?_
  refine st_iconst dX10_withRoom_6 ?_
  refine st_ixor dX10_withRoom_7 ?_
  refine st_iand dX10_withRoom_8 ?_
  refine st_iload_n dX10_withRoom_9 rfl ?_
  refine st_iconst dX10_withRoom_10 ?_
  refine st_iand dX10_withRoom_11 ?_
  refine st_iconst dX10_withRoom_12 ?_
  refine st_iload_n dX10_withRoom_13 rfl ?_
  refine st_imul dX10_withRoom_14 ?_
  refine st_ishl dX10_withRoom_15 ?_
  refine st_ior dX10_withRoom_16 ?_
  refine AW.top (z_wrm hs hv hk) ?_
  exact r_i dX10_withRoom_17 rfl ⟨rfl, rfl, rfl⟩
/-! the JDK's small methods -/
theorem C_fill {G : q_G} {d : Nat} {M : q_Mem} {N : q_MemL} {r n : Nat} {vs : List Value} {v : Int} (hr : S0[r]? = some (20, n, vs)) (hn : n < 100000) : AC0 G d m_J7_fill_53178 [.ref r, I v] M N (CN (fun M' N' => N' = N ∧ M' = fun a j => if a = r ∧ j < n then v else M a j)) := by
  refine AC.of (L0 := [_, _, none, none]) pn_J7 (Nat.le_of_ble_eq_true rfl) rfl ?_
  refine st_iconst dJ7_fill_53178_0 ?_
  refine st_istore_n (L' := [_, _, _, _]) dJ7_fill_53178_1 (by decide) rfl rfl ?_
  refine st_aload_n dJ7_fill_53178_2 rfl ?_
  refine st_alen dJ7_fill_53178_3 (by first | assumption | rfl) (by decide) ?_
  refine st_istore_n (L' := [_, _, _, _]) dJ7_fill_53178_4 (by decide) rfl rfl ?_
  have loop : ∀ (q k : Nat) (M1 : q_Mem), k + q = n → (M1 = fun a j => if a = r ∧ j < k then v else M a j) → AW0 G d m_J7_fill_53178 5 [some (.ref r), some (I v), some (I k), some (I n)] [] M1 N (CN (fun M' N' => N' = N ∧ M' = fun a j => if a = r ∧ j < n then v else M a j)) := by
    intro q
    induction q with
    | zero =>
      intro k M1 hk hM
      refine st_iload_n dJ7_fill_53178_5 rfl ?_
      refine st_iload_n dJ7_fill_53178_6 rfl ?_
      refine st_icmp_ge (tgt := 20) dJ7_fill_53178_7 (by omega) (by omega) rfl (fun h => ?_) (fun h => ?_)
      · skip
        exact r_v dJ7_fill_53178_20 rfl ⟨rfl, by rw [hM, show k = n by omega]⟩
      · skip
        omega
    | succ q ih =>
      intro k M1 hk hM
      refine st_iload_n dJ7_fill_53178_5 rfl ?_
      refine st_iload_n dJ7_fill_53178_6 rfl ?_
      refine st_icmp_ge (tgt := 20) dJ7_fill_53178_7 (by omega) (by omega) rfl (fun h => ?_) (fun h => ?_)
      · skip
        omega
      · refine st_aload_n dJ7_fill_53178_10 rfl ?_
        refine st_iload_n dJ7_fill_53178_11 rfl ?_
        refine st_iload_n dJ7_fill_53178_12 rfl ?_
        refine st_iast dJ7_fill_53178_13 (by first | assumption | rfl) (by omega) (by omega) (hn := by first | decide | omega) ?_
        refine st_iinc (L' := [_, _, _, _]) dJ7_fill_53178_14 rfl (by decide) rfl rfl ?_
        refine st_goto (tgt := 5) dJ7_fill_53178_17 rfl ?_
        refine AW.to (ih (k + 1) (q_up M1 r (k : Int).toNat v) (by omega) ?_) (h2 := by simp)
        rw [hM]
        funext a j
        simp only [q_up, Int.toNat_natCast]
        by_cases ha : a = r
        · by_cases hj : j = k
          · simp [ha, hj]
          · simp only [ha, hj, and_false, if_false, true_and]
            congr 1
            apply propext
            omega
        · simp [ha]
  exact loop n 0 M (by omega) (by funext a j; simp)


/-! strings: a letter -/
theorem C_chk3 {G : q_G} {d : Nat} {M : q_Mem} {N : q_MemL} {j l : Int} {v : Value} (hj : 0 ≤ j ∧ j < l) (hl : l < 2147483648) (hv : v = .null ∨ v = .ref 1998) : AC0 G d m_J3_checkIndex_8e157 [I j, I l, v] M N (CV (PU (I j) M N)) := by
  rcases hv with rfl | rfl
  · refine AC.of (L0 := [_, _, _]) pn_J3 (Nat.le_of_ble_eq_true rfl) rfl ?_
    refine st_iload_n dJ3_checkIndex_8e157_0 rfl ?_
    refine st_if_lt (tgt := 9) dJ3_checkIndex_8e157_1 (by omega) rfl (fun h => ?_) (fun h => ?_)
    · skip
      omega
    · refine st_iload_n dJ3_checkIndex_8e157_4 rfl ?_
      refine st_iload_n dJ3_checkIndex_8e157_5 rfl ?_
      refine st_icmp_lt (tgt := 16) dJ3_checkIndex_8e157_6 (by omega) (by omega) rfl (fun h2 => ?_) (fun h2 => ?_)
      · refine st_iload_n dJ3_checkIndex_8e157_16 rfl ?_
        exact r_i dJ3_checkIndex_8e157_17 rfl ⟨rfl, rfl, rfl⟩
      · skip
        omega
  · refine AC.of (L0 := [_, _, _]) pn_J3 (Nat.le_of_ble_eq_true rfl) rfl ?_
    refine st_iload_n dJ3_checkIndex_8e157_0 rfl ?_
    refine st_if_lt (tgt := 9) dJ3_checkIndex_8e157_1 (by omega) rfl (fun h => ?_) (fun h => ?_)
    · skip
      omega
    · refine st_iload_n dJ3_checkIndex_8e157_4 rfl ?_
      refine st_iload_n dJ3_checkIndex_8e157_5 rfl ?_
      refine st_icmp_lt (tgt := 16) dJ3_checkIndex_8e157_6 (by omega) (by omega) rfl (fun h2 => ?_) (fun h2 => ?_)
      · refine st_iload_n dJ3_checkIndex_8e157_16 rfl ?_
        exact r_i dJ3_checkIndex_8e157_17 rfl ⟨rfl, rfl, rfl⟩
      · skip
        omega
theorem C_chk {G : q_G} {d : Nat} {M : q_Mem} {N : q_MemL} {j l : Int} (hd : 1 ≤ d) (hj : 0 ≤ j ∧ j < l) (hl : l < 2147483648) : AC0 G d m_J0_checkIndex_df160 [I j, I l] M N (CN (fun M' N' => M' = M ∧ N' = N)) := by
  refine AC.of (L0 := [_, _]) pn_J0 (Nat.le_of_ble_eq_true rfl) rfl ?_
  refine st_iload_n dJ0_checkIndex_df160_0 rfl ?_
  refine st_iload_n dJ0_checkIndex_df160_1 rfl ?_
  refine st_sioobe dJ0_checkIndex_df160_2 f_J0_1053 (fun v hv => ?_)
  refine c_S3p (d' := d - 1) dJ0_checkIndex_df160_5 l_J0_1059 k_J3_checkIndex_8e157 s_J3_checkIndex_8e157 (by omega) (Nat.le_of_ble_eq_true rfl) (C_chk3 hj hl hv) ?_
  refine st_pop dJ0_checkIndex_df160_8 rfl ?_
  refine r_v dJ0_checkIndex_df160_9 rfl ⟨rfl, rfl⟩
theorem getD_at {α : Type} (l : List α) (d : α) {i : Nat} (h : i < l.length) : l.getD i d = l[i] := by
  rw [List.getD_eq_getElem?_getD, List.getElem?_eq_getElem h]
  rfl
/-- a letter of a string -/
def chrS (i j : Nat) : Int := ((q_byt.getD i []).getD j 0).toInt
theorem chr_b : q_byt.all (fun l => l.all (fun b => decide ((((b &&& zi 255).toUInt32 % 65536).toInt32) = b) && decide ((b.toUInt32 % 65536).toInt32 = b) && decide (narrow .char (.int b) = .int b))) = true := by decide +kernel
theorem chr_c {i j : Nat} (hi : i < q_nS) (hj : j < q_len.getD i 0) : ((((q_byt.getD i []).getD j 0 &&& zi 255).toUInt32 % 65536).toInt32 = (q_byt.getD i []).getD j 0) ∧ (((q_byt.getD i []).getD j 0).toUInt32 % 65536).toInt32 = (q_byt.getD i []).getD j 0 ∧ narrow .char (.int ((q_byt.getD i []).getD j 0)) = .int ((q_byt.getD i []).getD j 0) := by
  have hl : ∀ i, i < 28 → q_len.getD i 0 = (q_byt.getD i []).length := by decide +kernel
  have hi28 : i < 28 := hi
  have h28 : q_byt.length = 28 := by decide +kernel
  rw [hl i hi28] at hj
  have hm : q_byt.getD i [] ∈ q_byt := by
    rw [getD_at _ _ (by omega)]
    exact List.getElem_mem _
  have h1 := List.all_eq_true.1 chr_b _ hm
  have hm2 : (q_byt.getD i []).getD j 0 ∈ q_byt.getD i [] := by
    rw [getD_at _ _ hj]
    exact List.getElem_mem _
  have h2 := List.all_eq_true.1 h1 _ hm2
  simp only [Bool.and_eq_true, decide_eq_true_eq] at h2
  exact ⟨h2.1.1, h2.1.2, h2.2⟩
theorem C_charAt1 {G : q_G} {d : Nat} {M : q_Mem} {N : q_MemL} {i j : Nat} (hd : 2 ≤ d) (hi : i < q_nS) (hj : j < q_len.getD i 0) : AC0 G d m_J1_charAt_3b067 [.ref (1000 + (2 * i + 1)), I j] M N (CV (PU (I (chrS i j)) M N)) := by
  have hl : q_len.getD i 0 < 2147483648 := by
    have : ∀ i, i < 28 → q_len.getD i 0 < 2147483648 := by decide +kernel
    exact this i hi
  have hc := chr_c hi hj
  refine AC.of (L0 := [_, _]) pn_J1 (Nat.le_of_ble_eq_true rfl) rfl ?_
  refine st_iload_n dJ1_charAt_3b067_0 rfl ?_
  refine st_aload_n dJ1_charAt_3b067_1 rfl ?_
  refine st_str_alen dJ1_charAt_3b067_2 hi ?_
  refine c_S2v (d' := d - 1) dJ1_charAt_3b067_3 l_J1_9 k_J0_checkIndex_df160 s_J0_checkIndex_df160 (by omega) (Nat.le_of_ble_eq_true rfl) (C_chk (by omega) (by omega) (by omega)) (fun M1 N1 hx => ?_)
  obtain ⟨rfl, rfl⟩ := hx
  refine st_aload_n dJ1_charAt_3b067_6 rfl ?_
  refine st_iload_n dJ1_charAt_3b067_7 rfl ?_
  refine st_str_bald dJ1_charAt_3b067_8 hi (by omega) (by omega) hl ?_
  rw [Int.toNat_natCast]
  refine st_sipush dJ1_charAt_3b067_9 (by decide) ?_
  refine st_iand dJ1_charAt_3b067_12 ?_
  refine st_i2c dJ1_charAt_3b067_13 ?_
  rw [hc.1]
  refine st_ireturnR dJ1_charAt_3b067_14 rfl hc.2.2 ⟨rfl, _, rfl, ?_, rfl, rfl⟩
  show Value.int _ = Value.int (Int32.ofInt _)
  unfold chrS
  rw [Int32.ofInt_toInt]
theorem C_charAt {G : q_G} {d : Nat} {M : q_Mem} {N : q_MemL} {i j : Nat} (hd : 3 ≤ d) (hi : i < q_nS) (hj : j < q_len.getD i 0) : AC0 G d m_J0_charAt_5068e [.ref (1000 + 2 * i), I j] M N (CV (PU (I (chrS i j)) M N)) := by
  have hc := chr_c hi hj
  refine AC.of (L0 := [_, _]) pn_J0 (Nat.le_of_ble_eq_true rfl) rfl ?_
  refine st_aload_n dJ0_charAt_5068e_0 rfl ?_
  refine c_V0p (d' := d - 1) dJ0_charAt_5068e_1 l_J0_492 k_J0_isLatin1_aae02 i_J0_isLatin1_aae02 (Or.inr ⟨i, hi, rfl, rfl⟩) (by omega) (Nat.le_of_ble_eq_true rfl) (C_isLatin1 hi) ?_
  refine st_if_eq (tgt := 16) dJ0_charAt_5068e_4 (by omega) rfl (fun h => ?_) (fun h => ?_)
  · skip
    omega
  · refine st_aload_n dJ0_charAt_5068e_7 rfl ?_
    refine st_str_value dJ0_charAt_5068e_8 hi f_J0_9 ?_
    refine st_iload_n dJ0_charAt_5068e_11 rfl ?_
    refine c_S2p (d' := d - 1) dJ0_charAt_5068e_12 l_J0_495 k_J1_charAt_3b067 s_J1_charAt_3b067 (by omega) (Nat.le_of_ble_eq_true rfl) (C_charAt1 (by omega) hi hj) ?_
    refine st_ireturn dJ0_charAt_5068e_15 rfl ?_ ⟨rfl, _, rfl, rfl, rfl, rfl⟩
    rw [show I (chrS i j) = Value.int ((q_byt.getD i []).getD j 0) by show Value.int (Int32.ofInt _) = _; unfold chrS; rw [Int32.ofInt_toInt]]
    exact hc.2.2


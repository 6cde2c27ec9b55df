/-! strings: a letter -/
theorem C_chk3 {G : q_G} {d : Nat} {M : q_Mem} {N : q_MemL} {j l : Int} {v : Value} (hj : 0 ≤ j ∧ j < l) (hl : l < 2147483648) (hv : v = .null ∨ v = .ref 1998) : AC0 G d m_J3_checkIndex_8e157 [I j, I l, v] M N (CV (PU (I j) M N)) := by
  rcases hv with rfl | rfl
  · refine AC.of (L0 := [_, _, _]) pn_J3 (Nat.le_of_ble_eq_true rfl) rfl ?_
    refine st_iload_n dJ3_checkIndex_8e157_0 rfl ?_
    refine st_if_lt (tgt := 9) dJ3_checkIndex_8e157_1 (by omega) rfl (fun h => ?_) (fun h => ?_)
    · skip
      omega
    · refine st_iload_n dJ3_checkIndex_8e157_4 rfl ?_
      refine st_iload_n dJ3_checkIndex_8e157_5 rfl ?_
      refine st_icmp_lt (tgt := 16) dJ3_checkIndex_8e157_6 (by omega) (by omega) rfl (fun h2 => ?_) (fun h2 => ?_)
      · refine st_iload_n dJ3_checkIndex_8e157_16 rfl ?_
        exact r_i dJ3_checkIndex_8e157_17 rfl ⟨rfl, rfl, rfl⟩
      · skip
        omega
  · refine AC.of (L0 := [_, _, _]) pn_J3 (Nat.le_of_ble_eq_true rfl) rfl ?_
    refine st_iload_n dJ3_checkIndex_8e157_0 rfl ?_
    refine st_if_lt (tgt := 9) dJ3_checkIndex_8e157_1 (by omega) rfl (fun h => ?_) (fun h => ?_)
    · skip
      omega
    · refine st_iload_n dJ3_checkIndex_8e157_4 rfl ?_
      refine st_iload_n dJ3_checkIndex_8e157_5 rfl ?_
      refine st_icmp_lt (tgt := 16) dJ3_checkIndex_8e157_6 (by omega) (by omega) rfl (fun h2 => ?_) (fun h2 => ?_)
      · refine st_iload_n dJ3_checkIndex_8e157_16 rfl ?_
        exact r_i dJ3_checkIndex_8e157_17 rfl ⟨rfl, rfl, rfl⟩
      · skip
        omega
theorem C_chk {G : q_G} {d : Nat} {M : q_Mem} {N : q_MemL} {j l : Int} (hd : 1 ≤ d) (hj : 0 ≤ j ∧ j < l) (hl : l < 2147483648) : AC0 G d m_J0_checkIndex_df160 [I j, I l] M N (CN (fun M' N' => M' = M ∧ N' = N)) := by
  refine AC.of (L0 := [_, _]) pn_J0 (Nat.le_of_ble_eq_true rfl) rfl ?_
  refine st_iload_n dJ0_checkIndex_df160_0 rfl ?_
  refine st_iload_n dJ0_checkIndex_df160_1 rfl ?_
  refine st_sioobe dJ0_checkIndex_df160_2 f_J0_1053 (fun v hv => ?_)
  refine c_S3p (d' := d - 1) dJ0_checkIndex_df160_5 l_J0_1059 k_J3_checkIndex_8e157 s_J3_checkIndex_8e157 (by omega) (Nat.le_of_ble_eq_true rfl) (C_chk3 hj hl hv) ?_
  refine st_pop dJ0_checkIndex_df160_8 rfl ?_
  refine r_v dJ0_checkIndex_df160_9 rfl ⟨rfl, rfl⟩
/-- a letter of a string -/
def chrS (i j : Nat) : Int := ((q_byt.getD i []).getD j 0).toInt
theorem chr_b : q_byt.all (fun l => l.all (fun b => decide ((((b &&& zi 255).toUInt32 % 65536).toInt32) = b) && decide ((b.toUInt32 % 65536).toInt32 = b) && decide (narrow .char (.int b) = .int b))) = true := by decide +kernel


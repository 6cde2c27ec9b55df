/-! strings: a letter -/
theorem C_chk3 {G : q_G} {d : Nat} {M : q_Mem} {N : q_MemL} {j l : Int} {v : Value} (hj : 0 ≤ j ∧ j < l) (hl : l < 2147483648) (hv : v = .null) : AC0 G d m_J3_checkIndex_8e157 [I j, I l, v] M N (CV (PU (I j) M N)) := by
  subst hv
  refine AC.of (L0 := [_, _, _]) pn_J3 (Nat.le_of_ble_eq_true rfl) rfl ?_
  refine st_iload_n dJ3_checkIndex_8e157_0 rfl ?_
  refine st_if_lt (tgt := 9) dJ3_checkIndex_8e157_1 (by omega) rfl (fun h => ?_) (fun h => ?_)
  · skip
    omega
  · refine st_iload_n dJ3_checkIndex_8e157_4 rfl ?_
    refine st_iload_n dJ3_checkIndex_8e157_5 rfl ?_
    refine st_icmp_lt (tgt := 16) dJ3_checkIndex_8e157_6 (by omega) (by omega) rfl (fun h2 => ?_) (fun h2 => ?_)
    · refine st_iload_n dJ3_checkIndex_8e157_16 rfl ?_
      exact r_i dJ3_checkIndex_8e157_17 rfl ⟨rfl, rfl, rfl⟩
    · skip
      omega


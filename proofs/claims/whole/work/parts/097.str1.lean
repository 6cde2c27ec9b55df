/-! strings: length -/
theorem C_coder {G : q_G} {d : Nat} {M : q_Mem} {N : q_MemL} {i : Nat} (hi : i < q_nS) : AC0 G d m_J0_coder_7d493 [.ref (1000 + 2 * i)] M N (CV (PU (I 0) M N)) := by
  refine AC.of (L0 := [_]) pn_J0 (Nat.le_of_ble_eq_true rfl) rfl ?_
  refine st_compact dJ0_coder_7d493_0 f_J0_38 ?_
  refine st_if_eq (tgt := 13) dJ0_coder_7d493_3 (by omega) rfl (fun h => ?_) (fun h => ?_)
  · skip
    omega
  · refine st_aload_n dJ0_coder_7d493_6 rfl ?_
    refine st_str_coder dJ0_coder_7d493_7 hi f_J0_15 ?_
    refine st_goto (tgt := 14) dJ0_coder_7d493_10 rfl ?_
    exact st_ireturn dJ0_coder_7d493_14 rfl rfl ⟨rfl, _, rfl, rfl, rfl, rfl⟩
theorem C_isLatin1 {G : q_G} {d : Nat} {M : q_Mem} {N : q_MemL} {i : Nat} (hi : i < q_nS) : AC0 G d m_J0_isLatin1_aae02 [.ref (1000 + 2 * i)] M N (CV (PU (I 1) M N)) := by
  refine AC.of (L0 := [_]) pn_J0 (Nat.le_of_ble_eq_true rfl) rfl ?_
  refine st_compact dJ0_isLatin1_aae02_0 f_J0_38 ?_
  refine st_if_eq (tgt := 17) dJ0_isLatin1_aae02_3 (by omega) rfl (fun h => ?_) (fun h => ?_)
  · skip
    omega
  · refine st_aload_n dJ0_isLatin1_aae02_6 rfl ?_
    refine st_str_coder dJ0_isLatin1_aae02_7 hi f_J0_15 ?_
    refine st_if_ne (tgt := 17) dJ0_isLatin1_aae02_10 (by omega) rfl (fun h2 => ?_) (fun h2 => ?_)
    · skip
      omega
    · refine st_iconst dJ0_isLatin1_aae02_13 ?_
      refine st_goto (tgt := 18) dJ0_isLatin1_aae02_14 rfl ?_
      exact st_ireturn dJ0_isLatin1_aae02_18 rfl rfl ⟨rfl, _, rfl, rfl, rfl, rfl⟩


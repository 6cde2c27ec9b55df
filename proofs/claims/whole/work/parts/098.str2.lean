/-! strings: length, continued -/
theorem z_shr0 (z : Int32) : z >>> (zi 0 &&& 31) = z := by
  rw [show zi 0 &&& 31 = 0 from by decide]
  simp
theorem C_strlen {G : q_G} {d : Nat} {M : q_Mem} {N : q_MemL} {i : Nat} (hd : 1 ≤ d) (hi : i < q_nS) : AC0 G d m_J0_length_8abf5 [.ref (1000 + 2 * i)] M N (CV (PU (I ((q_len.getD i 0 : Nat) : Int)) M N)) := by
  refine AC.of (L0 := [_]) pn_J0 (Nat.le_of_ble_eq_true rfl) rfl ?_
  refine st_aload_n dJ0_length_8abf5_0 rfl ?_
  refine st_str_value dJ0_length_8abf5_1 hi f_J0_9 ?_
  refine st_str_alen dJ0_length_8abf5_4 hi ?_
  refine st_aload_n dJ0_length_8abf5_5 rfl ?_
  refine c_V0p (d' := d - 1) dJ0_length_8abf5_6 l_J0_335 k_J0_coder_7d493 i_J0_coder_7d493 (Or.inr ⟨i, hi, rfl, rfl⟩) (by omega) (Nat.le_of_ble_eq_true rfl) (C_coder hi) ?_
  refine st_ishr dJ0_length_8abf5_9 ?_
  rw [z_shr0]
  exact r_i dJ0_length_8abf5_10 rfl ⟨rfl, rfl, rfl⟩


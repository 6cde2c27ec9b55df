/-! how many bits; the question to meet -/
theorem z_us {a k : Nat} {z : Int} (hz : z = (k : Int)) (ha : a < 4294967296) (hk : k < 32) : ((zi a).toUInt32 >>> ((zi z).toUInt32 &&& Int32.toUInt32 31)).toInt32 = zi ((a / 2 ^ k : Nat) : Int) := by
  subst hz
  exact zi_ushr a k ha hk
theorem z_an {a b : Nat} {z : Int} (hz : z = (b : Int)) : zi a &&& zi z = zi ((a &&& b : Nat) : Int) := by
  subst hz
  exact zi_and a b
def bc1 (s : Nat) : Nat := s - (s / 2 ^ 1 &&& 1431655765)
def bc2 (s : Nat) : Nat := (bc1 s &&& 858993459) + (bc1 s / 2 ^ 2 &&& 858993459)
def bc3 (s : Nat) : Nat := bc2 s + bc2 s / 2 ^ 4 &&& 252645135
def bc4 (s : Nat) : Nat := bc3 s + bc3 s / 2 ^ 8
def bc5 (s : Nat) : Nat := bc4 s + bc4 s / 2 ^ 16
theorem bc_rng : ∀ s, s < 128 → (s / 2 ^ 1 &&& 1431655765) ≤ s ∧ bc1 s < 1000 ∧ bc2 s < 1000 ∧ bc3 s < 1000 ∧ bc4 s < 1000 ∧ bc5 s < 1000 := by decide +kernel
theorem bc_gL : ∀ s : Nat, s < 128 → ∀ n, n < 8 → s < 2 ^ n → bc5 s &&& 63 = (gL (s : Int) n).length := by decide +kernel
theorem gL_pos : ∀ s : Nat, s < 128 → ∀ n, n < 8 → s < 2 ^ n → 0 < s → 1 ≤ (gL (s : Int) n).length := by decide +kernel
theorem C_bitCount {G : q_G} {d : Nat} {M : q_Mem} {N : q_MemL} {s : Nat} (hs : s < 128) : AC0 G d m_J6_bitCount_0f7a4 [I s] M N (CV (PU (I ((bc5 s &&& 63 : Nat) : Int)) M N)) := by
  obtain ⟨h1, h2, h3, h4, h5, h6⟩ := bc_rng s hs
  refine AC.of (L0 := [_]) pn_J6 (Nat.le_of_ble_eq_true rfl) rfl ?_
  refine st_iload_n dJ6_bitCount_0f7a4_0 rfl ?_
  refine st_iload_n dJ6_bitCount_0f7a4_1 rfl ?_
  refine st_iconst dJ6_bitCount_0f7a4_2 ?_
  refine st_iushr dJ6_bitCount_0f7a4_3 ?_
  refine AW.top (z_us (k := 1) rfl (by omega) (by omega)) ?_
  refine st_ldcw dJ6_bitCount_0f7a4_4 l_J6_265 ?_
  refine st_iand dJ6_bitCount_0f7a4_7 ?_
  refine AW.top (z_an (b := 1431655765) rfl) ?_
  refine st_isub dJ6_bitCount_0f7a4_8 ?_
  refine st_istore_n (L' := [_]) dJ6_bitCount_0f7a4_9 (by decide) rfl rfl ?_
  rw [show (s : Int) - ((s / 2 ^ 1 &&& 1431655765 : Nat) : Int) = ((bc1 s : Nat) : Int) by unfold bc1; omega]
  refine st_iload_n dJ6_bitCount_0f7a4_10 rfl ?_
  refine st_ldcw dJ6_bitCount_0f7a4_11 l_J6_266 ?_
  refine st_iand dJ6_bitCount_0f7a4_14 ?_
  refine AW.top (z_an (b := 858993459) rfl) ?_
  refine st_iload_n dJ6_bitCount_0f7a4_15 rfl ?_
  refine st_iconst dJ6_bitCount_0f7a4_16 ?_
  refine st_iushr dJ6_bitCount_0f7a4_17 ?_
  refine AW.top (z_us (k := 2) rfl (by omega) (by omega)) ?_
  refine st_ldcw dJ6_bitCount_0f7a4_18 l_J6_266 ?_
  refine st_iand dJ6_bitCount_0f7a4_21 ?_
  refine AW.top (z_an (b := 858993459) rfl) ?_
  refine st_iadd dJ6_bitCount_0f7a4_22 ?_
  refine st_istore_n (L' := [_]) dJ6_bitCount_0f7a4_23 (by decide) rfl rfl ?_
  rw [show ((bc1 s &&& 858993459 : Nat) : Int) + ((bc1 s / 2 ^ 2 &&& 858993459 : Nat) : Int) = ((bc2 s : Nat) : Int) by unfold bc2; omega]
  refine st_iload_n dJ6_bitCount_0f7a4_24 rfl ?_
  refine st_iload_n dJ6_bitCount_0f7a4_25 rfl ?_
  refine st_iconst dJ6_bitCount_0f7a4_26 ?_
  refine st_iushr dJ6_bitCount_0f7a4_27 ?_
  refine AW.top (z_us (k := 4) rfl (by omega) (by omega)) ?_
  refine st_iadd dJ6_bitCount_0f7a4_28 ?_
  refine st_ldcw dJ6_bitCount_0f7a4_29 l_J6_267 ?_
  rw [show ((bc2 s : Nat) : Int) + ((bc2 s / 2 ^ 4 : Nat) : Int) = ((bc2 s + bc2 s / 2 ^ 4 : Nat) : Int) by omega]
  refine st_iand dJ6_bitCount_0f7a4_32 ?_
  refine AW.top (z_an (b := 252645135) rfl) ?_
  rw [show ((bc2 s + bc2 s / 2 ^ 4 &&& 252645135 : Nat) : Int) = ((bc3 s : Nat) : Int) from rfl]
  refine st_istore_n (L' := [_]) dJ6_bitCount_0f7a4_33 (by decide) rfl rfl ?_
  refine st_iload_n dJ6_bitCount_0f7a4_34 rfl ?_
  refine st_iload_n dJ6_bitCount_0f7a4_35 rfl ?_
  refine st_bipush dJ6_bitCount_0f7a4_36 (by decide) ?_
  refine st_iushr dJ6_bitCount_0f7a4_38 ?_
  refine AW.top (z_us (k := 8) rfl (by omega) (by omega)) ?_
  refine st_iadd dJ6_bitCount_0f7a4_39 ?_
  refine st_istore_n (L' := [_]) dJ6_bitCount_0f7a4_40 (by decide) rfl rfl ?_
  rw [show ((bc3 s : Nat) : Int) + ((bc3 s / 2 ^ 8 : Nat) : Int) = ((bc4 s : Nat) : Int) by unfold bc4; omega]
  refine st_iload_n dJ6_bitCount_0f7a4_41 rfl ?_
  refine st_iload_n dJ6_bitCount_0f7a4_42 rfl ?_
  refine st_bipush dJ6_bitCount_0f7a4_43 (by decide) ?_
  refine st_iushr dJ6_bitCount_0f7a4_45 ?_
  refine AW.top (z_us (k := 16) rfl (by omega) (by omega)) ?_
  refine st_iadd dJ6_bitCount_0f7a4_46 ?_
  refine st_istore_n (L' := [_]) dJ6_bitCount_0f7a4_47 (by decide) rfl rfl ?_
  rw [show ((bc4 s : Nat) : Int) + ((bc4 s / 2 ^ 16 : Nat) : Int) = ((bc5 s : Nat) : Int) by unfold bc5; omega]
  refine st_iload_n dJ6_bitCount_0f7a4_48 rfl ?_
  refine st_bipush dJ6_bitCount_0f7a4_49 (by decide) ?_
  refine st_iand dJ6_bitCount_0f7a4_51 ?_
  refine AW.top (z_an (b := 63) rfl) ?_
  exact r_i dJ6_bitCount_0f7a4_52 rfl ⟨rfl, rfl, rfl⟩
def meetOk (M : q_Mem) (s st what : Int) : Prop := (0 < s ∧ s < pw (M 3 4).toNat) ∧ (gL s (M 3 4).toNat).length ≤ 3 ∧ (st = -1 ∨ (0 ≤ st ∧ st < M 3 3)) ∧ 0 ≤ what ∧ what ≤ 4
def MeetA (M : q_Mem) (N : q_MemL) (s st what : Int) : Value → q_Mem → q_MemL → Prop := fun x M' N' => N' = N ∧ Exc [104, 105] M M' ∧ ∃ r, x = I r ∧ ((¬ meetOk M s st what ∧ r = -3) ∨ (meetOk M s st what ∧ MeetR M (gL s (M 3 4).toNat).length ((gL s (M 3 4).toNat).getD 0 0) ((gL s (M 3 4).toNat).getD 1 0) ((gL s (M 3 4).toNat).getD 2 0) st what r))
theorem C_meet {G : q_G} {d : Nat} {M : q_Mem} {N : q_MemL} {s st what : Int} (hd : 6 ≤ d) (hM : NowOk M) (hs : i32 s) (hst : i32 st) (hw : i32 what) : AC0 G d m_X10_meet [.ref 0, I s, I st, I what] M N (CV (MeetA M N s st what)) := by
  have hr := Hok.rg hM
  have hH : isHome 3 := Or.inl rfl
  obtain ⟨h0, h1, h2, h3, h4, h5, h6, h11, h12, -⟩ := id hM
  have hpr : 0 ≤ pw (M 3 4).toNat ∧ pw (M 3 4).toNat ≤ 128 := by
    have h : 2 ^ (M 3 4).toNat ≤ 2 ^ 7 := Nat.pow_le_pow_right (by omega) (by omega)
    exact ⟨Int.natCast_nonneg _, Int.ofNat_le.2 h⟩
  have hss := hs
  have hstt := hst
  unfold i32 at hss hstt hw
  refine AC.of (L0 := [_, _, _, _]) pn_X10 (Nat.le_of_ble_eq_true rfl) rfl ?_
  refine st_iload_n dX10_meet_0 rfl ?_
  have no : ∀ {pc : Nat}, pc = 25 ∨ pc = 53 → ¬ meetOk M s st what → AW0 G d m_X10_meet pc [some (.ref 0), some (I s), some (I st), some (I what)] [] M N (CV (MeetA M N s st what)) := by
    intro pc hpc hno
    rcases hpc with rfl | rfl
    · refine st_bipush dX10_meet_25 (by decide) ?_
      exact r_i dX10_meet_27 rfl ⟨rfl, Exc.rf, -3, rfl, Or.inl ⟨hno, rfl⟩⟩
    · refine st_bipush dX10_meet_53 (by decide) ?_
      exact r_i dX10_meet_55 rfl ⟨rfl, Exc.rf, -3, rfl, Or.inl ⟨hno, rfl⟩⟩
  refine st_if_le (tgt := 25) dX10_meet_1 (by omega) rfl (fun h7 => ?_) (fun h7 => ?_)
  · skip
    exact no (Or.inl rfl) (fun z => by have := z.1.1; omega)
  · refine st_iload_n dX10_meet_4 rfl ?_
    refine st_iconst dX10_meet_5 ?_
    refine st_aload_n dX10_meet_6 rfl ?_
    refine st_getfr dX10_meet_7 f_X10_19 (by first | assumption | rfl) (by rfl) ?_
    refine st_getfi dX10_meet_10 f_X10_114 (by first | assumption | rfl) (by rfl) ?_
    rw [show M 3 4 = (((M 3 4).toNat : Nat) : Int) by omega]
    refine st_ishl dX10_meet_13 ?_
    refine AW.top (z_pw (by omega)) ?_
    refine st_icmp_ge (tgt := 25) dX10_meet_14 (by omega) (by omega) rfl (fun h8 => ?_) (fun h8 => ?_)
    · skip
      exact no (Or.inl rfl) (fun z => by have := z.1.2; omega)
    · refine st_iload_n dX10_meet_17 rfl ?_
      have hsn : s.toNat < 2 ^ (M 3 4).toNat := by
        have h : s < ((2 ^ (M 3 4).toNat : Nat) : Int) := by show s < pw _; omega
        omega
      have hse : s = ((s.toNat : Nat) : Int) := by omega
      have hg := bc_gL s.toNat (by omega) (M 3 4).toNat (by omega) hsn
      have hgp := gL_pos s.toNat (by omega) (M 3 4).toNat (by omega) hsn (by omega)
      have hgl := (gL_lt s (M 3 4).toNat).1
      rw [← hse] at hg hgp
      rw [hse]
      refine c_S1p (d' := d - 1) dX10_meet_18 l_X10_252 k_J6_bitCount_0f7a4 s_J6_bitCount_0f7a4 (by omega) (Nat.le_of_ble_eq_true rfl) (C_bitCount (by omega)) ?_
      rw [hg, ← hse]
      refine st_iconst dX10_meet_21 ?_
      refine st_icmp_le (tgt := 28) dX10_meet_22 (by omega) (by omega) rfl (fun h9 => ?_) (fun h9 => ?_)
      · refine st_iload_n dX10_meet_28 rfl ?_
        refine st_iconst dX10_meet_29 ?_
        have okS : (st = -1 ∨ (0 ≤ st ∧ st < M 3 3)) → AW0 G d m_X10_meet 44 [some (.ref 0), some (I s), some (I st), some (I what)] [] M N (CV (MeetA M N s st what)) := by
          intro hso
          refine st_iload_n dX10_meet_44 rfl ?_
          refine st_if_lt (tgt := 53) dX10_meet_45 (by omega) rfl (fun h10 => ?_) (fun h10 => ?_)
          · skip
            exact no (Or.inr rfl) (fun z => by have := z.2.2.2; omega)
          · refine st_iload_n dX10_meet_48 rfl ?_
            refine st_iconst dX10_meet_49 ?_
            refine st_icmp_le (tgt := 56) dX10_meet_50 (by omega) (by omega) rfl (fun h11' => ?_) (fun h11' => ?_)
            · refine st_aload_n dX10_meet_56 rfl ?_
              refine st_getfr dX10_meet_57 f_X10_81 (by first | assumption | rfl) (by rfl) ?_
              refine st_iload_n dX10_meet_60 rfl ?_
              refine st_iload_n dX10_meet_61 rfl ?_
              refine st_iload_n dX10_meet_62 rfl ?_
              refine c_V3i (d' := d - 1) dX10_meet_63 l_X10_257 k_X4_meeting i_X4_meeting (Or.inl ⟨_, _, _, _, _, (by first | assumption | rfl), by rfl⟩) (by omega) (Nat.le_of_ble_eq_true rfl) (C_meeting (by omega) hr (by omega) h12 (by omega) (by omega) (by omega) ⟨hgp, by omega⟩) (fun x M1 N1 hx => ?_)
              obtain ⟨hN, hE, r, rfl, hR⟩ := hx
              exact r_i dX10_meet_66 rfl ⟨hN, hE, r, rfl, Or.inr ⟨⟨⟨by omega, by omega⟩, by omega, hso, by omega⟩, hR⟩⟩
            · skip
              exact no (Or.inr rfl) (fun z => by have := z.2.2.2; omega)
        refine st_icmp_eq (tgt := 44) dX10_meet_30 (by omega) (by omega) rfl (fun h10 => ?_) (fun h10 => ?_)
        · skip
          exact okS (Or.inl h10)
        · refine st_aload_n dX10_meet_33 rfl ?_
          refine st_getfr dX10_meet_34 f_X10_19 (by first | assumption | rfl) (by rfl) ?_
          refine st_iload_n dX10_meet_37 rfl ?_
          refine c_V1p (d' := d - 1) dX10_meet_38 l_X10_199 k_X2_hasStorey i_X2_hasStorey (Or.inl ⟨_, _, _, _, _, (by first | assumption | rfl), by rfl⟩) (by omega) (Nat.le_of_ble_eq_true rfl) (C_hasStorey hH (by omega) hst) ?_
          refine b_eq (tgt := 53) dX10_meet_41 rfl (fun h11' => ?_) (fun h11' => ?_)
          · skip
            exact no (Or.inr rfl) (fun z => by have := z.2.2.1; omega)
          · skip
            exact okS (Or.inr h11')
      · skip
        exact no (Or.inl rfl) (fun z => by have := z.2.1; omega)


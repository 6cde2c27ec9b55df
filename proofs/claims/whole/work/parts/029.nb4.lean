/-! the system's Neighbours: meeting -/
def gL (s : Int) : Nat → List Nat
  | 0 => []
  | n + 1 => if s.toNat.testBit n = true then gL s n ++ [n] else gL s n
theorem gL_lt (s : Int) : ∀ (n : Nat), (gL s n).length ≤ n ∧ ∀ j, j < (gL s n).length → (gL s n).getD j 0 < n
  | 0 => ⟨Nat.le_refl _, fun j h => absurd h (by simp [gL])⟩
  | n + 1 => by
    obtain ⟨h1, h2⟩ := gL_lt s n
    unfold gL
    split
    · refine ⟨by simp; omega, fun j hj => ?_⟩
      rw [List.length_append, List.length_singleton] at hj
      by_cases e : j < (gL s n).length
      · rw [List.getD_eq_getElem?_getD, List.getElem?_append_left e, ← List.getD_eq_getElem?_getD]
        have := h2 j e
        omega
      · rw [List.getD_eq_getElem?_getD, List.getElem?_append_right (by omega), show j - (gL s n).length = 0 by omega]
        simp
    · exact ⟨by omega, fun j hj => by have := h2 j hj; omega⟩
theorem C_gather {G : q_G} {d : Nat} {M : q_Mem} {N : q_MemL} {s : Int} (hd : 1 ≤ d) (h4 : 0 ≤ M 3 4 ∧ M 3 4 ≤ 7) (hs : 0 ≤ s ∧ s < 2147483648) : AC0 G d m_X4_gather [.ref 103, I s] M N (CV (fun x M' N' => x = I ((gL s (M 3 4).toNat).length : Nat) ∧ N' = N ∧ Exc [105] M M' ∧ ∀ j, j < 3 → j < (gL s (M 3 4).toNat).length → M' 105 j = ((gL s (M 3 4).toNat).getD j 0 : Nat))) := by
  refine AC.of (L0 := [_, _, none, none]) pn_X4 (Nat.le_of_ble_eq_true rfl) rfl ?_
  refine st_iconst dX4_gather_0 ?_
  refine st_istore_n (L' := [_, _, _, _]) dX4_gather_1 (by decide) rfl rfl ?_
  refine st_iconst dX4_gather_2 ?_
  refine st_istore_n (L' := [_, _, _, _]) dX4_gather_3 (by decide) rfl rfl ?_
  have loop : ∀ (q k : Nat) (M1 : q_Mem), k + q = (M 3 4).toNat → Exc [105] M M1 → (∀ j, j < 3 → j < (gL s k).length → M1 105 j = ((gL s k).getD j 0 : Nat)) → AW0 G d m_X4_gather 4 [some (.ref 103), some (I s), some (I ((gL s k).length : Nat)), some (I k)] [] M1 N (CV (fun x M' N' => x = I ((gL s (M 3 4).toNat).length : Nat) ∧ N' = N ∧ Exc [105] M M' ∧ ∀ j, j < 3 → j < (gL s (M 3 4).toNat).length → M' 105 j = ((gL s (M 3 4).toNat).getD j 0 : Nat))) := by
    intro q
    induction q with
    | zero =>
      intro k M1 hk hE hm
      have hkk : k = (M 3 4).toNat := by omega
      have e3 := hE 3 (by decide)
      refine st_iload_n dX4_gather_4 rfl ?_
      refine st_aload_n dX4_gather_5 rfl ?_
      refine st_getfr dX4_gather_6 f_X4_18 (by first | assumption | rfl) (by rfl) ?_
      refine st_getfi dX4_gather_9 f_X4_56 (by first | assumption | rfl) (by rfl) ?_
      rw [e3]
      refine st_icmp_ge (tgt := 41) dX4_gather_12 (by omega) (by omega) rfl (fun h => ?_) (fun h => ?_)
      · refine st_iload_n dX4_gather_41 rfl ?_
        exact r_i dX4_gather_42 rfl ⟨by rw [hkk], rfl, hE, by rw [← hkk]; exact hm⟩
      · skip
        omega
    | succ q ih =>
      intro k M1 hk hE hm
      have e3 := hE 3 (by decide)
      have hl := gL_lt s k
      refine st_iload_n dX4_gather_4 rfl ?_
      refine st_aload_n dX4_gather_5 rfl ?_
      refine st_getfr dX4_gather_6 f_X4_18 (by first | assumption | rfl) (by rfl) ?_
      refine st_getfi dX4_gather_9 f_X4_56 (by first | assumption | rfl) (by rfl) ?_
      rw [e3]
      refine st_icmp_ge (tgt := 41) dX4_gather_12 (by omega) (by omega) rfl (fun h => ?_) (fun h => ?_)
      · skip
        omega
      · refine st_iload_n dX4_gather_15 rfl ?_
        refine st_iload_n dX4_gather_16 rfl ?_
        refine c_S2p (d' := d - 1) dX4_gather_17 l_X4_59 k_X10_has s_X10_has (by omega) (Nat.le_of_ble_eq_true rfl) (C_has hs (by omega)) ?_
        refine b_eq (tgt := 35) dX4_gather_20 rfl (fun h3 => ?_) (fun h3 => ?_)
        · refine st_iinc (L' := [_, _, _, _]) dX4_gather_35 rfl (by decide) rfl rfl ?_
          refine st_goto (tgt := 4) dX4_gather_38 rfl ?_
          have e : gL s (k + 1) = gL s k := if_neg h3
          exact AW.to (ih (k + 1) M1 (by omega) hE (by rw [e]; exact hm)) (h2 := by rw [e]; simp)
        · refine st_aload_n dX4_gather_23 rfl ?_
          refine st_getfr dX4_gather_24 f_X4_15 (by first | assumption | rfl) (by rfl) ?_
          refine st_iload_n dX4_gather_27 rfl ?_
          refine st_iload_n dX4_gather_28 rfl ?_
          have e : gL s (k + 1) = gL s k ++ [k] := if_pos h3
          refine c_S3v (d' := d - 1) dX4_gather_29 l_X4_63 k_X10_put s_X10_put (by omega) (Nat.le_of_ble_eq_true rfl) (C_put sh_105 (by omega) (by omega)) (fun M2 N2 hx2 => ?_)
          obtain ⟨hN2, hM2⟩ := hx2
          rw [hN2]
          have hE2 : Exc [105] M M2 := by
            rw [hM2]
            split
            · exact hE.tr (Exc.up (by decide))
            · exact hE
          refine st_iinc (L' := [_, _, _, _]) dX4_gather_32 rfl (by decide) rfl rfl ?_
          refine st_iinc (L' := [_, _, _, _]) dX4_gather_35 rfl (by decide) rfl rfl ?_
          refine st_goto (tgt := 4) dX4_gather_38 rfl ?_
          refine AW.to (ih (k + 1) M2 (by omega) hE2 (fun j h1 h2 => ?_)) (h2 := by rw [e]; simp)
          rw [e, List.length_append, List.length_singleton] at h2
          rw [e, hM2]
          by_cases e5 : j < (gL s k).length
          · rw [List.getD_eq_getElem?_getD, List.getElem?_append_left e5, ← List.getD_eq_getElem?_getD, ← hm j h1 e5]
            split
            · simp only [q_up]
              rw [if_neg (by omega)]
            · rfl
          · have e6 : j = (gL s k).length := by omega
            rw [List.getD_eq_getElem?_getD, List.getElem?_append_right (by omega), show j - (gL s k).length = 0 by omega, if_pos (by omega)]
            simp [q_up, e6]
  exact loop (M 3 4).toNat 0 M (by omega) Exc.rf (fun j h1 h2 => absurd h2 (by simp [gL]))
def vs3 (n l0 l1 l2 : Nat) (a b c : Int) (v : Nat → Int) : Nat → Int := fun q => if 2 < n ∧ q = l2 then c else if 1 < n ∧ q = l1 then b else if q = l0 then a else v q
theorem C_setVoices {G : q_G} {d : Nat} {M : q_Mem} {N : q_MemL} {n l0 l1 l2 : Nat} {a b c : Int} (hd : 1 ≤ d) (hn : n ≤ 3) (h0 : M 105 0 = l0 ∧ l0 < 7) (h1 : 1 < n → M 105 1 = l1 ∧ l1 < 7) (h2 : 2 < n → M 105 2 = l2 ∧ l2 < 7) : AC0 G d m_X4_setVoices [.ref 103, I n, I a, I b, I c] M N (CN (fun M' N' => N' = N ∧ Exc [104] M M' ∧ M' 104 = vs3 n l0 l1 l2 a b c (M 104))) := by
  refine AC.of (L0 := [_, _, _, _, _]) pn_X4 (Nat.le_of_ble_eq_true rfl) rfl ?_
  refine st_aload_n dX4_setVoices_0 rfl ?_
  refine st_getfr dX4_setVoices_1 f_X4_9 (by first | assumption | rfl) (by rfl) ?_
  refine st_aload_n dX4_setVoices_4 rfl ?_
  refine st_getfr dX4_setVoices_5 f_X4_15 (by first | assumption | rfl) (by rfl) ?_
  refine st_iconst dX4_setVoices_8 ?_
  refine c_S2p (d' := d - 1) dX4_setVoices_9 l_X4_67 k_X10_cell s_X10_cell (by omega) (Nat.le_of_ble_eq_true rfl) (C_cellI sh_105 (by decide) (by omega)) ?_
  rw [show M 105 (Int.toNat 0) = (l0 : Int) from h0.1]
  refine st_iload_n dX4_setVoices_12 rfl ?_
  refine c_S3v (d' := d - 1) dX4_setVoices_13 l_X4_63 k_X10_put s_X10_put (by omega) (Nat.le_of_ble_eq_true rfl) (C_putI sh_104 (by decide) (by omega)) (fun M1 N1 hx => ?_)
  obtain ⟨hM1, rfl⟩ := hx
  have hE1 : Exc [104] M M1 := hM1 ▸ Exc.up (by decide)
  have e1 := hE1 105 (by decide)
  have hv1 : M1 104 = fun q => if q = l0 then a else M 104 q := by
    rw [hM1]; funext q; simp [q_up]
  refine st_iload_n dX4_setVoices_16 rfl ?_
  refine st_iconst dX4_setVoices_17 ?_
  refine st_icmp_le (tgt := 37) dX4_setVoices_18 (by omega) (by omega) rfl (fun h7 => ?_) (fun h7 => ?_)
  · skip
    have hn1 : ¬ 1 < n := by omega
    have hn2 : ¬ 2 < n := by omega
    refine st_iload_n dX4_setVoices_37 rfl ?_
    refine st_iconst dX4_setVoices_38 ?_
    refine st_icmp_le (tgt := 59) dX4_setVoices_39 (by omega) (by omega) rfl (fun h8 => ?_) (fun h8 => ?_)
    · skip
      exact r_v dX4_setVoices_59 rfl ⟨rfl, hE1, by rw [hv1]; unfold vs3; funext q; simp [hn1, hn2]⟩
    · skip
      omega
  · refine st_aload_n dX4_setVoices_21 rfl ?_
    refine st_getfr dX4_setVoices_22 f_X4_9 (by first | assumption | rfl) (by rfl) ?_
    refine st_aload_n dX4_setVoices_25 rfl ?_
    refine st_getfr dX4_setVoices_26 f_X4_15 (by first | assumption | rfl) (by rfl) ?_
    refine st_iconst dX4_setVoices_29 ?_
    refine c_S2p (d' := d - 1) dX4_setVoices_30 l_X4_67 k_X10_cell s_X10_cell (by omega) (Nat.le_of_ble_eq_true rfl) (C_cellI sh_105 (by decide) (by omega)) ?_
    rw [e1, show M 105 (Int.toNat 1) = (l1 : Int) from (h1 (by omega)).1]
    have hl1 := (h1 (by omega)).2
    have hn1 : 1 < n := by omega
    refine st_iload_n dX4_setVoices_33 rfl ?_
    refine c_S3v (d' := d - 1) dX4_setVoices_34 l_X4_63 k_X10_put s_X10_put (by omega) (Nat.le_of_ble_eq_true rfl) (C_putI sh_104 (by decide) (by omega)) (fun M2 N2 hx => ?_)
    obtain ⟨hM2, rfl⟩ := hx
    have hE2 : Exc [104] M M2 := hM2 ▸ hE1.tr (Exc.up (by decide))
    have e2 := hE2 105 (by decide)
    have hv2 : M2 104 = fun q => if q = l1 then b else if q = l0 then a else M 104 q := by
      rw [hM2]; funext q; simp [q_up, hv1]
    refine st_iload_n dX4_setVoices_37 rfl ?_
    refine st_iconst dX4_setVoices_38 ?_
    refine st_icmp_le (tgt := 59) dX4_setVoices_39 (by omega) (by omega) rfl (fun h8 => ?_) (fun h8 => ?_)
    · skip
      have hn2 : ¬ 2 < n := by omega
      exact r_v dX4_setVoices_59 rfl ⟨rfl, hE2, by rw [hv2]; unfold vs3; funext q; simp [hn1, hn2]⟩
    · refine st_aload_n dX4_setVoices_42 rfl ?_
      refine st_getfr dX4_setVoices_43 f_X4_9 (by first | assumption | rfl) (by rfl) ?_
      refine st_aload_n dX4_setVoices_46 rfl ?_
      refine st_getfr dX4_setVoices_47 f_X4_15 (by first | assumption | rfl) (by rfl) ?_
      refine st_iconst dX4_setVoices_50 ?_
      have hn2 : 2 < n := by omega
      refine c_S2p (d' := d - 1) dX4_setVoices_51 l_X4_67 k_X10_cell s_X10_cell (by omega) (Nat.le_of_ble_eq_true rfl) (C_cellI sh_105 (by decide) (by omega)) ?_
      rw [e2, show M 105 (Int.toNat 2) = (l2 : Int) from (h2 (by omega)).1]
      have hl2 := (h2 (by omega)).2
      refine st_iload dX4_setVoices_54 rfl ?_
      refine c_S3v (d' := d - 1) dX4_setVoices_56 l_X4_63 k_X10_put s_X10_put (by omega) (Nat.le_of_ble_eq_true rfl) (C_putI sh_104 (by decide) (by omega)) (fun M3 N3 hx => ?_)
      obtain ⟨hM3, rfl⟩ := hx
      have hE3 : Exc [104] M M3 := hM3 ▸ hE2.tr (Exc.up (by decide))
      exact r_v dX4_setVoices_59 rfl ⟨rfl, hE3, by rw [hM3]; unfold vs3; funext q; simp [hn1, hn2, q_up, hv2]⟩
/-- the members by their place -/
def lof (l0 l1 l2 : Nat) (j : Nat) : Nat := if j = 0 then l0 else if j = 1 then l1 else l2
/-- where all of them meet, or -1 -/
def mpl (M : q_Mem) (n l0 l1 l2 : Nat) (v : Nat → Int) : Int := if 1 < n ∧ ¬ hrd M v l1 = hrd M v l0 then -1 else if 2 < n ∧ ¬ hrd M v l2 = hrd M v l0 then -1 else hrd M v l0
theorem C_meetingPlace {G : q_G} {d : Nat} {M : q_Mem} {N : q_MemL} {n l0 l1 l2 : Nat} (hd : 3 ≤ d) (hM : Hrg M 3) (h12 : 0 ≤ M 3 12 ∧ M 3 12 < 1073741824) (hv : Sok M 104 (M 3 4).toNat) (hn : 1 ≤ n ∧ n ≤ 3) (h0 : M 105 0 = l0 ∧ l0 < (M 3 4).toNat) (h1 : 1 < n → M 105 1 = l1 ∧ l1 < (M 3 4).toNat) (h2 : 2 < n → M 105 2 = l2 ∧ l2 < (M 3 4).toNat) : AC0 G d m_X4_meetingPlace [.ref 103, I n] M N (CV (PU (I (mpl M n l0 l1 l2 (M 104))) M N)) := by
  have r0 := hrd_rng hM.2.1 (M 104) l0
  have r1 := hrd_rng hM.2.1 (M 104) l1
  have r2 := hrd_rng hM.2.1 (M 104) l2
  refine AC.of (L0 := [_, _, none, none]) pn_X4 (Nat.le_of_ble_eq_true rfl) rfl ?_
  refine st_aload_n dX4_meetingPlace_0 rfl ?_
  refine st_aload_n dX4_meetingPlace_1 rfl ?_
  refine st_getfr dX4_meetingPlace_2 f_X4_15 (by first | assumption | rfl) (by rfl) ?_
  refine st_iconst dX4_meetingPlace_5 ?_
  refine c_S2p (d' := d - 1) dX4_meetingPlace_6 l_X4_67 k_X10_cell s_X10_cell (by omega) (Nat.le_of_ble_eq_true rfl) (C_cellI sh_105 (by decide) (by omega)) ?_
  rw [show M 105 (Int.toNat 0) = (l0 : Int) from h0.1]
  refine c_V1p (d' := d - 1) dX4_meetingPlace_9 l_X4_84 k_X4_storeyHeard i_X4_storeyHeard (Or.inl ⟨_, _, _, _, _, (by first | assumption | rfl), by rfl⟩) (by omega) (Nat.le_of_ble_eq_true rfl) (C_storeyHeard (by omega) hM h12 h0.2 hv) ?_
  refine st_istore_n (L' := [_, _, _, _]) dX4_meetingPlace_12 (by decide) rfl rfl ?_
  refine st_iconst dX4_meetingPlace_13 ?_
  refine st_istore_n (L' := [_, _, _, _]) dX4_meetingPlace_14 (by decide) rfl rfl ?_
  refine st_iload_n dX4_meetingPlace_15 rfl ?_
  refine st_iload_n dX4_meetingPlace_16 rfl ?_
  refine st_icmp_ge (tgt := 44) dX4_meetingPlace_17 (by omega) (by omega) rfl (fun h7 => ?_) (fun h7 => ?_)
  · refine st_iload_n dX4_meetingPlace_44 rfl ?_
    exact r_i dX4_meetingPlace_45 rfl ⟨by rw [mpl, if_neg (by omega), if_neg (by omega)], rfl, rfl⟩
  · refine st_aload_n dX4_meetingPlace_20 rfl ?_
    refine st_aload_n dX4_meetingPlace_21 rfl ?_
    refine st_getfr dX4_meetingPlace_22 f_X4_15 (by first | assumption | rfl) (by rfl) ?_
    refine st_iload_n dX4_meetingPlace_25 rfl ?_
    refine c_S2p (d' := d - 1) dX4_meetingPlace_26 l_X4_67 k_X10_cell s_X10_cell (by omega) (Nat.le_of_ble_eq_true rfl) (C_cellI sh_105 (by decide) (by omega)) ?_
    rw [show M 105 (Int.toNat 1) = (l1 : Int) from (h1 (by omega)).1]
    refine c_V1p (d' := d - 1) dX4_meetingPlace_29 l_X4_84 k_X4_storeyHeard i_X4_storeyHeard (Or.inl ⟨_, _, _, _, _, (by first | assumption | rfl), by rfl⟩) (by omega) (Nat.le_of_ble_eq_true rfl) (C_storeyHeard (by omega) hM h12 (h1 (by omega)).2 hv) ?_
    refine st_iload_n dX4_meetingPlace_32 rfl ?_
    refine st_icmp_eq (tgt := 38) dX4_meetingPlace_33 (by omega) (by omega) rfl (fun h8 => ?_) (fun h8 => ?_)
    · refine st_iinc (L' := [_, _, _, _]) dX4_meetingPlace_38 rfl (by decide) rfl rfl ?_
      refine st_goto (tgt := 15) dX4_meetingPlace_41 rfl ?_
      refine st_iload_n dX4_meetingPlace_15 rfl ?_
      refine st_iload_n dX4_meetingPlace_16 rfl ?_
      refine st_icmp_ge (tgt := 44) dX4_meetingPlace_17 (by omega) (by omega) rfl (fun h9 => ?_) (fun h9 => ?_)
      · refine st_iload_n dX4_meetingPlace_44 rfl ?_
        exact r_i dX4_meetingPlace_45 rfl ⟨by rw [mpl, if_neg (by omega), if_neg (by omega)], rfl, rfl⟩
      · refine st_aload_n dX4_meetingPlace_20 rfl ?_
        refine st_aload_n dX4_meetingPlace_21 rfl ?_
        refine st_getfr dX4_meetingPlace_22 f_X4_15 (by first | assumption | rfl) (by rfl) ?_
        refine st_iload_n dX4_meetingPlace_25 rfl ?_
        refine c_S2p (d' := d - 1) dX4_meetingPlace_26 l_X4_67 k_X10_cell s_X10_cell (by omega) (Nat.le_of_ble_eq_true rfl) (C_cellI sh_105 (by decide) (by omega)) ?_
        rw [show M 105 (Int.toNat (1 + 1)) = (l2 : Int) from (h2 (by omega)).1]
        refine c_V1p (d' := d - 1) dX4_meetingPlace_29 l_X4_84 k_X4_storeyHeard i_X4_storeyHeard (Or.inl ⟨_, _, _, _, _, (by first | assumption | rfl), by rfl⟩) (by omega) (Nat.le_of_ble_eq_true rfl) (C_storeyHeard (by omega) hM h12 (h2 (by omega)).2 hv) ?_
        refine st_iload_n dX4_meetingPlace_32 rfl ?_
        refine st_icmp_eq (tgt := 38) dX4_meetingPlace_33 (by omega) (by omega) rfl (fun h10 => ?_) (fun h10 => ?_)
        · refine st_iinc (L' := [_, _, _, _]) dX4_meetingPlace_38 rfl (by decide) rfl rfl ?_
          refine st_goto (tgt := 15) dX4_meetingPlace_41 rfl ?_
          refine st_iload_n dX4_meetingPlace_15 rfl ?_
          refine st_iload_n dX4_meetingPlace_16 rfl ?_
          refine st_icmp_ge (tgt := 44) dX4_meetingPlace_17 (by omega) (by omega) rfl (fun h11 => ?_) (fun h11 => ?_)
          · refine st_iload_n dX4_meetingPlace_44 rfl ?_
            exact r_i dX4_meetingPlace_45 rfl ⟨by rw [mpl, if_neg (by omega), if_neg (by omega)], rfl, rfl⟩
          · skip
            omega
        · refine st_iconst dX4_meetingPlace_36 ?_
          exact r_i dX4_meetingPlace_37 rfl ⟨by rw [mpl, if_neg (by omega), if_pos (by omega)], rfl, rfl⟩
    · refine st_iconst dX4_meetingPlace_36 ?_
      exact r_i dX4_meetingPlace_37 rfl ⟨by rw [mpl, if_pos (by omega)], rfl, rfl⟩


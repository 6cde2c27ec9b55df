/-! the reference: to meet -/
theorem gL_mono (s : Int) {k : Nat} : ∀ {m : Nat}, k ≤ m → (gL s k).length ≤ (gL s m).length
  | 0, h => by rw [show k = 0 by omega]; exact Nat.le_refl _
  | m + 1, h => by
    by_cases e : k = m + 1
    · rw [e]; exact Nat.le_refl _
    · have := gL_mono s (k := k) (m := m) (by omega)
      rw [show gL s (m + 1) = if s.toNat.testBit m = true then gL s m ++ [m] else gL s m from rfl]
      split
      · rw [List.length_append]; omega
      · exact this
theorem bits_gL : ∀ s : Nat, s < 128 → ∀ n, n < 8 → s < 2 ^ n → hsum (bitI (s : Int)) 7 = ((gL (s : Int) n).length : Nat) := by decide +kernel
theorem gL_asc : ∀ s : Nat, s < 128 → ∀ n, n < 8 → (1 < (gL (s : Int) n).length → (gL (s : Int) n).getD 0 0 < (gL (s : Int) n).getD 1 0) ∧ (2 < (gL (s : Int) n).length → (gL (s : Int) n).getD 1 0 < (gL (s : Int) n).getD 2 0) := by decide +kernel
abbrev mtX : List Nat := [112, 143, 150, 151]
def mtE (M M1 : q_Mem) : Prop := Exc mtX M M1 ∧ ∀ j, ¬ j = 55 → ¬ j = 56 → ¬ j = 57 → M1 112 j = M 112 j
theorem mtE.qk {M M1 : q_Mem} (h : mtE M M1) : Qk M M1 := by
  refine ⟨h.1.sub (by decide), fun a j hj => ?_, fun j hj => h.2 j (by simp only [List.mem_cons, List.not_mem_nil, or_false] at hj; omega) (by simp only [List.mem_cons, List.not_mem_nil, or_false] at hj; omega) (by simp only [List.mem_cons, List.not_mem_nil, or_false] at hj; omega), fun j _ => by rw [h.1 165 (by decide)]⟩
  rw [h.1 a]
  intro z
  simp only [List.mem_cons, List.not_mem_nil, or_false] at z
  rcases z with z | z | z | z
  all_goals (rw [z] at hj; exact absurd (show j < 0 from hj) (by omega))
theorem mtE.tr {M M1 M2 : q_Mem} (h : mtE M M1) (h2 : mtE M1 M2) : mtE M M2 := ⟨h.1.tr h2.1, fun j a b c => (h2.2 j a b c).trans (h.2 j a b c)⟩
theorem C_laysChosen {G : q_G} {d : Nat} {B M : q_Mem} {N : q_MemL} {s : Int} (hB : NowOk B) (hT : RT B M) (hs : 0 ≤ s ∧ s < 2147483648) (hl : (gL s (B 3 4).toNat).length ≤ 3) : AC0 G d m_X11_laysChosen [.ref 112, I s] M N (CN (fun M' N' => N' = N ∧ Exc [112, 150] M M' ∧ (∀ j, ¬ j = 55 → M' 112 j = M 112 j) ∧ M' 112 55 = ((gL s (B 3 4).toNat).length : Nat) ∧ ∀ j, j < (gL s (B 3 4).toNat).length → M' 150 j = ((gL s (B 3 4).toNat).getD j 0 : Nat))) := by
  obtain ⟨h0, h1, h2, h3, h4, -⟩ := id hB
  refine AC.of (L0 := [_, _, none]) pn_X11 (Nat.le_of_ble_eq_true rfl) rfl ?_
  refine st_aload_n dX11_laysChosen_0 rfl ?_
  refine st_iconst dX11_laysChosen_1 ?_
  refine st_putfi dX11_laysChosen_2 w_X11_511 (by first | with_reducible assumption | rfl) (by rfl) rfl rfl ?_
  refine st_iconst dX11_laysChosen_5 ?_
  refine st_istore_n (L' := [_, _, _]) dX11_laysChosen_6 (by decide) rfl rfl ?_
  have loop : ∀ (p k : Nat) (M1 : q_Mem), k + p = (B 3 4).toNat → Exc [112, 150] M M1 → (∀ j, ¬ j = 55 → M1 112 j = M 112 j) → M1 112 55 = ((gL s k).length : Nat) → (∀ j, j < (gL s k).length → M1 150 j = ((gL s k).getD j 0 : Nat)) → AW0 G d m_X11_laysChosen 7 [some (.ref 112), some (I s), some (I k)] [] M1 N (CN (fun M' N' => N' = N ∧ Exc [112, 150] M M' ∧ (∀ j, ¬ j = 55 → M' 112 j = M 112 j) ∧ M' 112 55 = ((gL s (B 3 4).toNat).length : Nat) ∧ ∀ j, j < (gL s (B 3 4).toNat).length → M' 150 j = ((gL s (B 3 4).toNat).getD j 0 : Nat))) := by
    intro p
    induction p with
    | zero =>
      intro k M1 hk hE hj h55 hrow
      have hkn : k = (B 3 4).toNat := by omega
      subst hkn
      refine st_iload_n dX11_laysChosen_7 rfl ?_
      refine st_aload_n dX11_laysChosen_8 rfl ?_
      refine st_getfr dX11_laysChosen_9 f_X11_9 (by first | with_reducible assumption | rfl) (by rfl) ?_
      refine st_iconst dX11_laysChosen_12 ?_
      refine st_ialdK (k' := 3) dX11_laysChosen_13 (by first | with_reducible assumption | rfl) rfl (by omega) (hn := by first | decide | omega) ?_
      rw [hE 113 (by decide), hT.1.2.2.2.1]
      refine st_icmp_ge (tgt := 52) dX11_laysChosen_14 (by omega) (by omega) rfl (fun h => ?_) (fun h => ?_)
      · skip
        exact r_v dX11_laysChosen_52 rfl ⟨rfl, hE, hj, h55, hrow⟩
      · skip
        omega
    | succ p ih =>
      intro k M1 hk hE hj h55 hrow
      have hm := gL_mono s (k := k + 1) (m := (B 3 4).toNat) (by omega)
      have e : gL s (k + 1) = if s.toNat.testBit k = true then gL s k ++ [k] else gL s k := rfl
      have rb := bitI_rng s k
      refine st_iload_n dX11_laysChosen_7 rfl ?_
      refine st_aload_n dX11_laysChosen_8 rfl ?_
      refine st_getfr dX11_laysChosen_9 f_X11_9 (by first | with_reducible assumption | rfl) (by rfl) ?_
      refine st_iconst dX11_laysChosen_12 ?_
      refine st_ialdK (k' := 3) dX11_laysChosen_13 (by first | with_reducible assumption | rfl) rfl (by omega) (hn := by first | decide | omega) ?_
      rw [hE 113 (by decide), hT.1.2.2.2.1]
      refine st_icmp_ge (tgt := 52) dX11_laysChosen_14 (by omega) (by omega) rfl (fun h => ?_) (fun h => ?_)
      · skip
        omega
      · refine st_iload_n dX11_laysChosen_17 rfl ?_
        refine st_iload_n dX11_laysChosen_18 rfl ?_
        refine st_ishr dX11_laysChosen_19 ?_; refine st_iconst dX11_laysChosen_20 ?_; refine st_iand dX11_laysChosen_21 ?_; refine AW.top (z_bit (by omega) (by omega)) ?_
        refine st_iconst dX11_laysChosen_22 ?_
        refine st_icmp_ne (tgt := 46) dX11_laysChosen_23 (by omega) (by omega) rfl (fun h2 => ?_) (fun h2 => ?_)
        · refine st_iinc (L' := [_, _, _]) dX11_laysChosen_46 rfl (by decide) rfl rfl ?_
          refine st_goto (tgt := 7) dX11_laysChosen_49 rfl ?_
          have c : ¬ s.toNat.testBit k = true := fun x => h2 (by unfold bitI; rw [if_pos x])
          rw [if_neg c] at e
          exact AW.to (ih (k + 1) M1 (by omega) hE hj (by rw [e]; exact h55) (by rw [e]; exact hrow)) (h2 := by simp)
        · refine st_aload_n dX11_laysChosen_26 rfl ?_
          refine st_getfr dX11_laysChosen_27 f_X11_128 (by first | with_reducible assumption | rfl) (by rfl) ?_
          refine st_aload_n dX11_laysChosen_30 rfl ?_
          refine st_getfi dX11_laysChosen_31 f_X11_511 (by first | with_reducible assumption | rfl) (by rfl) ?_
          have c : s.toNat.testBit k = true := by
            unfold bitI at h2
            split at h2
            · assumption
            · omega
          rw [if_pos c] at e
          rw [e, List.length_append, List.length_singleton] at hm
          rw [h55]
          refine st_iload_n dX11_laysChosen_34 rfl ?_
          first | refine st_iastK (k' := _) dX11_laysChosen_35 (by first | with_reducible assumption | rfl) rfl (by omega) (hn := by first | decide | omega) ?_ | refine st_iast dX11_laysChosen_35 (by first | with_reducible assumption | rfl) (by omega) (by omega) (hn := by first | decide | omega) ?_
          refine st_aload_n dX11_laysChosen_36 rfl ?_
          refine st_dup dX11_laysChosen_37 rfl ?_
          refine st_getfi dX11_laysChosen_38 f_X11_511 (by first | with_reducible assumption | rfl) (by rfl) ?_
          have e55 : q_up M1 150 (gL s k).length (k : Int) 112 55 = ((gL s k).length : Nat) := by rw [q_up_ne (by decide)]; exact h55
          rw [e55]
          refine st_iconst dX11_laysChosen_41 ?_
          refine st_iadd dX11_laysChosen_42 ?_
          refine st_putfi dX11_laysChosen_43 w_X11_511 (by first | with_reducible assumption | rfl) (by rfl) rfl rfl ?_
          refine st_iinc (L' := [_, _, _]) dX11_laysChosen_46 rfl (by decide) rfl rfl ?_
          refine st_goto (tgt := 7) dX11_laysChosen_49 rfl ?_
          refine AW.to (ih (k + 1) (q_up (q_up M1 150 (gL s k).length (k : Int)) 112 55 (((gL s k).length : Nat) + 1)) (by omega) ((hE.tr (Exc.up (by decide))).tr (Exc.up (by decide))) (fun j j55 => by rw [← hj j j55]; simp [q_up, j55]) (by rw [e, List.length_append]; simp [q_up]) (fun j hj2 => ?_)) (h2 := by simp)
          rw [e] at hj2 ⊢
          rw [List.length_append, List.length_singleton] at hj2
          by_cases e2 : j = (gL s k).length
          · rw [e2, List.getD_eq_getElem?_getD, List.getElem?_append_right (Nat.le_refl _)]
            simp [q_up]
          · rw [List.getD_eq_getElem?_getD, List.getElem?_append_left (by omega), ← List.getD_eq_getElem?_getD, ← hrow j (by omega)]
            simp [q_up, e2]
  refine AW.to (loop (B 3 4).toNat 0 (q_up M 112 55 0) (Nat.zero_add _) (Exc.up (by decide)) (fun j hj => by simp [q_up, hj]) (by simp [q_up, gL]) (fun j hj => absurd hj (by simp [gL])))
/-- those who are to meet, as the rows hold them -/
def mtC (B M : q_Mem) (n l0 l1 l2 : Nat) : Prop := (1 ≤ n ∧ n ≤ 3) ∧ M 112 55 = (n : Nat) ∧ (M 150 0 = (l0 : Nat) ∧ l0 < (B 3 4).toNat) ∧ (1 < n → M 150 1 = (l1 : Nat) ∧ l1 < (B 3 4).toNat) ∧ (2 < n → M 150 2 = (l2 : Nat) ∧ l2 < (B 3 4).toNat)
theorem mpl_rng {B : q_Mem} {n l0 l1 l2 : Nat} {v : Nat → Int} (h3 : 0 ≤ B 3 3 ∧ B 3 3 ≤ 8) : -1 ≤ mpl B n l0 l1 l2 v ∧ mpl B n l0 l1 l2 v ≤ 8 := by
  have := hrd_rng h3 v l0
  unfold mpl
  repeat' split
  all_goals omega
theorem C_rMeetSt {G : q_G} {d : Nat} {B M : q_Mem} {N : q_MemL} {n l0 l1 l2 : Nat} {v : Nat → Int} (hd : 2 ≤ d) (hN : RN B M) (hC : mtC B M n l0 l1 l2) (hv : ∀ o, o < (B 3 4).toNat → M 143 o = v o) (rv : ∀ o, o < (B 3 4).toNat → 0 ≤ v o ∧ v o ≤ 30) : AC0 G d m_X11_meetingStorey [.ref 112] M N (CV (PU (I (mpl B n l0 l1 l2 v)) M N)) := by
  obtain ⟨hB, hT, hP, hW, hb6⟩ := id hN
  obtain ⟨h0, h1, h2, h3, h4, -⟩ := id hB
  obtain ⟨c0, c1, c2, c3, c4⟩ := hC
  have hr := fun p (hp : p < (B 3 4).toNat) => hearP_rng (n := (B 3 4).toNat) (df := B 3 6) (st := g8 (B 3 12)) (rm := g4 (B 3 13)) (v := v) (p := p) hp (by omega) rv
  have hr1 := hrd_rng (M := B) h3 v
  have r0 := hr l0 c2.2
  have q0 := hr1 l0
  refine AC.of (L0 := [_, none, none]) pn_X11 (Nat.le_of_ble_eq_true rfl) rfl ?_
  refine st_aload_n dX11_meetingStorey_0 rfl ?_
  refine st_aload_n dX11_meetingStorey_1 rfl ?_
  refine st_aload_n dX11_meetingStorey_2 rfl ?_
  refine st_getfr dX11_meetingStorey_3 f_X11_128 (by first | with_reducible assumption | rfl) (by rfl) ?_
  refine st_iconst dX11_meetingStorey_6 ?_
  refine st_ialdK (k' := 0) dX11_meetingStorey_7 sh_150 rfl (by omega) (hn := by decide) ?_
  rw [c2.1]
  refine c_V1p (d' := d - 1) dX11_meetingStorey_8 l_X11_399 k_X11_heardOf i_X11_heardOf (Or.inl ⟨_, _, _, _, _, (by first | with_reducible assumption | rfl), by rfl⟩) (by omega) (Nat.le_of_ble_eq_true rfl) (C_rHeardV (v := v) (q := l0) (by omega) hB hN.2 hv rv c2.2) ?_
  refine c_V1p (d' := d - 1) dX11_meetingStorey_11 l_X11_402 k_X11_storeyOf i_X11_storeyOf (Or.inl ⟨_, _, _, _, _, (by first | with_reducible assumption | rfl), by rfl⟩) (by omega) (Nat.le_of_ble_eq_true rfl) (C_rStoreyOf (by omega) hB hT (by unfold i32; omega)) ?_
  rw [show stof (B 4) (hearP (B 3 4).toNat (B 3 6) (g8 (B 3 12)) (g4 (B 3 13)) v l0) ((B 3 3).toNat - 1) 0 = hrd B v l0 from rfl]
  refine st_istore_n (L' := [_, _, _]) dX11_meetingStorey_14 (by decide) rfl rfl ?_
  refine st_iconst dX11_meetingStorey_15 ?_
  refine st_istore_n (L' := [_, _, _]) dX11_meetingStorey_16 (by decide) rfl rfl ?_
  refine st_iload_n dX11_meetingStorey_17 rfl ?_
  refine st_aload_n dX11_meetingStorey_18 rfl ?_
  refine st_getfi dX11_meetingStorey_19 f_X11_511 (by first | with_reducible assumption | rfl) (by rfl) ?_
  rw [c1]
  refine st_icmp_ge (tgt := 51) dX11_meetingStorey_22 (by omega) (by omega) rfl (fun h7 => ?_) (fun h7 => ?_)
  · refine st_iload_n dX11_meetingStorey_51 rfl ?_
    exact r_i dX11_meetingStorey_52 rfl ⟨by unfold mpl; rw [if_neg (by omega), if_neg (by omega)], rfl, rfl⟩
  · refine st_aload_n dX11_meetingStorey_25 rfl ?_
    refine st_aload_n dX11_meetingStorey_26 rfl ?_
    refine st_aload_n dX11_meetingStorey_27 rfl ?_
    refine st_getfr dX11_meetingStorey_28 f_X11_128 (by first | with_reducible assumption | rfl) (by rfl) ?_
    refine st_iload_n dX11_meetingStorey_31 rfl ?_
    have d1 := c3 (by omega)
    have r1 := hr l1 d1.2
    have q1 := hr1 l1
    refine st_ialdK (k' := 1) dX11_meetingStorey_32 sh_150 rfl (by omega) (hn := by decide) ?_
    rw [d1.1]
    refine c_V1p (d' := d - 1) dX11_meetingStorey_33 l_X11_399 k_X11_heardOf i_X11_heardOf (Or.inl ⟨_, _, _, _, _, (by first | with_reducible assumption | rfl), by rfl⟩) (by omega) (Nat.le_of_ble_eq_true rfl) (C_rHeardV (v := v) (q := l1) (by omega) hB hN.2 hv rv d1.2) ?_
    refine c_V1p (d' := d - 1) dX11_meetingStorey_36 l_X11_402 k_X11_storeyOf i_X11_storeyOf (Or.inl ⟨_, _, _, _, _, (by first | with_reducible assumption | rfl), by rfl⟩) (by omega) (Nat.le_of_ble_eq_true rfl) (C_rStoreyOf (by omega) hB hT (by unfold i32; omega)) ?_
    rw [show stof (B 4) (hearP (B 3 4).toNat (B 3 6) (g8 (B 3 12)) (g4 (B 3 13)) v l1) ((B 3 3).toNat - 1) 0 = hrd B v l1 from rfl]
    refine st_iload_n dX11_meetingStorey_39 rfl ?_
    refine st_icmp_eq (tgt := 45) dX11_meetingStorey_40 (by omega) (by omega) rfl (fun h8 => ?_) (fun h8 => ?_)
    · refine st_iinc (L' := [_, _, _]) dX11_meetingStorey_45 rfl (by decide) rfl rfl ?_
      refine st_goto (tgt := 17) dX11_meetingStorey_48 rfl ?_
      refine st_iload_n dX11_meetingStorey_17 rfl ?_
      refine st_aload_n dX11_meetingStorey_18 rfl ?_
      refine st_getfi dX11_meetingStorey_19 f_X11_511 (by first | with_reducible assumption | rfl) (by rfl) ?_
      rw [c1]
      refine st_icmp_ge (tgt := 51) dX11_meetingStorey_22 (by omega) (by omega) rfl (fun h9 => ?_) (fun h9 => ?_)
      · refine st_iload_n dX11_meetingStorey_51 rfl ?_
        exact r_i dX11_meetingStorey_52 rfl ⟨by unfold mpl; rw [if_neg (fun z => z.2 h8), if_neg (by omega)], rfl, rfl⟩
      · refine st_aload_n dX11_meetingStorey_25 rfl ?_
        refine st_aload_n dX11_meetingStorey_26 rfl ?_
        refine st_aload_n dX11_meetingStorey_27 rfl ?_
        refine st_getfr dX11_meetingStorey_28 f_X11_128 (by first | with_reducible assumption | rfl) (by rfl) ?_
        refine st_iload_n dX11_meetingStorey_31 rfl ?_
        have d2 := c4 (by omega)
        have r2 := hr l2 d2.2
        have q2 := hr1 l2
        refine st_ialdK (k' := 2) dX11_meetingStorey_32 sh_150 rfl (by omega) (hn := by decide) ?_
        rw [d2.1]
        refine c_V1p (d' := d - 1) dX11_meetingStorey_33 l_X11_399 k_X11_heardOf i_X11_heardOf (Or.inl ⟨_, _, _, _, _, (by first | with_reducible assumption | rfl), by rfl⟩) (by omega) (Nat.le_of_ble_eq_true rfl) (C_rHeardV (v := v) (q := l2) (by omega) hB hN.2 hv rv d2.2) ?_
        refine c_V1p (d' := d - 1) dX11_meetingStorey_36 l_X11_402 k_X11_storeyOf i_X11_storeyOf (Or.inl ⟨_, _, _, _, _, (by first | with_reducible assumption | rfl), by rfl⟩) (by omega) (Nat.le_of_ble_eq_true rfl) (C_rStoreyOf (by omega) hB hT (by unfold i32; omega)) ?_
        rw [show stof (B 4) (hearP (B 3 4).toNat (B 3 6) (g8 (B 3 12)) (g4 (B 3 13)) v l2) ((B 3 3).toNat - 1) 0 = hrd B v l2 from rfl]
        refine st_iload_n dX11_meetingStorey_39 rfl ?_
        refine st_icmp_eq (tgt := 45) dX11_meetingStorey_40 (by omega) (by omega) rfl (fun h10 => ?_) (fun h10 => ?_)
        · refine st_iinc (L' := [_, _, _]) dX11_meetingStorey_45 rfl (by decide) rfl rfl ?_
          refine st_goto (tgt := 17) dX11_meetingStorey_48 rfl ?_
          refine st_iload_n dX11_meetingStorey_17 rfl ?_
          refine st_aload_n dX11_meetingStorey_18 rfl ?_
          refine st_getfi dX11_meetingStorey_19 f_X11_511 (by first | with_reducible assumption | rfl) (by rfl) ?_
          rw [c1]
          refine st_icmp_ge (tgt := 51) dX11_meetingStorey_22 (by omega) (by omega) rfl (fun h11 => ?_) (fun h11 => ?_)
          · refine st_iload_n dX11_meetingStorey_51 rfl ?_
            exact r_i dX11_meetingStorey_52 rfl ⟨by unfold mpl; rw [if_neg (fun z => z.2 h8), if_neg (fun z => z.2 h10)], rfl, rfl⟩
          · skip
            omega
        · refine st_iconst dX11_meetingStorey_43 ?_
          exact r_i dX11_meetingStorey_44 rfl ⟨by unfold mpl; rw [if_neg (fun z => z.2 h8), if_pos ⟨by omega, h10⟩], rfl, rfl⟩
    · refine st_iconst dX11_meetingStorey_43 ?_
      exact r_i dX11_meetingStorey_44 rfl ⟨by unfold mpl; rw [if_pos ⟨by omega, h8⟩], rfl, rfl⟩


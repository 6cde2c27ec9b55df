/-! the system's Thieves: what an ear hears, who fits -/
def hmh (a b h : Int) : Int := if (if 0 ≤ a then a else -a) * 2 + (if 0 ≤ b then b else -b) = 0 then h else if b = 0 then (if (if 0 ≤ a then a else -a) * 2 + (if 0 ≤ b then b else -b) = 2 then h / 2 else 0) else if (if 0 ≤ a then a else -a) * 2 + (if 0 ≤ b then b else -b) = 1 then h / 4 else 0
theorem hmh_rng {a b h : Int} (hh : 0 ≤ h ∧ h ≤ 30) : 0 ≤ hmh a b h ∧ hmh a b h ≤ 30 := by
  unfold hmh
  generalize (if 0 ≤ a then a else -a) * 2 + (if 0 ≤ b then b else -b) = f
  by_cases h1 : f = 0
  · rw [if_pos h1]; exact hh
  · rw [if_neg h1]
    by_cases h2 : b = 0
    · rw [if_pos h2]
      split <;> omega
    · rw [if_neg h2]
      split <;> omega
theorem C_humHeard {G : q_G} {d : Nat} {M : q_Mem} {N : q_MemL} {a b h : Int} (hd : 1 ≤ d) (ha : -1000 ≤ a ∧ a ≤ 1000) (hb : -1000 ≤ b ∧ b ≤ 1000) (hh : 0 ≤ h ∧ h ≤ 30) : AC0 G d m_X9_humHeard [I a, I b, I h] M N (CV (PU (I (hmh a b h)) M N)) := by
  refine AC.of (L0 := [_, _, _, none]) pn_X9 (Nat.le_of_ble_eq_true rfl) rfl ?_
  refine st_iload_n dX9_humHeard_0 rfl ?_
  refine st_mabs dX9_humHeard_1 lm_X9_63 (by omega) (Nat.le_of_ble_eq_true rfl) (by omega) ?_
  refine st_iconst dX9_humHeard_4 ?_
  refine st_imul dX9_humHeard_5 ?_
  refine st_iload_n dX9_humHeard_6 rfl ?_
  refine st_mabs dX9_humHeard_7 lm_X9_63 (by omega) (Nat.le_of_ble_eq_true rfl) (by omega) ?_
  refine st_iadd dX9_humHeard_10 ?_
  refine st_istore_n (L' := [_, _, _, _]) dX9_humHeard_11 (by decide) rfl rfl ?_
  refine st_iload_n dX9_humHeard_12 rfl ?_
  refine st_if_ne (tgt := 18) dX9_humHeard_13 (by omega) rfl (fun h7 => ?_) (fun h7 => ?_)
  · refine st_iload_n dX9_humHeard_18 rfl ?_
    refine st_if_ne (tgt := 35) dX9_humHeard_19 (by omega) rfl (fun h8 => ?_) (fun h8 => ?_)
    · refine st_iload_n dX9_humHeard_35 rfl ?_
      refine st_iconst dX9_humHeard_36 ?_
      refine st_icmp_ne (tgt := 46) dX9_humHeard_37 (by omega) (by omega) rfl (fun h9 => ?_) (fun h9 => ?_)
      · refine st_iconst dX9_humHeard_46 ?_
        exact r_i dX9_humHeard_47 rfl ⟨by rw [hmh, if_neg h7, if_neg h8, if_neg h9], rfl, rfl⟩
      · refine st_iload_n dX9_humHeard_40 rfl ?_
        refine st_iconst dX9_humHeard_41 ?_
        refine st_idiv dX9_humHeard_42 (zi_ne0 (by omega)) ?_
        refine AW.top (zi_divI (by omega) (by omega)) ?_
        refine st_goto (tgt := 47) dX9_humHeard_43 rfl ?_
        exact r_i dX9_humHeard_47 rfl ⟨by rw [hmh, if_neg h7, if_neg h8, if_pos (by omega)], rfl, rfl⟩
    · refine st_iload_n dX9_humHeard_22 rfl ?_
      refine st_iconst dX9_humHeard_23 ?_
      refine st_icmp_ne (tgt := 33) dX9_humHeard_24 (by omega) (by omega) rfl (fun h9 => ?_) (fun h9 => ?_)
      · refine st_iconst dX9_humHeard_33 ?_
        exact r_i dX9_humHeard_34 rfl ⟨by rw [hmh, if_neg h7, if_pos (by omega), if_neg h9], rfl, rfl⟩
      · refine st_iload_n dX9_humHeard_27 rfl ?_
        refine st_iconst dX9_humHeard_28 ?_
        refine st_idiv dX9_humHeard_29 (zi_ne0 (by omega)) ?_
        refine AW.top (zi_divI (by omega) (by omega)) ?_
        refine st_goto (tgt := 34) dX9_humHeard_30 rfl ?_
        exact r_i dX9_humHeard_34 rfl ⟨by rw [hmh, if_neg h7, if_pos (by omega), if_pos (by omega)], rfl, rfl⟩
  · refine st_iload_n dX9_humHeard_16 rfl ?_
    exact r_i dX9_humHeard_17 rfl ⟨by rw [hmh, if_pos (by omega)], rfl, rfl⟩
/-- what all ears heard fits -/
abbrev fitE (E : Nat → Int) (n : Nat) (r s h : Int) : Prop := ∀ e, e < n → hmh (E (e * 3) - r) (E (e * 3 + 1) - s) h = E (e * 3 + 2)
theorem C_fits {G : q_G} {d : Nat} {M : q_Mem} {N : q_MemL} {r s h : Int} (hd : 2 ≤ d) (h17 : 0 ≤ M 3 17 ∧ M 3 17 ≤ 8) (h9 : ∀ k, -1 ≤ M 9 k ∧ M 9 k ≤ 100) (hr : 0 ≤ r ∧ r ≤ 10) (hs : 0 ≤ s ∧ s ≤ 10) (hh : 0 ≤ h ∧ h ≤ 30) : AC0 G d m_X9_fits [.ref 106, I r, I s, I h] M N (CV (PU (Bz (fitE (M 9) (M 3 17).toNat r s h)) M N)) := by
  refine AC.of (L0 := [_, _, _, _, none, none, none]) pn_X9 (Nat.le_of_ble_eq_true rfl) rfl ?_
  refine st_iconst dX9_fits_0 ?_
  refine st_istore (L' := [_, _, _, _, _, _, _]) dX9_fits_1 (by decide) rfl rfl ?_
  have loop : ∀ (q k : Nat), k + q = (M 3 17).toNat → (∀ e, e < k → hmh (M 9 (e * 3) - r) (M 9 (e * 3 + 1) - s) h = M 9 (e * 3 + 2)) → {l5 l6 : Option Value} → AW0 G d m_X9_fits 3 [some (.ref 106), some (I r), some (I s), some (I h), some (I k), l5, l6] [] M N (CV (PU (Bz (fitE (M 9) (M 3 17).toNat r s h)) M N)) := by
    intro q
    induction q with
    | zero =>
      intro k hk hno l5 l6
      refine st_iload dX9_fits_3 rfl ?_
      refine st_aload_n dX9_fits_5 rfl ?_
      refine st_getfr dX9_fits_6 f_X9_24 (by first | assumption | rfl) (by rfl) ?_
      refine st_getfi dX9_fits_9 f_X9_53 (by first | assumption | rfl) (by rfl) ?_
      refine st_icmp_ge (tgt := 88) dX9_fits_12 (by omega) (by omega) rfl (fun h7 => ?_) (fun h7 => ?_)
      · refine st_iconst dX9_fits_88 ?_
        exact r_z dX9_fits_89 rfl (by first | omega | (split <;> decide)) ⟨bz1 (fun e he => hno e (by omega)), rfl, rfl⟩
      · skip
        omega
    | succ q ih =>
      intro k hk hno l5 l6
      have b0 := h9 (k * 3)
      have b1 := h9 (k * 3 + 1)
      have b2 := h9 (k * 3 + 2)
      have hm := hmh_rng (a := M 9 (k * 3) - r) (b := M 9 (k * 3 + 1) - s) hh
      have t0 : ((k : Int) * 3).toNat = k * 3 := by omega
      have t1 : ((k : Int) * 3 + 1).toNat = k * 3 + 1 := by omega
      have t2 : ((k : Int) * 3 + 2).toNat = k * 3 + 2 := by omega
      refine st_iload dX9_fits_3 rfl ?_
      refine st_aload_n dX9_fits_5 rfl ?_
      refine st_getfr dX9_fits_6 f_X9_24 (by first | assumption | rfl) (by rfl) ?_
      refine st_getfi dX9_fits_9 f_X9_53 (by first | assumption | rfl) (by rfl) ?_
      refine st_icmp_ge (tgt := 88) dX9_fits_12 (by omega) (by omega) rfl (fun h7 => ?_) (fun h7 => ?_)
      · skip
        omega
      · refine st_aload_n dX9_fits_15 rfl ?_
        refine st_getfr dX9_fits_16 f_X9_24 (by first | assumption | rfl) (by rfl) ?_
        refine st_getfr dX9_fits_19 f_X9_56 (by first | assumption | rfl) (by rfl) ?_
        refine st_iload dX9_fits_22 rfl ?_
        refine st_iconst dX9_fits_24 ?_
        refine st_imul dX9_fits_25 ?_
        refine c_S2p (d' := d - 1) dX9_fits_26 l_X9_35 k_X10_cell s_X10_cell (by omega) (Nat.le_of_ble_eq_true rfl) (C_cellI sh_9 (by decide) (by omega)) ?_
        rw [t0]
        refine st_iload_n dX9_fits_29 rfl ?_
        refine st_isub dX9_fits_30 ?_
        refine st_istore (L' := [_, _, _, _, _, _, _]) dX9_fits_31 (by decide) rfl rfl ?_
        refine st_aload_n dX9_fits_33 rfl ?_
        refine st_getfr dX9_fits_34 f_X9_24 (by first | assumption | rfl) (by rfl) ?_
        refine st_getfr dX9_fits_37 f_X9_56 (by first | assumption | rfl) (by rfl) ?_
        refine st_iload dX9_fits_40 rfl ?_
        refine st_iconst dX9_fits_42 ?_
        refine st_imul dX9_fits_43 ?_
        refine st_iconst dX9_fits_44 ?_
        refine st_iadd dX9_fits_45 ?_
        refine c_S2p (d' := d - 1) dX9_fits_46 l_X9_35 k_X10_cell s_X10_cell (by omega) (Nat.le_of_ble_eq_true rfl) (C_cellI sh_9 (by decide) (by omega)) ?_
        rw [t1]
        refine st_iload_n dX9_fits_49 rfl ?_
        refine st_isub dX9_fits_50 ?_
        refine st_istore (L' := [_, _, _, _, _, _, _]) dX9_fits_51 (by decide) rfl rfl ?_
        refine st_iload dX9_fits_53 rfl ?_
        refine st_iload dX9_fits_55 rfl ?_
        refine st_iload_n dX9_fits_57 rfl ?_
        refine c_S3p (d' := d - 1) dX9_fits_58 l_X9_59 k_X9_humHeard s_X9_humHeard (by omega) (Nat.le_of_ble_eq_true rfl) (C_humHeard (by omega) (by omega) (by omega) hh) ?_
        refine st_aload_n dX9_fits_61 rfl ?_
        refine st_getfr dX9_fits_62 f_X9_24 (by first | assumption | rfl) (by rfl) ?_
        refine st_getfr dX9_fits_65 f_X9_56 (by first | assumption | rfl) (by rfl) ?_
        refine st_iload dX9_fits_68 rfl ?_
        refine st_iconst dX9_fits_70 ?_
        refine st_imul dX9_fits_71 ?_
        refine st_iconst dX9_fits_72 ?_
        refine st_iadd dX9_fits_73 ?_
        refine c_S2p (d' := d - 1) dX9_fits_74 l_X9_35 k_X10_cell s_X10_cell (by omega) (Nat.le_of_ble_eq_true rfl) (C_cellI sh_9 (by decide) (by omega)) ?_
        rw [t2]
        refine st_icmp_eq (tgt := 82) dX9_fits_77 (by omega) (by omega) rfl (fun h8 => ?_) (fun h8 => ?_)
        · refine st_iinc (L' := [_, _, _, _, _, _, _]) dX9_fits_82 rfl (by decide) rfl rfl ?_
          refine st_goto (tgt := 3) dX9_fits_85 rfl ?_
          refine AW.to (ih (k + 1) (by omega) (fun e he => ?_) (l5 := some (I (M 9 (k * 3) - r))) (l6 := some (I (M 9 (k * 3 + 1) - s)))) (h2 := by simp)
          by_cases q1 : e = k
          · rw [q1]; exact h8
          · exact hno e (by omega)
        · refine st_iconst dX9_fits_80 ?_
          exact r_z dX9_fits_81 rfl (by first | omega | (split <;> decide)) ⟨bz0 (fun z => h8 (z k (by omega))), rfl, rfl⟩
  exact loop (M 3 17).toNat 0 (by omega) (fun e he => by omega) (l5 := none) (l6 := none)
def thK (E : Nat → Int) (ne : Nat) (r s : Nat) : Nat → List (Nat × Nat × Nat)
  | 0 => []
  | n + 1 => if fitE E ne r s (n + 1 : Nat) then thK E ne r s n ++ [(r, s, n + 1)] else thK E ne r s n
def thS (E : Nat → Int) (ne : Nat) (r : Nat) : Nat → List (Nat × Nat × Nat)
  | 0 => []
  | n + 1 => thS E ne r n ++ thK E ne r n 30
def thR (E : Nat → Int) (ne ns : Nat) : Nat → List (Nat × Nat × Nat)
  | 0 => []
  | n + 1 => thR E ne ns n ++ thS E ne n ns
theorem thK_len (E : Nat → Int) (ne r s : Nat) : ∀ n, (thK E ne r s n).length ≤ n
  | 0 => Nat.le_refl _
  | n + 1 => by
    have := thK_len E ne r s n
    unfold thK
    split
    · rw [List.length_append, List.length_singleton]; omega
    · omega
theorem thS_len (E : Nat → Int) (ne r : Nat) : ∀ n, (thS E ne r n).length ≤ n * 30
  | 0 => Nat.le_refl _
  | n + 1 => by
    have := thS_len E ne r n
    have := thK_len E ne r n 30
    unfold thS
    rw [List.length_append]; omega
theorem thR_len (E : Nat → Int) (ne ns : Nat) (hns : ns ≤ 8) : ∀ n, (thR E ne ns n).length ≤ n * 240
  | 0 => Nat.le_refl _
  | n + 1 => by
    have := thR_len E ne ns hns n
    have := thS_len E ne n ns
    unfold thR
    rw [List.length_append]; omega
/-- the rows hold these -/
def holdT (L : List (Nat × Nat × Nat)) (M : q_Mem) : Prop := M 106 5 = (L.length : Nat) ∧ ∀ j, j < L.length → M 107 j = ((L.getD j (0, 0, 0)).1 : Nat) ∧ M 108 j = ((L.getD j (0, 0, 0)).2.1 : Nat) ∧ M 109 j = ((L.getD j (0, 0, 0)).2.2 : Nat)
theorem holdT_app {L : List (Nat × Nat × Nat)} {M : q_Mem} {t : Nat × Nat × Nat} (h : holdT L M) : holdT (L ++ [t]) (q_up (q_up (q_up (q_up M 107 L.length (t.1 : Nat)) 108 L.length (t.2.1 : Nat)) 109 L.length (t.2.2 : Nat)) 106 5 ((L.length : Nat) + 1)) := by
  refine ⟨by simp [q_up], fun j hj => ?_⟩
  rw [List.length_append, List.length_singleton] at hj
  by_cases e : j < L.length
  · have := h.2 j e
    rw [List.getD_eq_getElem?_getD, List.getElem?_append_left e, ← List.getD_eq_getElem?_getD, ← this.1, ← this.2.1, ← this.2.2]
    have e2 : ¬ j = L.length := by omega
    simp [q_up, e2]
  · have e2 : j = L.length := by omega
    rw [List.getD_eq_getElem?_getD, List.getElem?_append_right (by omega), show j - L.length = 0 by omega]
    simp [q_up, e2]


/-! the reference: back out of an image; what a question leaves as it was -/
/-- so much of the state has come back out of the image -/
def BwI (M M1 : q_Mem) (base m : Nat) : Prop := M1 112 80 = ((base + m : Nat) : Int) ∧ M1 112 81 = 1 ∧ (∀ j, ¬ j = 80 → ¬ j = 81 → ¬ j = 45 → M1 112 j = M 112 j) ∧ (1 ≤ m → M1 112 45 = M 165 base) ∧ ∀ a, ¬ a = 112 → ¬ a = 146 → ∀ j, M1 a j = if (ofR a).1 + (ofR a).2 ≤ m ∧ j < (ofR a).2 then M 165 (base + (ofR a).1 + j) else M a j
theorem BwI.step {M M1 M2 : q_Mem} {r base m n : Nat} (h : BwI M M1 base m) (h1 : 1 ≤ m) (ho : ofR r = (m, n)) (hx : r ∉ [112, 146, 165]) (hd : ∀ a, ¬ a = r → (ofR a).1 + (ofR a).2 ≤ m + n → (ofR a).1 + (ofR a).2 ≤ m) (h2 : M2 = q_up (q_cp M1 165 r (base + m) 0 n) 112 80 ((base + m + n : Nat) : Int)) : BwI M M2 base (m + n) := by
  obtain ⟨a1, a2, a3, a4, a5⟩ := h
  have hx2 : ¬ r = 112 ∧ ¬ r = 146 ∧ ¬ r = 165 := by simpa using hx
  have hr2 : ¬ 112 = r := fun z => hx2.1 z.symm
  subst h2
  refine ⟨by simp [q_up, Nat.add_assoc], by simp [q_up, q_cp, a2, hr2], fun j j1 j2 j3 => ?_, fun _ => ?_, fun a h3 h4 j => ?_⟩
  · rw [← a3 j j1 j2 j3]
    simp [q_up, q_cp, j1, hr2]
  · rw [← a4 h1]
    simp [q_up, q_cp, hr2]
  · rw [q_up_ne h3]
    by_cases e : a = r
    · subst e
      rw [ho]
      show (if a = a then (if 0 ≤ j ∧ j < 0 + n then M1 165 (base + m + (j - 0)) else M1 a j) else M1 a j) = if m + n ≤ m + n ∧ j < n then M 165 (base + m + j) else M a j
      rw [if_pos rfl]
      by_cases c : j < n
      · rw [if_pos (by omega), if_pos (by omega), a5 165 (by decide) (by decide)]
        exact if_neg (by show ¬ (0 + 0 ≤ m ∧ base + m + (j - 0) < 0); omega)
      · rw [if_neg (by omega), if_neg (by omega), a5 a h3 h4, ho]
        exact if_neg (by show ¬ (m + n ≤ m ∧ j < n); omega)
    · rw [show q_cp M1 165 r (base + m) 0 n a j = M1 a j by simp [q_cp, e], a5 a h3 h4]
      by_cases c : (ofR a).1 + (ofR a).2 ≤ m ∧ j < (ofR a).2
      · rw [if_pos c, if_pos ⟨by omega, c.2⟩]
      · rw [if_neg c, if_neg (fun z => c ⟨hd a e z.1, z.2⟩)]
theorem ofR_cs (a : Nat) : (a = 113 ∧ ofR a = (1, 9)) ∨ (a = 114 ∧ ofR a = (10, 7)) ∨ (a = 115 ∧ ofR a = (17, 7)) ∨ (a = 116 ∧ ofR a = (24, 7)) ∨ (a = 117 ∧ ofR a = (31, 42)) ∨ (a = 118 ∧ ofR a = (73, 7)) ∨ (a = 119 ∧ ofR a = (80, 3)) ∨ (a = 120 ∧ ofR a = (83, 3)) ∨ (a = 121 ∧ ofR a = (86, 3)) ∨ (a = 122 ∧ ofR a = (89, 8)) ∨ (a = 123 ∧ ofR a = (97, 8)) ∨ (a = 124 ∧ ofR a = (105, 8)) ∨ (a = 145 ∧ ofR a = (113, 1260)) ∨ ofR a = (0, 0) := by
  unfold ofR
  by_cases e113 : a = 113
  · subst e113; simp
  by_cases e114 : a = 114
  · subst e114; simp
  by_cases e115 : a = 115
  · subst e115; simp
  by_cases e116 : a = 116
  · subst e116; simp
  by_cases e117 : a = 117
  · subst e117; simp
  by_cases e118 : a = 118
  · subst e118; simp
  by_cases e119 : a = 119
  · subst e119; simp
  by_cases e120 : a = 120
  · subst e120; simp
  by_cases e121 : a = 121
  · subst e121; simp
  by_cases e122 : a = 122
  · subst e122; simp
  by_cases e123 : a = 123
  · subst e123; simp
  by_cases e124 : a = 124
  · subst e124; simp
  by_cases e145 : a = 145
  · subst e145; simp
  · right; right; right; right; right; right; right; right; right; right; right; right; right
    simp [e113, e114, e115, e116, e117, e118, e119, e120, e121, e122, e123, e124, e145]
theorem ofR_dis {m n : Nat} (r : Nat) (h : ofR r = (m, n)) (hn : 0 < n) (a : Nat) (ha : ¬ a = r) (h2 : (ofR a).1 + (ofR a).2 ≤ m + n) : (ofR a).1 + (ofR a).2 ≤ m := by
  have c1 := ofR_cs a
  have c2 := ofR_cs r
  rw [h] at c2
  simp only [Prod.mk.injEq] at c2
  rcases c1 with ⟨q, e⟩ | ⟨q, e⟩ | ⟨q, e⟩ | ⟨q, e⟩ | ⟨q, e⟩ | ⟨q, e⟩ | ⟨q, e⟩ | ⟨q, e⟩ | ⟨q, e⟩ | ⟨q, e⟩ | ⟨q, e⟩ | ⟨q, e⟩ | ⟨q, e⟩ | e
  all_goals
    rw [e] at h2 ⊢
    simp only at h2 ⊢
    omega
/-- the rows that come back -/
abbrev bkX : List Nat := [112, 113, 114, 115, 116, 117, 118, 119, 120, 121, 122, 123, 124, 145, 146]
theorem BwI.exc {M M1 : q_Mem} {base : Nat} (h : BwI M M1 base 1373) : Exc bkX M M1 := by
  intro a ha
  simp only [List.mem_cons, List.not_mem_nil, or_false, not_or] at ha
  funext j
  rw [h.2.2.2.2 a (by omega) (by omega) j]
  have c := ofR_cs a
  have e : ofR a = (0, 0) := by
    rcases c with ⟨q, e⟩ | ⟨q, e⟩ | ⟨q, e⟩ | ⟨q, e⟩ | ⟨q, e⟩ | ⟨q, e⟩ | ⟨q, e⟩ | ⟨q, e⟩ | ⟨q, e⟩ | ⟨q, e⟩ | ⟨q, e⟩ | ⟨q, e⟩ | ⟨q, e⟩ | e
    all_goals first | exact e | omega
  rw [e]
  exact if_neg (by show ¬ (0 + 0 ≤ 1373 ∧ j < 0); omega)
theorem C_carriesB {G : q_G} {d : Nat} {M : q_Mem} {N : q_MemL} {k : Nat} (hd : 1 ≤ d) (hk : k < 5) : AC0 G d m_X11_carriesAll [.ref 112, I k, I 1] M N (CN (fun M' N' => N' = N ∧ BwI M M' (1500 * k) 1373)) := by
  refine AC.of (L0 := [_, _, _]) pn_X11 (Nat.le_of_ble_eq_true rfl) rfl ?_
  refine st_aload_n dX11_carriesAll_0 rfl ?_
  refine st_sipush dX11_carriesAll_1 (by decide) ?_
  refine st_iload_n dX11_carriesAll_4 rfl ?_
  refine st_imul dX11_carriesAll_5 ?_
  rw [show (1500 : Int) * (k : Int) = ((1500 * k : Nat) : Int) by omega]
  refine st_putfi dX11_carriesAll_6 w_X11_630 (by first | with_reducible assumption | rfl) (by rfl) rfl rfl ?_
  refine st_aload_n dX11_carriesAll_9 rfl ?_
  refine st_iload_n dX11_carriesAll_10 rfl ?_
  refine st_putfi dX11_carriesAll_11 w_X11_627 (by first | with_reducible assumption | rfl) (by rfl) (by first | rfl | (split <;> rfl) | assumption) (by first | rfl | assumption) ?_
  refine st_aload_n dX11_carriesAll_14 rfl ?_
  refine st_getfr dX11_carriesAll_15 f_X11_116 (by first | with_reducible assumption | rfl) (by rfl) ?_
  refine st_iconst dX11_carriesAll_18 ?_
  refine st_aload_n dX11_carriesAll_19 rfl ?_
  refine st_getfi dX11_carriesAll_20 f_X11_357 (by first | with_reducible assumption | rfl) (by rfl) ?_
  refine st_iastK (k' := 0) dX11_carriesAll_23 (by first | with_reducible assumption | rfl) rfl (by omega) (hn := by first | decide | omega) ?_
  refine st_aload_n dX11_carriesAll_24 rfl ?_
  refine st_aload_n dX11_carriesAll_25 rfl ?_
  refine st_getfr dX11_carriesAll_26 f_X11_116 (by first | with_reducible assumption | rfl) (by rfl) ?_
  generalize q_up (q_up M 112 80 ((1500 * k : Nat) : Int)) 112 81 1 112 45 = z45
  have f1 : BwI M (q_up (q_up (q_up M 112 80 ((1500 * k : Nat) : Int)) 112 81 1) 146 0 z45) (1500 * k) 0 := by
    refine ⟨by simp [q_up], by simp [q_up], fun j j1 j2 j3 => by simp [q_up, j1, j2], fun z => absurd z (by omega), fun a h3 h4 j => ?_⟩
    rw [q_up_ne h4, q_up_ne h3, q_up_ne h3, if_neg (by omega)]
  generalize q_up (q_up (q_up M 112 80 ((1500 * k : Nat) : Int)) 112 81 1) 146 0 z45 = M1 at f1
  obtain ⟨a1, a2, a3, a4, a5⟩ := id f1
  refine c_V1v (d' := d - 1) dX11_carriesAll_29 l_X11_633 k_X11_carryRow i_X11_carryRow (Or.inl ⟨_, _, _, _, _, (by first | with_reducible assumption | rfl), by rfl⟩) (by omega) (Nat.le_of_ble_eq_true rfl) (C_carryB (n := 1) (a := 1500 * k + 0) sh_146 (by omega) (by decide) (by decide) a1 a2 (by omega)) (fun M2 N2 hx => ?_)
  obtain ⟨rfl, r2⟩ := hx
  have e165 : M1 165 (1500 * k) = M 165 (1500 * k) := by rw [a5 165 (by decide) (by decide)]; exact if_neg (by show ¬ (0 + 0 ≤ 0 ∧ 1500 * k < 0); omega)
  have e146 : M2 146 0 = M 165 (1500 * k) := by rw [r2, q_up_ne (by decide), ← e165]; simp [q_cp]
  refine st_aload_n dX11_carriesAll_32 rfl ?_
  refine st_aload_n dX11_carriesAll_33 rfl ?_
  refine st_getfr dX11_carriesAll_34 f_X11_116 (by first | with_reducible assumption | rfl) (by rfl) ?_
  refine st_iconst dX11_carriesAll_37 ?_
  refine st_ialdK (k' := 0) dX11_carriesAll_38 (by first | with_reducible assumption | rfl) rfl (by omega) (hn := by first | decide | omega) ?_
  rw [e146]
  refine st_putfi dX11_carriesAll_39 w_X11_357 (by first | with_reducible assumption | rfl) (by rfl) rfl rfl ?_
  refine st_aload_n dX11_carriesAll_42 rfl ?_
  refine st_aload_n dX11_carriesAll_43 rfl ?_
  refine st_getfr dX11_carriesAll_44 f_X11_9 (by first | with_reducible assumption | rfl) (by rfl) ?_
  have f3 : BwI M (q_up M2 112 45 (M 165 (1500 * k))) (1500 * k) 1 := by
    subst r2
    refine ⟨by simp [q_up], by simp [q_up, q_cp, a2], fun j j1 j2 j3 => ?_, fun _ => by simp [q_up], fun a h3 h4 j => ?_⟩
    · rw [← a3 j j1 j2 j3]; simp [q_up, q_cp, j1, j3]
    · rw [q_up_ne h3, q_up_ne h3, show q_cp M1 165 146 (1500 * k + 0) 0 1 a j = M1 a j by simp [q_cp, h4], a5 a h3 h4, if_neg (by omega)]
      rw [if_neg]
      have c := ofR_cs a
      intro z
      rcases c with ⟨q, e⟩ | ⟨q, e⟩ | ⟨q, e⟩ | ⟨q, e⟩ | ⟨q, e⟩ | ⟨q, e⟩ | ⟨q, e⟩ | ⟨q, e⟩ | ⟨q, e⟩ | ⟨q, e⟩ | ⟨q, e⟩ | ⟨q, e⟩ | ⟨q, e⟩ | e
      all_goals
        rw [e] at z
        simp only at z
        omega
  generalize q_up M2 112 45 (M 165 (1500 * k)) = M3 at f3
  refine c_V1v (d' := d - 1) dX11_carriesAll_47 l_X11_633 k_X11_carryRow i_X11_carryRow (Or.inl ⟨_, _, _, _, _, (by first | with_reducible assumption | rfl), by rfl⟩) (by omega) (Nat.le_of_ble_eq_true rfl) (C_carryB (n := 9) (a := 1500 * k + 1) sh_113 (by omega) (by decide) (by decide) f3.1 f3.2.1 (by omega)) (fun M4 N4 hx => ?_)
  obtain ⟨rfl, r4⟩ := hx
  have f4 := BwI.step (r := 113) (n := 9) f3 (by decide) rfl (by decide) (ofR_dis 113 rfl (by decide)) r4
  refine st_aload_n dX11_carriesAll_50 rfl ?_
  refine st_aload_n dX11_carriesAll_51 rfl ?_
  refine st_getfr dX11_carriesAll_52 f_X11_13 (by first | with_reducible assumption | rfl) (by rfl) ?_
  refine c_V1v (d' := d - 1) dX11_carriesAll_55 l_X11_633 k_X11_carryRow i_X11_carryRow (Or.inl ⟨_, _, _, _, _, (by first | with_reducible assumption | rfl), by rfl⟩) (by omega) (Nat.le_of_ble_eq_true rfl) (C_carryB (n := 7) (a := 1500 * k + 10) sh_114 (by omega) (by decide) (by decide) f4.1 f4.2.1 (by omega)) (fun M5 N5 hx => ?_)
  obtain ⟨rfl, r5⟩ := hx
  have f5 := BwI.step (r := 114) (n := 7) f4 (by decide) rfl (by decide) (ofR_dis 114 rfl (by decide)) r5
  refine st_aload_n dX11_carriesAll_58 rfl ?_
  refine st_aload_n dX11_carriesAll_59 rfl ?_
  refine st_getfr dX11_carriesAll_60 f_X11_16 (by first | with_reducible assumption | rfl) (by rfl) ?_
  refine c_V1v (d' := d - 1) dX11_carriesAll_63 l_X11_633 k_X11_carryRow i_X11_carryRow (Or.inl ⟨_, _, _, _, _, (by first | with_reducible assumption | rfl), by rfl⟩) (by omega) (Nat.le_of_ble_eq_true rfl) (C_carryB (n := 7) (a := 1500 * k + 17) sh_115 (by omega) (by decide) (by decide) f5.1 f5.2.1 (by omega)) (fun M6 N6 hx => ?_)
  obtain ⟨rfl, r6⟩ := hx
  have f6 := BwI.step (r := 115) (n := 7) f5 (by decide) rfl (by decide) (ofR_dis 115 rfl (by decide)) r6
  refine st_aload_n dX11_carriesAll_66 rfl ?_
  refine st_aload_n dX11_carriesAll_67 rfl ?_
  refine st_getfr dX11_carriesAll_68 f_X11_19 (by first | with_reducible assumption | rfl) (by rfl) ?_
  refine c_V1v (d' := d - 1) dX11_carriesAll_71 l_X11_633 k_X11_carryRow i_X11_carryRow (Or.inl ⟨_, _, _, _, _, (by first | with_reducible assumption | rfl), by rfl⟩) (by omega) (Nat.le_of_ble_eq_true rfl) (C_carryB (n := 7) (a := 1500 * k + 24) sh_116 (by omega) (by decide) (by decide) f6.1 f6.2.1 (by omega)) (fun M7 N7 hx => ?_)
  obtain ⟨rfl, r7⟩ := hx
  have f7 := BwI.step (r := 116) (n := 7) f6 (by decide) rfl (by decide) (ofR_dis 116 rfl (by decide)) r7
  refine st_aload_n dX11_carriesAll_74 rfl ?_
  refine st_aload_n dX11_carriesAll_75 rfl ?_
  refine st_getfr dX11_carriesAll_76 f_X11_22 (by first | with_reducible assumption | rfl) (by rfl) ?_
  refine c_V1v (d' := d - 1) dX11_carriesAll_79 l_X11_633 k_X11_carryRow i_X11_carryRow (Or.inl ⟨_, _, _, _, _, (by first | with_reducible assumption | rfl), by rfl⟩) (by omega) (Nat.le_of_ble_eq_true rfl) (C_carryB (n := 42) (a := 1500 * k + 31) sh_117 (by omega) (by decide) (by decide) f7.1 f7.2.1 (by omega)) (fun M8 N8 hx => ?_)
  obtain ⟨rfl, r8⟩ := hx
  have f8 := BwI.step (r := 117) (n := 42) f7 (by decide) rfl (by decide) (ofR_dis 117 rfl (by decide)) r8
  refine st_aload_n dX11_carriesAll_82 rfl ?_
  refine st_aload_n dX11_carriesAll_83 rfl ?_
  refine st_getfr dX11_carriesAll_84 f_X11_25 (by first | with_reducible assumption | rfl) (by rfl) ?_
  refine c_V1v (d' := d - 1) dX11_carriesAll_87 l_X11_633 k_X11_carryRow i_X11_carryRow (Or.inl ⟨_, _, _, _, _, (by first | with_reducible assumption | rfl), by rfl⟩) (by omega) (Nat.le_of_ble_eq_true rfl) (C_carryB (n := 7) (a := 1500 * k + 73) sh_118 (by omega) (by decide) (by decide) f8.1 f8.2.1 (by omega)) (fun M9 N9 hx => ?_)
  obtain ⟨rfl, r9⟩ := hx
  have f9 := BwI.step (r := 118) (n := 7) f8 (by decide) rfl (by decide) (ofR_dis 118 rfl (by decide)) r9
  refine st_aload_n dX11_carriesAll_90 rfl ?_
  refine st_aload_n dX11_carriesAll_91 rfl ?_
  refine st_getfr dX11_carriesAll_92 f_X11_28 (by first | with_reducible assumption | rfl) (by rfl) ?_
  refine c_V1v (d' := d - 1) dX11_carriesAll_95 l_X11_633 k_X11_carryRow i_X11_carryRow (Or.inl ⟨_, _, _, _, _, (by first | with_reducible assumption | rfl), by rfl⟩) (by omega) (Nat.le_of_ble_eq_true rfl) (C_carryB (n := 3) (a := 1500 * k + 80) sh_119 (by omega) (by decide) (by decide) f9.1 f9.2.1 (by omega)) (fun M10 N10 hx => ?_)
  obtain ⟨rfl, r10⟩ := hx
  have f10 := BwI.step (r := 119) (n := 3) f9 (by decide) rfl (by decide) (ofR_dis 119 rfl (by decide)) r10
  refine st_aload_n dX11_carriesAll_98 rfl ?_
  refine st_aload_n dX11_carriesAll_99 rfl ?_
  refine st_getfr dX11_carriesAll_100 f_X11_31 (by first | with_reducible assumption | rfl) (by rfl) ?_
  refine c_V1v (d' := d - 1) dX11_carriesAll_103 l_X11_633 k_X11_carryRow i_X11_carryRow (Or.inl ⟨_, _, _, _, _, (by first | with_reducible assumption | rfl), by rfl⟩) (by omega) (Nat.le_of_ble_eq_true rfl) (C_carryB (n := 3) (a := 1500 * k + 83) sh_120 (by omega) (by decide) (by decide) f10.1 f10.2.1 (by omega)) (fun M11 N11 hx => ?_)
  obtain ⟨rfl, r11⟩ := hx
  have f11 := BwI.step (r := 120) (n := 3) f10 (by decide) rfl (by decide) (ofR_dis 120 rfl (by decide)) r11
  refine st_aload_n dX11_carriesAll_106 rfl ?_
  refine st_aload_n dX11_carriesAll_107 rfl ?_
  refine st_getfr dX11_carriesAll_108 f_X11_34 (by first | with_reducible assumption | rfl) (by rfl) ?_
  refine c_V1v (d' := d - 1) dX11_carriesAll_111 l_X11_633 k_X11_carryRow i_X11_carryRow (Or.inl ⟨_, _, _, _, _, (by first | with_reducible assumption | rfl), by rfl⟩) (by omega) (Nat.le_of_ble_eq_true rfl) (C_carryB (n := 3) (a := 1500 * k + 86) sh_121 (by omega) (by decide) (by decide) f11.1 f11.2.1 (by omega)) (fun M12 N12 hx => ?_)
  obtain ⟨rfl, r12⟩ := hx
  have f12 := BwI.step (r := 121) (n := 3) f11 (by decide) rfl (by decide) (ofR_dis 121 rfl (by decide)) r12
  refine st_aload_n dX11_carriesAll_114 rfl ?_
  refine st_aload_n dX11_carriesAll_115 rfl ?_
  refine st_getfr dX11_carriesAll_116 f_X11_37 (by first | with_reducible assumption | rfl) (by rfl) ?_
  refine c_V1v (d' := d - 1) dX11_carriesAll_119 l_X11_633 k_X11_carryRow i_X11_carryRow (Or.inl ⟨_, _, _, _, _, (by first | with_reducible assumption | rfl), by rfl⟩) (by omega) (Nat.le_of_ble_eq_true rfl) (C_carryB (n := 8) (a := 1500 * k + 89) sh_122 (by omega) (by decide) (by decide) f12.1 f12.2.1 (by omega)) (fun M13 N13 hx => ?_)
  obtain ⟨rfl, r13⟩ := hx
  have f13 := BwI.step (r := 122) (n := 8) f12 (by decide) rfl (by decide) (ofR_dis 122 rfl (by decide)) r13
  refine st_aload_n dX11_carriesAll_122 rfl ?_
  refine st_aload_n dX11_carriesAll_123 rfl ?_
  refine st_getfr dX11_carriesAll_124 f_X11_40 (by first | with_reducible assumption | rfl) (by rfl) ?_
  refine c_V1v (d' := d - 1) dX11_carriesAll_127 l_X11_633 k_X11_carryRow i_X11_carryRow (Or.inl ⟨_, _, _, _, _, (by first | with_reducible assumption | rfl), by rfl⟩) (by omega) (Nat.le_of_ble_eq_true rfl) (C_carryB (n := 8) (a := 1500 * k + 97) sh_123 (by omega) (by decide) (by decide) f13.1 f13.2.1 (by omega)) (fun M14 N14 hx => ?_)
  obtain ⟨rfl, r14⟩ := hx
  have f14 := BwI.step (r := 123) (n := 8) f13 (by decide) rfl (by decide) (ofR_dis 123 rfl (by decide)) r14
  refine st_aload_n dX11_carriesAll_130 rfl ?_
  refine st_aload_n dX11_carriesAll_131 rfl ?_
  refine st_getfr dX11_carriesAll_132 f_X11_43 (by first | with_reducible assumption | rfl) (by rfl) ?_
  refine c_V1v (d' := d - 1) dX11_carriesAll_135 l_X11_633 k_X11_carryRow i_X11_carryRow (Or.inl ⟨_, _, _, _, _, (by first | with_reducible assumption | rfl), by rfl⟩) (by omega) (Nat.le_of_ble_eq_true rfl) (C_carryB (n := 8) (a := 1500 * k + 105) sh_124 (by omega) (by decide) (by decide) f14.1 f14.2.1 (by omega)) (fun M15 N15 hx => ?_)
  obtain ⟨rfl, r15⟩ := hx
  have f15 := BwI.step (r := 124) (n := 8) f14 (by decide) rfl (by decide) (ofR_dis 124 rfl (by decide)) r15
  refine st_aload_n dX11_carriesAll_138 rfl ?_
  refine st_aload_n dX11_carriesAll_139 rfl ?_
  refine st_getfr dX11_carriesAll_140 f_X11_113 (by first | with_reducible assumption | rfl) (by rfl) ?_
  refine c_V1v (d' := d - 1) dX11_carriesAll_143 l_X11_633 k_X11_carryRow i_X11_carryRow (Or.inl ⟨_, _, _, _, _, (by first | with_reducible assumption | rfl), by rfl⟩) (by omega) (Nat.le_of_ble_eq_true rfl) (C_carryB (n := 1260) (a := 1500 * k + 113) sh_145 (by omega) (by decide) (by decide) f15.1 f15.2.1 (by omega)) (fun M16 N16 hx => ?_)
  obtain ⟨rfl, r16⟩ := hx
  have f16 := BwI.step (r := 145) (n := 1260) f15 (by decide) rfl (by decide) (ofR_dis 145 rfl (by decide)) r16
  exact r_v dX11_carriesAll_146 rfl ⟨rfl, f16⟩
/-- the rows that a question of the reference may use -/
def qX : List Nat := [112, 113, 114, 115, 116, 117, 118, 119, 120, 121, 122, 123, 124, 139, 143, 144, 145, 146, 147, 149, 150, 151, 152, 153, 155, 156, 157, 158, 159, 160, 161, 162, 163, 164, 165]
/-- all of the reference's state is as it was -/
def Qk (M M' : q_Mem) : Prop := Exc qX M M' ∧ (∀ a j, j < (ofR a).2 → M' a j = M a j) ∧ (∀ j, j ∈ [20, 24, 29, 45] → M' 112 j = M 112 j) ∧ ∀ j, j < 6000 → M' 165 j = M 165 j
theorem Qk.rf {M : q_Mem} : Qk M M := ⟨Exc.rf, fun _ _ _ => rfl, fun _ _ => rfl, fun _ _ => rfl⟩
theorem Qk.tr {M M1 M2 : q_Mem} (h : Qk M M1) (h2 : Qk M1 M2) : Qk M M2 := ⟨h.1.tr h2.1, fun a j hj => (h2.2.1 a j hj).trans (h.2.1 a j hj), fun j hj => (h2.2.2.1 j hj).trans (h.2.2.1 j hj), fun j hj => (h2.2.2.2 j hj).trans (h.2.2.2 j hj)⟩
/-- scratch rows alone -/
def scX : List Nat := [139, 143, 144, 147, 149, 150, 151, 152, 153, 155, 156, 157, 158, 159, 160, 161, 162, 163, 164]
theorem Qk.sc {X : List Nat} {M M' : q_Mem} (h : Exc X M M') (hX : ∀ a, a ∈ X → a ∈ scX) : Qk M M' := by
  have f : ∀ a, a ∉ scX → M' a = M a := fun a ha => h a (fun z => ha (hX a z))
  refine ⟨fun a ha => f a (fun z => ha ?_), fun a j hj => ?_, fun j _ => by rw [f 112 (by decide)], fun j _ => by rw [f 165 (by decide)]⟩
  · simp only [scX, qX, List.mem_cons, List.not_mem_nil, or_false] at z ⊢
    omega
  · rcases ofR_cs a with ⟨q, e⟩ | ⟨q, e⟩ | ⟨q, e⟩ | ⟨q, e⟩ | ⟨q, e⟩ | ⟨q, e⟩ | ⟨q, e⟩ | ⟨q, e⟩ | ⟨q, e⟩ | ⟨q, e⟩ | ⟨q, e⟩ | ⟨q, e⟩ | ⟨q, e⟩ | e
    all_goals first | (rw [q, f _ (by decide)]) | (rw [e] at hj; exact absurd hj (by simp))
theorem C_keepsAll {G : q_G} {d : Nat} {M : q_Mem} {N : q_MemL} (hd : 2 ≤ d) : AC0 G d m_X11_keepsAll [.ref 112] M N (CN (fun M' N' => N' = N ∧ FwI M M' 6000 1373)) := by
  refine AC.of (L0 := [_]) pn_X11 (Nat.le_of_ble_eq_true rfl) rfl ?_
  refine st_aload_n dX11_keepsAll_0 rfl ?_
  refine st_iconst dX11_keepsAll_1 ?_
  refine st_iconst dX11_keepsAll_2 ?_
  refine c_V2v (d' := d - 1) dX11_keepsAll_3 l_X11_480 k_X11_carriesAll i_X11_carriesAll (Or.inl ⟨_, _, _, _, _, (by first | with_reducible assumption | rfl), by rfl⟩) (by omega) (Nat.le_of_ble_eq_true rfl) (C_carriesF (k := 4) (by omega) (by omega)) (fun M2 N2 hx => ?_)
  obtain ⟨rfl, hF⟩ := hx
  exact r_v dX11_keepsAll_6 rfl ⟨rfl, hF⟩
theorem C_laysBack {G : q_G} {d : Nat} {M : q_Mem} {N : q_MemL} (hd : 2 ≤ d) : AC0 G d m_X11_laysBack [.ref 112] M N (CN (fun M' N' => N' = N ∧ BwI M M' 6000 1373)) := by
  refine AC.of (L0 := [_]) pn_X11 (Nat.le_of_ble_eq_true rfl) rfl ?_
  refine st_aload_n dX11_laysBack_0 rfl ?_
  refine st_iconst dX11_laysBack_1 ?_
  refine st_iconst dX11_laysBack_2 ?_
  refine c_V2v (d' := d - 1) dX11_laysBack_3 l_X11_480 k_X11_carriesAll i_X11_carriesAll (Or.inl ⟨_, _, _, _, _, (by first | with_reducible assumption | rfl), by rfl⟩) (by omega) (Nat.le_of_ble_eq_true rfl) (C_carriesB (k := 4) (by omega) (by omega)) (fun M2 N2 hx => ?_)
  obtain ⟨rfl, hF⟩ := hx
  exact r_v dX11_laysBack_6 rfl ⟨rfl, hF⟩
/-- kept, changed, and laid back -/
theorem FwI.back {X : List Nat} {M M1 M2 M3 : q_Mem} (h1 : FwI M M1 6000 1373) (h2 : Exc X M1 M2) (h3 : BwI M2 M3 6000 1373) (hX : ∀ a, a ∈ X → a ∈ qX) (h165 : 165 ∉ X) (h112 : ∀ j, j ∈ [20, 24, 29] → M2 112 j = M1 112 j) : Qk M M3 := by
  obtain ⟨a1, a2, a3, a4, a5⟩ := h1
  have b1 := h3.exc
  obtain ⟨b2, b3, b4, b5, b6⟩ := h3
  have e165 : M2 165 = M1 165 := h2 165 h165
  refine ⟨fun a ha => ?_, fun a j hj => ?_, fun j hj => ?_, fun j hj => ?_⟩
  · rw [b1 a (fun z => ha ?_), h2 a (fun z => ha (hX a z)), a1 a (fun z => ha ?_)]
    · simp only [qX, List.mem_cons, List.not_mem_nil, or_false] at z ⊢
      omega
    · simp only [qX, List.mem_cons, List.not_mem_nil, or_false] at z ⊢
      omega
  · have hlen : (ofR a).1 + (ofR a).2 ≤ 1373 ∧ ¬ a = 112 ∧ ¬ a = 146 := by
      rcases ofR_cs a with ⟨q, e⟩ | ⟨q, e⟩ | ⟨q, e⟩ | ⟨q, e⟩ | ⟨q, e⟩ | ⟨q, e⟩ | ⟨q, e⟩ | ⟨q, e⟩ | ⟨q, e⟩ | ⟨q, e⟩ | ⟨q, e⟩ | ⟨q, e⟩ | ⟨q, e⟩ | e
      all_goals rw [e] at hj ⊢
      all_goals first | (simp only at hj ⊢; omega) | exact absurd hj (by simp)
    rw [b6 a hlen.2.1 hlen.2.2 j, if_pos ⟨hlen.1, hj⟩, e165, a5, if_pos (by omega), show 6000 + (ofR a).1 + j - 6000 = (ofR a).1 + j by omega]
    exact linO_row M hj
  · simp only [List.mem_cons, List.not_mem_nil, or_false] at hj
    by_cases e : j = 45
    · rw [e, b5 (by omega), e165, a5, if_pos (by omega)]
      rfl
    · rw [b4 j (by omega) (by omega) e, h112 j (by simp; omega), a2 j (by omega) (by omega)]
  · rw [b1 165 (by decide), e165, a5, if_neg (by omega)]
/-- behind keeping the state is as it was -/
theorem FwI.rf {M M1 : q_Mem} {base : Nat} (h1 : FwI M M1 base 1373) : Exc [112, 146, 165] M M1 := h1.1
theorem RN.qk {B M M' : q_Mem} (h : RN B M) (hq : ∀ a j, j < (ofR a).2 → M' a j = M a j) : RN B M' := by
  obtain ⟨hB, ⟨⟨t0, t1, t2, t3, t4, t5, t7⟩, ts, tp, tt, te⟩, ⟨p1, p2⟩, ⟨w1, w2⟩, hb6⟩ := h
  obtain ⟨h0, h1, h2, h3, h4, h5, h6, h11, h12, h13, h15, h17, h18, -⟩ := id hB
  have c : ∀ j, j < 9 → M' 113 j = M 113 j := fun j hj => hq 113 j hj
  refine ⟨hB, ⟨⟨?_, ?_, ?_, ?_, ?_, ?_, ?_⟩, fun s hs => ?_, fun q hq2 => ⟨fun h hh => ?_, ?_⟩, fun t ht => ?_, fun e he => ⟨?_, ?_, ?_⟩⟩, ⟨fun q hq2 => ?_, fun t ht => ?_⟩, ⟨fun q hq2 => ?_, fun t ht => ?_⟩, ?_⟩
  · rw [c 0 (by decide)]; exact t0
  · rw [c 1 (by decide)]; exact t1
  · rw [c 2 (by decide)]; exact t2
  · rw [c 3 (by decide)]; exact t3
  · rw [c 4 (by decide)]; exact t4
  · rw [c 5 (by decide)]; exact t5
  · rw [c 7 (by decide)]; exact t7
  · rw [← ts s hs]; exact hsum_congr (fun j hj => hq 114 j (by show j < 7; omega))
  · rw [hq 117 _ (by show 6 * q + h < 42; omega)]; exact (tp q hq2).1 h hh
  · rw [hq 118 _ (by show q < 7; omega)]; exact (tp q hq2).2
  · rw [hq 121 _ (by show t < 3; omega)]; exact tt t ht
  · rw [hq 122 _ (by show e < 8; omega)]; exact (te e he).1
  · rw [hq 123 _ (by show e < 8; omega)]; exact (te e he).2.1
  · rw [hq 124 _ (by show e < 8; omega)]; exact (te e he).2.2
  · rw [hq 115 _ (by show q < 7; omega)]; exact p1 q hq2
  · rw [hq 119 _ (by show t < 3; omega)]; exact p2 t ht
  · rw [hq 116 _ (by show q < 7; omega)]; exact w1 q hq2
  · rw [hq 120 _ (by show t < 3; omega)]; exact w2 t ht
  · rw [c 6 (by decide)]; exact hb6


/-! the lowest bit; an empty home -/
def tzF : Nat → Nat → Nat
  | 0, _ => 0
  | n + 1, s => if s % 2 = 1 then 0 else tzF n (s / 2) + 1
theorem tz_msk : ∀ s : Nat, s < 128 → 0 < s → (zi s ^^^ zi (-1)) &&& zi ((s : Int) - 1) = zi ((2 ^ tzF 7 s - 1 : Nat) : Int) := by decide +kernel
theorem tz_cs : ∀ s : Nat, s < 128 → 0 < s → (tzF 7 s = 0 ∨ tzF 7 s = 1 ∨ tzF 7 s = 2 ∨ tzF 7 s = 3 ∨ tzF 7 s = 4 ∨ tzF 7 s = 5 ∨ tzF 7 s = 6) := by decide +kernel
theorem tz_tk {t k : Nat} (ht : t = 2 ^ k - 1) (hk : k = 0 ∨ k = 1 ∨ k = 2 ∨ k = 3 ∨ k = 4 ∨ k = 5 ∨ k = 6) : (t = 0 ∧ k = 0) ∨ (t = 1 ∧ k = 1) ∨ (t = 3 ∧ k = 2) ∨ (t = 7 ∧ k = 3) ∨ (t = 15 ∧ k = 4) ∨ (t = 31 ∧ k = 5) ∨ (t = 63 ∧ k = 6) := by
  rcases hk with rfl | rfl | rfl | rfl | rfl | rfl | rfl <;> subst ht <;> decide
theorem C_ntz {G : q_G} {d : Nat} {M : q_Mem} {N : q_MemL} {s : Nat} (hs : s < 128) (h0 : 0 < s) : AC0 G d m_J6_numberOfTrailingZeros_0f7a4 [I s] M N (CV (PU (I (tzF 7 s : Nat)) M N)) := by
  have htk := tz_tk (t := 2 ^ tzF 7 s - 1) rfl (tz_cs s hs h0)
  have hm := tz_msk s hs h0
  generalize 2 ^ tzF 7 s - 1 = t at htk hm
  generalize tzF 7 s = k at htk ⊢
  refine AC.of (L0 := [_, none]) pn_J6 (Nat.le_of_ble_eq_true rfl) rfl ?_
  refine st_iload_n dJ6_numberOfTrailingZeros_0f7a4_0 rfl ?_
  refine st_iconst dJ6_numberOfTrailingZeros_0f7a4_1 ?_
  refine st_ixor dJ6_numberOfTrailingZeros_0f7a4_2 ?_
  refine st_iload_n dJ6_numberOfTrailingZeros_0f7a4_3 rfl ?_
  refine st_iconst dJ6_numberOfTrailingZeros_0f7a4_4 ?_
  refine st_isub dJ6_numberOfTrailingZeros_0f7a4_5 ?_
  refine st_iand dJ6_numberOfTrailingZeros_0f7a4_6 ?_
  refine AW.top hm ?_
  refine st_istore_n (L' := [_, _]) dJ6_numberOfTrailingZeros_0f7a4_7 (by decide) rfl rfl ?_
  refine st_iload_n dJ6_numberOfTrailingZeros_0f7a4_8 rfl ?_
  refine st_if_gt (tgt := 17) dJ6_numberOfTrailingZeros_0f7a4_9 (by omega) rfl (fun h1 => ?_) (fun h1 => ?_)
  · refine st_iconst dJ6_numberOfTrailingZeros_0f7a4_17 ?_
    refine st_istore_n (L' := [_, _]) dJ6_numberOfTrailingZeros_0f7a4_18 (by decide) rfl rfl ?_
    refine st_iload_n dJ6_numberOfTrailingZeros_0f7a4_19 rfl ?_
    refine st_ldcw dJ6_numberOfTrailingZeros_0f7a4_20 l_J6_264 ?_
    refine st_icmp_le (tgt := 34) dJ6_numberOfTrailingZeros_0f7a4_23 (by omega) (by omega) rfl (fun h2 => ?_) (fun h2 => ?_)
    · refine st_iload_n dJ6_numberOfTrailingZeros_0f7a4_34 rfl ?_
      refine st_sipush dJ6_numberOfTrailingZeros_0f7a4_35 (by decide) ?_
      refine st_icmp_le (tgt := 49) dJ6_numberOfTrailingZeros_0f7a4_38 (by omega) (by omega) rfl (fun h3 => ?_) (fun h3 => ?_)
      · refine st_iload_n dJ6_numberOfTrailingZeros_0f7a4_49 rfl ?_
        refine st_bipush dJ6_numberOfTrailingZeros_0f7a4_50 (by decide) ?_
        refine st_icmp_le (tgt := 62) dJ6_numberOfTrailingZeros_0f7a4_52 (by omega) (by omega) rfl (fun h4 => ?_) (fun h4 => ?_)
        · refine st_iload_n dJ6_numberOfTrailingZeros_0f7a4_62 rfl ?_
          refine st_iconst dJ6_numberOfTrailingZeros_0f7a4_63 ?_
          refine st_icmp_le (tgt := 74) dJ6_numberOfTrailingZeros_0f7a4_64 (by omega) (by omega) rfl (fun h5 => ?_) (fun h5 => ?_)
          · refine st_iload_n dJ6_numberOfTrailingZeros_0f7a4_74 rfl ?_
            refine st_iload_n dJ6_numberOfTrailingZeros_0f7a4_75 rfl ?_
            refine st_iconst dJ6_numberOfTrailingZeros_0f7a4_76 ?_
            refine st_iushr dJ6_numberOfTrailingZeros_0f7a4_77 ?_
            refine AW.top (z_us (k := 1) rfl (by omega) (by omega)) ?_
            refine st_iadd dJ6_numberOfTrailingZeros_0f7a4_78 ?_
            exact r_i dJ6_numberOfTrailingZeros_0f7a4_79 rfl ⟨by rw [show (1 : Int) + ((t / 2 ^ 1 : Nat) : Int) = (k : Int) by omega], rfl, rfl⟩
          · refine st_iinc (L' := [_, _]) dJ6_numberOfTrailingZeros_0f7a4_67 rfl (by decide) rfl rfl ?_
            refine st_iload_n dJ6_numberOfTrailingZeros_0f7a4_70 rfl ?_
            refine st_iconst dJ6_numberOfTrailingZeros_0f7a4_71 ?_
            refine st_iushr dJ6_numberOfTrailingZeros_0f7a4_72 ?_
            refine AW.top (z_us (k := 2) rfl (by omega) (by omega)) ?_
            refine st_istore_n (L' := [_, _]) dJ6_numberOfTrailingZeros_0f7a4_73 (by decide) rfl rfl ?_
            refine st_iload_n dJ6_numberOfTrailingZeros_0f7a4_74 rfl ?_
            refine st_iload_n dJ6_numberOfTrailingZeros_0f7a4_75 rfl ?_
            refine st_iconst dJ6_numberOfTrailingZeros_0f7a4_76 ?_
            refine st_iushr dJ6_numberOfTrailingZeros_0f7a4_77 ?_
            refine AW.top (z_us (k := 1) rfl (by omega) (by omega)) ?_
            refine st_iadd dJ6_numberOfTrailingZeros_0f7a4_78 ?_
            exact r_i dJ6_numberOfTrailingZeros_0f7a4_79 rfl ⟨by rw [show (1 : Int) + 2 + ((t / 2 ^ 2 / 2 ^ 1 : Nat) : Int) = (k : Int) by omega], rfl, rfl⟩
        · refine st_iinc (L' := [_, _]) dJ6_numberOfTrailingZeros_0f7a4_55 rfl (by decide) rfl rfl ?_
          refine st_iload_n dJ6_numberOfTrailingZeros_0f7a4_58 rfl ?_
          refine st_iconst dJ6_numberOfTrailingZeros_0f7a4_59 ?_
          refine st_iushr dJ6_numberOfTrailingZeros_0f7a4_60 ?_
          refine AW.top (z_us (k := 4) rfl (by omega) (by omega)) ?_
          refine st_istore_n (L' := [_, _]) dJ6_numberOfTrailingZeros_0f7a4_61 (by decide) rfl rfl ?_
          refine st_iload_n dJ6_numberOfTrailingZeros_0f7a4_62 rfl ?_
          refine st_iconst dJ6_numberOfTrailingZeros_0f7a4_63 ?_
          refine st_icmp_le (tgt := 74) dJ6_numberOfTrailingZeros_0f7a4_64 (by omega) (by omega) rfl (fun h5 => ?_) (fun h5 => ?_)
          · refine st_iload_n dJ6_numberOfTrailingZeros_0f7a4_74 rfl ?_
            refine st_iload_n dJ6_numberOfTrailingZeros_0f7a4_75 rfl ?_
            refine st_iconst dJ6_numberOfTrailingZeros_0f7a4_76 ?_
            refine st_iushr dJ6_numberOfTrailingZeros_0f7a4_77 ?_
            refine AW.top (z_us (k := 1) rfl (by omega) (by omega)) ?_
            refine st_iadd dJ6_numberOfTrailingZeros_0f7a4_78 ?_
            exact r_i dJ6_numberOfTrailingZeros_0f7a4_79 rfl ⟨by rw [show (1 : Int) + 4 + ((t / 2 ^ 4 / 2 ^ 1 : Nat) : Int) = (k : Int) by omega], rfl, rfl⟩
          · skip
            omega
      · skip
        omega
    · skip
      omega
  · refine st_iload_n dJ6_numberOfTrailingZeros_0f7a4_12 rfl ?_
    refine st_bipush dJ6_numberOfTrailingZeros_0f7a4_13 (by decide) ?_
    refine st_iand dJ6_numberOfTrailingZeros_0f7a4_15 ?_
    refine AW.topv (show _ = I (k : Int) from congrArg Value.int (by rw [show ((t : Nat) : Int) = 0 by omega, show ((k : Nat) : Int) = 0 by omega]; decide)) ?_
    exact r_i dJ6_numberOfTrailingZeros_0f7a4_16 rfl ⟨rfl, rfl, rfl⟩
/-- an empty home at a -/
def emH (M : q_Mem) (a : Nat) : q_Mem := fun a' j => if a' = a ∧ j ∈ [0, 1, 2, 3, 4, 5, 6, 11, 12, 13, 15, 17, 18] then 0 else if (a' = a + 1 ∧ j < 8) ∨ (a' = a + 2 ∧ j < 7) ∨ (a' = a + 3 ∧ j < 3) ∨ (a' = a + 4 ∧ j < 42) then 0 else M a' j
theorem C_empty {G : q_G} {d : Nat} {M : q_Mem} {N : q_MemL} {a : Nat} (ha : isHome a) (hd : 1 ≤ d) : AC0 G d m_X2_empty [.ref a] M N (CN (fun M' N' => N' = N ∧ M' = emH M a)) := by
  have hS := sh_home ha
  have s1 := sh_home1 ha
  have s2 := sh_home2 ha
  have s3 := sh_home3 ha
  have s4 := sh_home4 ha
  refine AC.of (L0 := [_]) pn_X2 (Nat.le_of_ble_eq_true rfl) rfl ?_
  refine st_aload_n dX2_empty_0 rfl ?_
  refine st_iconst dX2_empty_1 ?_
  refine st_putfi dX2_empty_2 w_X2_30 (by first | assumption | rfl) (by rfl) (by first | rfl | (split <;> rfl) | assumption) (by first | rfl | assumption) ?_
  refine st_aload_n dX2_empty_5 rfl ?_
  refine st_iconst dX2_empty_6 ?_
  refine st_putfi dX2_empty_7 w_X2_34 (by first | assumption | rfl) (by rfl) rfl rfl ?_
  refine st_aload_n dX2_empty_10 rfl ?_
  refine st_iconst dX2_empty_11 ?_
  refine st_putfi dX2_empty_12 w_X2_38 (by first | assumption | rfl) (by rfl) rfl rfl ?_
  refine st_aload_n dX2_empty_15 rfl ?_
  refine st_iconst dX2_empty_16 ?_
  refine st_putfi dX2_empty_17 w_X2_41 (by first | assumption | rfl) (by rfl) rfl rfl ?_
  refine st_aload_n dX2_empty_20 rfl ?_
  refine st_iconst dX2_empty_21 ?_
  refine st_putfi dX2_empty_22 w_X2_44 (by first | assumption | rfl) (by rfl) rfl rfl ?_
  refine st_aload_n dX2_empty_25 rfl ?_
  refine st_iconst dX2_empty_26 ?_
  refine st_putfi dX2_empty_27 w_X2_47 (by first | assumption | rfl) (by rfl) rfl rfl ?_
  refine st_aload_n dX2_empty_30 rfl ?_
  refine st_iconst dX2_empty_31 ?_
  refine st_putfi dX2_empty_32 w_X2_50 (by first | assumption | rfl) (by rfl) rfl rfl ?_
  refine st_aload_n dX2_empty_35 rfl ?_
  refine st_getfr dX2_empty_36 f_X2_9 (by first | assumption | rfl) (by rfl) ?_
  refine st_iconst dX2_empty_39 ?_
  refine c_S2v (d' := d - 1) dX2_empty_40 l_X2_87 k_J7_fill_53178 s_J7_fill_53178 (by omega) (Nat.le_of_ble_eq_true rfl) (C_fill s1 (by decide)) (fun M1 N1 hx => ?_)
  obtain ⟨q1, r1⟩ := hx
  rw [q1]
  refine st_aload_n dX2_empty_43 rfl ?_
  refine st_getfr dX2_empty_44 f_X2_15 (by first | assumption | rfl) (by rfl) ?_
  refine st_iconst dX2_empty_47 ?_
  refine c_S2v (d' := d - 1) dX2_empty_48 l_X2_87 k_J7_fill_53178 s_J7_fill_53178 (by omega) (Nat.le_of_ble_eq_true rfl) (C_fill s2 (by decide)) (fun M2 N2 hx => ?_)
  obtain ⟨q2, r2⟩ := hx
  rw [q2]
  refine st_aload_n dX2_empty_51 rfl ?_
  refine st_getfr dX2_empty_52 f_X2_18 (by first | assumption | rfl) (by rfl) ?_
  refine st_iconst dX2_empty_55 ?_
  refine c_S2v (d' := d - 1) dX2_empty_56 l_X2_87 k_J7_fill_53178 s_J7_fill_53178 (by omega) (Nat.le_of_ble_eq_true rfl) (C_fill s3 (by decide)) (fun M3 N3 hx => ?_)
  obtain ⟨q3, r3⟩ := hx
  rw [q3]
  refine st_aload_n dX2_empty_59 rfl ?_
  refine st_getfr dX2_empty_60 f_X2_21 (by first | assumption | rfl) (by rfl) ?_
  refine st_iconst dX2_empty_63 ?_
  refine c_S2v (d' := d - 1) dX2_empty_64 l_X2_87 k_J7_fill_53178 s_J7_fill_53178 (by omega) (Nat.le_of_ble_eq_true rfl) (C_fill s4 (by decide)) (fun M4 N4 hx => ?_)
  obtain ⟨q4, r4⟩ := hx
  rw [q4]
  refine st_aload_n dX2_empty_67 rfl ?_
  refine st_iconst dX2_empty_68 ?_
  refine st_putfi dX2_empty_69 w_X2_57 (by first | assumption | rfl) (by rfl) rfl rfl ?_
  refine st_aload_n dX2_empty_72 rfl ?_
  refine st_iconst dX2_empty_73 ?_
  refine st_putfi dX2_empty_74 w_X2_60 (by first | assumption | rfl) (by rfl) rfl rfl ?_
  refine st_aload_n dX2_empty_77 rfl ?_
  refine st_iconst dX2_empty_78 ?_
  refine st_putfi dX2_empty_79 w_X2_63 (by first | assumption | rfl) (by rfl) rfl rfl ?_
  refine st_aload_n dX2_empty_82 rfl ?_
  refine st_iconst dX2_empty_83 ?_
  refine st_putfi dX2_empty_84 w_X2_66 (by first | assumption | rfl) (by rfl) rfl rfl ?_
  refine st_aload_n dX2_empty_87 rfl ?_
  refine st_iconst dX2_empty_88 ?_
  refine st_putfi dX2_empty_89 w_X2_69 (by first | assumption | rfl) (by rfl) rfl rfl ?_
  refine st_aload_n dX2_empty_92 rfl ?_
  refine st_iconst dX2_empty_93 ?_
  refine st_putfi dX2_empty_94 w_X2_72 (by first | assumption | rfl) (by rfl) rfl rfl ?_
  refine r_v dX2_empty_97 rfl ⟨rfl, ?_⟩
  rw [r4, r3, r2, r1]
  funext a' j
  unfold emH
  simp only [q_up]
  by_cases e0 : a' = a
  · subst e0
    have n1 : ¬ a' = a' + 1 := by omega
    have n2 : ¬ a' = a' + 2 := by omega
    have n3 : ¬ a' = a' + 3 := by omega
    have n4 : ¬ a' = a' + 4 := by omega
    simp only [n1, n2, n3, n4, false_and, or_self, if_false, true_and, List.mem_cons, List.not_mem_nil, or_false]
    repeat' split
    all_goals first | rfl | omega
  · simp only [e0, false_and, if_false]
    repeat' split
    all_goals first | rfl | omega


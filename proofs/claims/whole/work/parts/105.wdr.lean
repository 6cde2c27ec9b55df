/-! the reference: whether a word stands -/
theorem C_stood {G : q_G} {d : Nat} {M : q_Mem} {N : q_MemL} {n p i : Nat} (hd : 4 ≤ d) (hi : i < q_nS) (hn : M 112 20 = (n : Int)) (hn2 : n ≤ 400) (hp : M 112 21 = (p : Int)) (hp2 : p < 1000) (hb : ∀ j, j < n → -128 ≤ M 132 j ∧ M 132 j ≤ 127) : AC0 G d m_X11_stood [.ref 112, .ref (1000 + 2 * i)] M N (CV (PU (Bz (isWd (M 132) n p (chL i) = true)) M N)) := by
  have hi28 : i < 28 := hi
  have hle := q_len_le i hi28
  have hlen := chL_len hi
  have hlt := lets_le (M 132) n p
  -- the letters are compared
  have lp2 : ∀ (m k z : Nat) (l2 : Int), k + m = q_len.getD i 0 → (z = 0 ∧ ¬ isWd (M 132) n p (chL i) = true ∨ z = 1 ∧ lets (M 132) n p = (chL i).length ∧ mtB (M 132) n p (chL i) = mtB (M 132) n (p + k) ((chL i).drop k)) → AW0 G d m_X11_stood 63 [some (.ref 112), some (.ref (1000 + 2 * i)), some (I l2), some (I z), some (I k)] [] M N (CV (PU (Bz (isWd (M 132) n p (chL i) = true)) M N)) := by
    intro m
    induction m with
    | zero =>
      intro k z l2 hk hz
      refine st_iload dX11_stood_63 rfl ?_
      refine st_aload_n dX11_stood_65 rfl ?_
      refine c_V0p (d' := d - 1) dX11_stood_66 l_X11_234 k_J0_length_8abf5 i_J0_length_8abf5 (Or.inr ⟨_, (by first | with_reducible assumption | decide), rfl, rfl⟩) (by omega) (Nat.le_of_ble_eq_true rfl) (C_strlen (by omega) hi) ?_
      refine st_icmp_ge (tgt := 109) dX11_stood_69 (by omega) (by omega) rfl (fun c => ?_) (fun c => ?_)
      · refine st_iload_n dX11_stood_109 rfl ?_
        rcases hz with ⟨rfl, hz⟩ | ⟨rfl, hz, hm⟩
        · refine r_z dX11_stood_110 rfl (by omega) ⟨bz0 hz, rfl, rfl⟩
        · refine r_z dX11_stood_110 rfl (by omega) ⟨bz1 ?_, rfl, rfl⟩
          unfold isWd
          rw [hm, List.drop_eq_nil_of_le (by omega), hz]
          simp [mtB]
      · skip
        omega
    | succ m ih =>
      intro k z l2 hk hz
      have hkl : k < q_len.getD i 0 := by omega
      refine st_iload dX11_stood_63 rfl ?_
      refine st_aload_n dX11_stood_65 rfl ?_
      refine c_V0p (d' := d - 1) dX11_stood_66 l_X11_234 k_J0_length_8abf5 i_J0_length_8abf5 (Or.inr ⟨_, (by first | with_reducible assumption | decide), rfl, rfl⟩) (by omega) (Nat.le_of_ble_eq_true rfl) (C_strlen (by omega) hi) ?_
      refine st_icmp_ge (tgt := 109) dX11_stood_69 (by omega) (by omega) rfl (fun c => ?_) (fun c => ?_)
      · skip
        omega
      · refine st_iload_n dX11_stood_72 rfl ?_
        refine st_if_eq (tgt := 109) dX11_stood_73 (by omega) rfl (fun c2 => ?_) (fun c2 => ?_)
        · refine st_iload_n dX11_stood_109 rfl ?_
          rcases hz with ⟨rfl, hz⟩ | ⟨rfl, hz, hm⟩
          · refine r_z dX11_stood_110 rfl (by omega) ⟨bz0 hz, rfl, rfl⟩
          · omega
        · refine st_aload_n dX11_stood_76 rfl ?_
          refine st_getfr dX11_stood_77 f_X11_71 (by first | with_reducible assumption | rfl) (by rfl) ?_
          refine st_aload_n dX11_stood_80 rfl ?_
          refine st_getfi dX11_stood_81 f_X11_223 (by first | with_reducible assumption | rfl) (by rfl) ?_
          rcases hz with ⟨rfl, hz⟩ | ⟨rfl, hz, hm⟩
          · omega
          · obtain ⟨hmem, hdr⟩ := chL_get hi hkl
            have hr := chL_rng i hi28 _ hmem
            rw [hp]
            refine st_iload dX11_stood_84 rfl ?_
            refine st_iadd dX11_stood_86 ?_
            rw [show (p : Int) + (k : Int) = ((p + k : Nat) : Int) by omega]
            have hpk : p + k < n := by omega
            have hbb := hb (p + k) hpk
            refine st_baldK (k' := p + k) dX11_stood_87 (by first | with_reducible assumption | rfl) rfl (by omega) (hn := by decide) ?_
            refine st_aload_n dX11_stood_88 rfl ?_
            refine st_iload dX11_stood_89 rfl ?_
            refine c_V1p (d' := d - 1) dX11_stood_91 l_X11_239 k_J0_charAt_5068e i_J0_charAt_5068e (Or.inr ⟨_, (by first | with_reducible assumption | decide), rfl, rfl⟩) (by omega) (Nat.le_of_ble_eq_true rfl) (C_charAt (by omega) hi hkl) ?_
            rw [hdr] at hm
            have hby : bytA (M 132) n ((p + k : Nat) : Int) = M 132 (p + k) % 256 := by
              unfold bytA
              rw [if_pos (by omega), Int.toNat_natCast]
            rw [show mtB (M 132) n (p + k) (chrS i k :: (chL i).drop (k + 1)) = (decide (bytA (M 132) n ((p + k : Nat) : Int) = chrS i k) && mtB (M 132) n (p + k + 1) ((chL i).drop (k + 1))) from rfl, hby] at hm
            refine st_icmp_ne (tgt := 101) dX11_stood_94 (by omega) (by omega) rfl (fun c3 => ?_) (fun c3 => ?_)
            · refine st_iconst dX11_stood_101 ?_
              refine st_istore_n (L' := [_, _, _, _, _]) dX11_stood_102 (by decide) rfl rfl ?_
              refine st_iinc (L' := [_, _, _, _, _]) dX11_stood_103 rfl (by decide) rfl rfl ?_
              refine st_goto (tgt := 63) dX11_stood_106 rfl ?_
              refine ih (k + 1) 0 l2 (by omega) (Or.inl ⟨rfl, ?_⟩)
              unfold isWd
              rw [hm, show decide (M 132 (p + k) % 256 = chrS i k) = false from decide_eq_false (by omega)]
              simp
            · refine st_iconst dX11_stood_97 ?_
              refine st_goto (tgt := 102) dX11_stood_98 rfl ?_
              refine st_istore_n (L' := [_, _, _, _, _]) dX11_stood_102 (by decide) rfl rfl ?_
              refine st_iinc (L' := [_, _, _, _, _]) dX11_stood_103 rfl (by decide) rfl rfl ?_
              refine st_goto (tgt := 63) dX11_stood_106 rfl ?_
              refine ih (k + 1) 1 l2 (by omega) (Or.inr ⟨rfl, hz, ?_⟩)
              rw [hm, show decide (M 132 (p + k) % 256 = chrS i k) = true from decide_eq_true (by omega), Bool.true_and]
              rfl
  have fin : ∀ (k : Nat), k = lets (M 132) n p → AW0 G d m_X11_stood 41 [some (.ref 112), some (.ref (1000 + 2 * i)), some (I ((p + k : Nat) : Int)), none, none] [] M N (CV (PU (Bz (isWd (M 132) n p (chL i) = true)) M N)) := by
    intro k hk
    subst hk
    refine st_iload_n dX11_stood_41 rfl ?_
    refine st_aload_n dX11_stood_42 rfl ?_
    refine st_getfi dX11_stood_43 f_X11_223 (by first | with_reducible assumption | rfl) (by rfl) ?_
    rw [hp]
    refine st_isub dX11_stood_46 ?_
    refine st_aload_n dX11_stood_47 rfl ?_
    refine c_V0p (d' := d - 1) dX11_stood_48 l_X11_234 k_J0_length_8abf5 i_J0_length_8abf5 (Or.inr ⟨_, (by first | with_reducible assumption | decide), rfl, rfl⟩) (by omega) (Nat.le_of_ble_eq_true rfl) (C_strlen (by omega) hi) ?_
    refine st_icmp_ne (tgt := 58) dX11_stood_51 (by omega) (by omega) rfl (fun c => ?_) (fun c => ?_)
    · refine st_iconst dX11_stood_58 ?_
      refine st_istore_n (L' := [_, _, _, _, _]) dX11_stood_59 (by decide) rfl rfl ?_
      refine st_iconst dX11_stood_60 ?_
      refine st_istore (L' := [_, _, _, _, _]) dX11_stood_61 (by decide) rfl rfl ?_
      refine lp2 (q_len.getD i 0) 0 0 _ (by omega) (Or.inl ⟨rfl, ?_⟩)
      unfold isWd
      rw [show decide (lets (M 132) n p = (chL i).length) = false from decide_eq_false (by omega)]
      simp
    · refine st_iconst dX11_stood_54 ?_
      refine st_goto (tgt := 59) dX11_stood_55 rfl ?_
      refine st_istore_n (L' := [_, _, _, _, _]) dX11_stood_59 (by decide) rfl rfl ?_
      refine st_iconst dX11_stood_60 ?_
      refine st_istore (L' := [_, _, _, _, _]) dX11_stood_61 (by decide) rfl rfl ?_
      exact lp2 (q_len.getD i 0) 0 1 _ (by omega) (Or.inr ⟨rfl, by omega, rfl⟩)
  have lp1 : ∀ (m k : Nat), p + k + m = max n p → ltB (M 132) n (n - (p + k)) (p + k) + k = lets (M 132) n p → AW0 G d m_X11_stood 5 [some (.ref 112), some (.ref (1000 + 2 * i)), some (I ((p + k : Nat) : Int)), none, none] [] M N (CV (PU (Bz (isWd (M 132) n p (chL i) = true)) M N)) := by
    intro m
    induction m with
    | zero =>
      intro k hk hL
      rw [show n - (p + k) = 0 by omega, show ltB (M 132) n 0 (p + k) = 0 from rfl] at hL
      refine st_iload_n dX11_stood_5 rfl ?_
      refine st_aload_n dX11_stood_6 rfl ?_
      refine st_getfi dX11_stood_7 f_X11_194 (by first | with_reducible assumption | rfl) (by rfl) ?_
      rw [hn]
      refine st_icmp_ge (tgt := 41) dX11_stood_10 (by omega) (by omega) rfl (fun c => ?_) (fun c => ?_)
      · skip
        exact fin k (by omega)
      · skip
        omega
    | succ m ih =>
      intro k hk hL
      have hbb := hb (p + k) (by omega)
      have hby : bytA (M 132) n ((p + k : Nat) : Int) = M 132 (p + k) % 256 := by
        unfold bytA
        rw [if_pos (by omega), Int.toNat_natCast]
      rw [show n - (p + k) = (n - (p + k) - 1) + 1 by omega, ltB_s, hby] at hL
      refine st_iload_n dX11_stood_5 rfl ?_
      refine st_aload_n dX11_stood_6 rfl ?_
      refine st_getfi dX11_stood_7 f_X11_194 (by first | with_reducible assumption | rfl) (by rfl) ?_
      rw [hn]
      refine st_icmp_ge (tgt := 41) dX11_stood_10 (by omega) (by omega) rfl (fun c => ?_) (fun c => ?_)
      · skip
        omega
      · refine st_aload_n dX11_stood_13 rfl ?_
        refine st_getfr dX11_stood_14 f_X11_71 (by first | with_reducible assumption | rfl) (by rfl) ?_
        refine st_iload_n dX11_stood_17 rfl ?_
        first | refine st_baldK (k' := _) dX11_stood_18 (by first | with_reducible assumption | rfl) rfl (by omega) (hn := by first | decide | omega) ?_ | refine st_bald dX11_stood_18 (by first | with_reducible assumption | rfl) (by omega) (by omega) (hn := by first | decide | omega) ?_
        refine st_bipush dX11_stood_19 (by decide) ?_
        refine st_icmp_lt (tgt := 41) dX11_stood_21 (by omega) (by omega) rfl (fun c2 => ?_) (fun c2 => ?_)
        · skip
          rw [if_neg (by omega)] at hL
          exact fin k (by omega)
        · refine st_aload_n dX11_stood_24 rfl ?_
          refine st_getfr dX11_stood_25 f_X11_71 (by first | with_reducible assumption | rfl) (by rfl) ?_
          refine st_iload_n dX11_stood_28 rfl ?_
          first | refine st_baldK (k' := _) dX11_stood_29 (by first | with_reducible assumption | rfl) rfl (by omega) (hn := by first | decide | omega) ?_ | refine st_bald dX11_stood_29 (by first | with_reducible assumption | rfl) (by omega) (by omega) (hn := by first | decide | omega) ?_
          refine st_bipush dX11_stood_30 (by decide) ?_
          refine st_icmp_gt (tgt := 41) dX11_stood_32 (by omega) (by omega) rfl (fun c3 => ?_) (fun c3 => ?_)
          · skip
            rw [if_neg (by omega)] at hL
            exact fin k (by omega)
          · refine st_iinc (L' := [_, _, _, _, _]) dX11_stood_35 rfl (by decide) rfl rfl ?_
            refine st_goto (tgt := 5) dX11_stood_38 rfl ?_
            rw [if_pos (by omega)] at hL
            exact AW.to (ih (k + 1) (by omega) (by rw [show n - (p + (k + 1)) = n - (p + k) - 1 by omega, show p + (k + 1) = p + k + 1 by omega]; omega)) (h2 := by simp [Int.add_assoc])
  refine AC.of (L0 := [_, _, none, none, none]) pn_X11 (Nat.le_of_ble_eq_true rfl) rfl ?_
  refine st_aload_n dX11_stood_0 rfl ?_
  refine st_getfi dX11_stood_1 f_X11_223 (by first | with_reducible assumption | rfl) (by rfl) ?_
  rw [hp]
  refine st_istore_n (L' := [_, _, _, _, _]) dX11_stood_4 (by decide) rfl rfl ?_
  exact AW.to (lp1 (max n p - p) 0 (by omega) (by unfold lets; simp))
theorem C_houseWord {G : q_G} {d : Nat} {M : q_Mem} {N : q_MemL} {k : Nat} (hk : k < 6) : AC0 G d m_X11_houseWord [I k] M N (CV (PU (.ref (1000 + 2 * (6 + k))) M N)) := by
  have hc : k = 0 ∨ k = 1 ∨ k = 2 ∨ k = 3 ∨ k = 4 ∨ k = 5 := by omega
  rcases hc with rfl | rfl | rfl | rfl | rfl | rfl
  · refine AC.of (L0 := [_]) pn_X11 (Nat.le_of_ble_eq_true rfl) rfl ?_
    refine st_iload_n dX11_houseWord_0 rfl ?_
    refine st_tsIn (off := 35) (tgt := 36) dX11_houseWord_1 (by decide) (by decide) (by decide) rfl rfl ?_
    refine st_ldcwS (i := 6) dX11_houseWord_36 rfl ?_
    exact r_a dX11_houseWord_39 rfl ⟨rfl, rfl, rfl⟩
  · refine AC.of (L0 := [_]) pn_X11 (Nat.le_of_ble_eq_true rfl) rfl ?_
    refine st_iload_n dX11_houseWord_0 rfl ?_
    refine st_tsIn (off := 39) (tgt := 40) dX11_houseWord_1 (by decide) (by decide) (by decide) rfl rfl ?_
    refine st_ldcwS (i := 7) dX11_houseWord_40 rfl ?_
    exact r_a dX11_houseWord_43 rfl ⟨rfl, rfl, rfl⟩
  · refine AC.of (L0 := [_]) pn_X11 (Nat.le_of_ble_eq_true rfl) rfl ?_
    refine st_iload_n dX11_houseWord_0 rfl ?_
    refine st_tsIn (off := 43) (tgt := 44) dX11_houseWord_1 (by decide) (by decide) (by decide) rfl rfl ?_
    refine st_ldcS (i := 8) dX11_houseWord_44 rfl ?_
    exact r_a dX11_houseWord_46 rfl ⟨rfl, rfl, rfl⟩
  · refine AC.of (L0 := [_]) pn_X11 (Nat.le_of_ble_eq_true rfl) rfl ?_
    refine st_iload_n dX11_houseWord_0 rfl ?_
    refine st_tsIn (off := 46) (tgt := 47) dX11_houseWord_1 (by decide) (by decide) (by decide) rfl rfl ?_
    refine st_ldcwS (i := 9) dX11_houseWord_47 rfl ?_
    exact r_a dX11_houseWord_50 rfl ⟨rfl, rfl, rfl⟩
  · refine AC.of (L0 := [_]) pn_X11 (Nat.le_of_ble_eq_true rfl) rfl ?_
    refine st_iload_n dX11_houseWord_0 rfl ?_
    refine st_tsIn (off := 50) (tgt := 51) dX11_houseWord_1 (by decide) (by decide) (by decide) rfl rfl ?_
    refine st_ldcwS (i := 10) dX11_houseWord_51 rfl ?_
    exact r_a dX11_houseWord_54 rfl ⟨rfl, rfl, rfl⟩
  · refine AC.of (L0 := [_]) pn_X11 (Nat.le_of_ble_eq_true rfl) rfl ?_
    refine st_iload_n dX11_houseWord_0 rfl ?_
    refine st_tsOut (tgt := 55) dX11_houseWord_1 (by omega) (by omega) rfl ?_
    refine st_ldcwS (i := 11) dX11_houseWord_55 rfl ?_
    exact r_a dX11_houseWord_58 rfl ⟨rfl, rfl, rfl⟩
/-- which string the word of a rule is -/
def rfW (k : Nat) : Nat := if k = 0 then 8 else 13 + k
theorem C_wordOf {G : q_G} {d : Nat} {M : q_Mem} {N : q_MemL} {k : Nat} (hk : k < 11) : AC0 G d m_X11_wordOf [I k] M N (CV (PU (.ref (1000 + 2 * rfW k)) M N)) := by
  have hc : k = 0 ∨ k = 1 ∨ k = 2 ∨ k = 3 ∨ k = 4 ∨ k = 5 ∨ k = 6 ∨ k = 7 ∨ k = 8 ∨ k = 9 ∨ k = 10 := by omega
  rcases hc with rfl | rfl | rfl | rfl | rfl | rfl | rfl | rfl | rfl | rfl | rfl
  · refine AC.of (L0 := [_]) pn_X11 (Nat.le_of_ble_eq_true rfl) rfl ?_
    refine st_iload_n dX11_wordOf_0 rfl ?_
    refine st_tsIn (off := 55) (tgt := 56) dX11_wordOf_1 (by decide) (by decide) (by decide) rfl rfl ?_
    refine st_ldcS (i := 8) dX11_wordOf_56 rfl ?_
    exact r_a dX11_wordOf_58 rfl ⟨rfl, rfl, rfl⟩
  · refine AC.of (L0 := [_]) pn_X11 (Nat.le_of_ble_eq_true rfl) rfl ?_
    refine st_iload_n dX11_wordOf_0 rfl ?_
    refine st_tsIn (off := 58) (tgt := 59) dX11_wordOf_1 (by decide) (by decide) (by decide) rfl rfl ?_
    refine st_ldcS (i := 14) dX11_wordOf_59 rfl ?_
    exact r_a dX11_wordOf_61 rfl ⟨rfl, rfl, rfl⟩
  · refine AC.of (L0 := [_]) pn_X11 (Nat.le_of_ble_eq_true rfl) rfl ?_
    refine st_iload_n dX11_wordOf_0 rfl ?_
    refine st_tsIn (off := 61) (tgt := 62) dX11_wordOf_1 (by decide) (by decide) (by decide) rfl rfl ?_
    refine st_ldcS (i := 15) dX11_wordOf_62 rfl ?_
    exact r_a dX11_wordOf_64 rfl ⟨rfl, rfl, rfl⟩
  · refine AC.of (L0 := [_]) pn_X11 (Nat.le_of_ble_eq_true rfl) rfl ?_
    refine st_iload_n dX11_wordOf_0 rfl ?_
    refine st_tsIn (off := 64) (tgt := 65) dX11_wordOf_1 (by decide) (by decide) (by decide) rfl rfl ?_
    refine st_ldcS (i := 16) dX11_wordOf_65 rfl ?_
    exact r_a dX11_wordOf_67 rfl ⟨rfl, rfl, rfl⟩
  · refine AC.of (L0 := [_]) pn_X11 (Nat.le_of_ble_eq_true rfl) rfl ?_
    refine st_iload_n dX11_wordOf_0 rfl ?_
    refine st_tsIn (off := 67) (tgt := 68) dX11_wordOf_1 (by decide) (by decide) (by decide) rfl rfl ?_
    refine st_ldcS (i := 17) dX11_wordOf_68 rfl ?_
    exact r_a dX11_wordOf_70 rfl ⟨rfl, rfl, rfl⟩
  · refine AC.of (L0 := [_]) pn_X11 (Nat.le_of_ble_eq_true rfl) rfl ?_
    refine st_iload_n dX11_wordOf_0 rfl ?_
    refine st_tsIn (off := 70) (tgt := 71) dX11_wordOf_1 (by decide) (by decide) (by decide) rfl rfl ?_
    refine st_ldcS (i := 18) dX11_wordOf_71 rfl ?_
    exact r_a dX11_wordOf_73 rfl ⟨rfl, rfl, rfl⟩
  · refine AC.of (L0 := [_]) pn_X11 (Nat.le_of_ble_eq_true rfl) rfl ?_
    refine st_iload_n dX11_wordOf_0 rfl ?_
    refine st_tsIn (off := 73) (tgt := 74) dX11_wordOf_1 (by decide) (by decide) (by decide) rfl rfl ?_
    refine st_ldcS (i := 19) dX11_wordOf_74 rfl ?_
    exact r_a dX11_wordOf_76 rfl ⟨rfl, rfl, rfl⟩
  · refine AC.of (L0 := [_]) pn_X11 (Nat.le_of_ble_eq_true rfl) rfl ?_
    refine st_iload_n dX11_wordOf_0 rfl ?_
    refine st_tsIn (off := 76) (tgt := 77) dX11_wordOf_1 (by decide) (by decide) (by decide) rfl rfl ?_
    refine st_ldcS (i := 20) dX11_wordOf_77 rfl ?_
    exact r_a dX11_wordOf_79 rfl ⟨rfl, rfl, rfl⟩
  · refine AC.of (L0 := [_]) pn_X11 (Nat.le_of_ble_eq_true rfl) rfl ?_
    refine st_iload_n dX11_wordOf_0 rfl ?_
    refine st_tsIn (off := 79) (tgt := 80) dX11_wordOf_1 (by decide) (by decide) (by decide) rfl rfl ?_
    refine st_ldcS (i := 21) dX11_wordOf_80 rfl ?_
    exact r_a dX11_wordOf_82 rfl ⟨rfl, rfl, rfl⟩
  · refine AC.of (L0 := [_]) pn_X11 (Nat.le_of_ble_eq_true rfl) rfl ?_
    refine st_iload_n dX11_wordOf_0 rfl ?_
    refine st_tsIn (off := 82) (tgt := 83) dX11_wordOf_1 (by decide) (by decide) (by decide) rfl rfl ?_
    refine st_ldcS (i := 22) dX11_wordOf_83 rfl ?_
    exact r_a dX11_wordOf_85 rfl ⟨rfl, rfl, rfl⟩
  · refine AC.of (L0 := [_]) pn_X11 (Nat.le_of_ble_eq_true rfl) rfl ?_
    refine st_iload_n dX11_wordOf_0 rfl ?_
    refine st_tsOut (tgt := 86) dX11_wordOf_1 (by omega) (by omega) rfl ?_
    refine st_ldcS (i := 23) dX11_wordOf_86 rfl ?_
    exact r_a dX11_wordOf_88 rfl ⟨rfl, rfl, rfl⟩


/-! the system's Neighbours: who sleeps where -/
def rmF (h : Int) : Nat → Int → Int → Int
  | 0, _, acc => acc
  | n + 1, rest, acc => rmF h n (rest / h) (w4 acc n (rest % h))
theorem rmF_rng {h : Int} (hh : 1 ≤ h ∧ h ≤ 4) : ∀ {n : Nat} {rest acc : Int}, n ≤ 7 → 0 ≤ rest → (0 ≤ acc ∧ acc < 1048576) → 0 ≤ rmF h n rest acc ∧ rmF h n rest acc < 1048576
  | 0, _, _, _, _, ha => ha
  | n + 1, rest, acc, hn, hr, ha => by
    have h1 := Int.emod_nonneg rest (show h ≠ 0 by omega)
    have h2 := Int.emod_lt_of_pos rest (show 0 < h by omega)
    have h3 : 0 ≤ rest / h := Int.ediv_nonneg hr (by omega)
    have h4 := w4_lt (v := rest % h) (k := n) ha (by omega) (by omega)
    exact rmF_rng hh (n := n) (rest := rest / h) (acc := w4 acc n (rest % h)) (by omega) h3 h4
theorem C_roomingOf {G : q_G} {d : Nat} {M : q_Mem} {N : q_MemL} {w : Int} (hd : 1 ≤ d) (h1 : 0 ≤ M 3 1 ∧ M 3 1 ≤ 4) (h4 : 0 ≤ M 3 4 ∧ M 3 4 ≤ 7) (hw : 0 ≤ w ∧ w < 2147483648) : AC0 G d m_X4_roomingOf [.ref 103, I w] M N (CV (PU (I (rmF (max 1 (M 3 1)) (M 3 4).toNat w 0)) M N)) := by
  refine AC.of (L0 := [_, _, none, none, none, none]) pn_X4 (Nat.le_of_ble_eq_true rfl) rfl ?_
  refine st_iconst dX4_roomingOf_0 ?_
  refine st_aload_n dX4_roomingOf_1 rfl ?_
  refine st_getfr dX4_roomingOf_2 f_X4_18 (by first | assumption | rfl) (by rfl) ?_
  refine st_getfi dX4_roomingOf_5 f_X4_87 (by first | assumption | rfl) (by rfl) ?_
  refine st_mmax dX4_roomingOf_8 lm_X4_42 (by omega) (Nat.le_of_ble_eq_true rfl) (by omega) (by omega) ?_
  refine st_istore_n (L' := [_, _, _, _, _, _]) dX4_roomingOf_11 (by decide) rfl rfl ?_
  refine st_iconst dX4_roomingOf_12 ?_
  refine st_istore_n (L' := [_, _, _, _, _, _]) dX4_roomingOf_13 (by decide) rfl rfl ?_
  refine st_iload_n dX4_roomingOf_14 rfl ?_
  refine st_istore (L' := [_, _, _, _, _, _]) dX4_roomingOf_15 (by decide) rfl rfl ?_
  refine st_aload_n dX4_roomingOf_17 rfl ?_
  refine st_getfr dX4_roomingOf_18 f_X4_18 (by first | assumption | rfl) (by rfl) ?_
  refine st_getfi dX4_roomingOf_21 f_X4_56 (by first | assumption | rfl) (by rfl) ?_
  refine st_iconst dX4_roomingOf_24 ?_
  refine st_isub dX4_roomingOf_25 ?_
  refine st_istore (L' := [_, _, _, _, _, _]) dX4_roomingOf_26 (by decide) rfl rfl ?_
  have hh : 1 ≤ max 1 (M 3 1) ∧ max 1 (M 3 1) ≤ 4 := by omega
  generalize max 1 (M 3 1) = h at hh ⊢
  have loop : ∀ (n : Nat) (rest acc : Int), n ≤ 7 → (0 ≤ rest ∧ rest < 2147483648) → (0 ≤ acc ∧ acc < 1048576) → AW0 G d m_X4_roomingOf 28 [some (.ref 103), some (I w), some (I h), some (I acc), some (I rest), some (I (n - 1))] [] M N (CV (PU (I (rmF h n rest acc)) M N)) := by
    intro n
    induction n with
    | zero =>
      intro rest acc hn hr ha
      refine st_iload dX4_roomingOf_28 rfl ?_
      refine st_if_lt (tgt := 56) dX4_roomingOf_30 (by omega) rfl (fun h7 => ?_) (fun h7 => ?_)
      · refine st_iload_n dX4_roomingOf_56 rfl ?_
        exact r_i dX4_roomingOf_57 rfl ⟨rfl, rfl, rfl⟩
      · skip
        omega
    | succ n ih =>
      intro rest acc hn hr ha
      have h1 := Int.emod_nonneg rest (show h ≠ 0 by omega)
      have h2 := Int.emod_lt_of_pos rest (show 0 < h by omega)
      have h3 := Int.ediv_nonneg hr.1 (show 0 ≤ h by omega)
      have h5 := Int.ediv_le_self h hr.1
      rw [show ((n + 1 : Nat) : Int) - 1 = (n : Int) by omega]
      refine st_iload dX4_roomingOf_28 rfl ?_
      refine st_if_lt (tgt := 56) dX4_roomingOf_30 (by omega) rfl (fun h7 => ?_) (fun h7 => ?_)
      · skip
        omega
      · refine st_iload_n dX4_roomingOf_33 rfl ?_
        refine st_iload dX4_roomingOf_34 rfl ?_
        refine st_iload dX4_roomingOf_36 rfl ?_
        refine st_iload_n dX4_roomingOf_38 rfl ?_
        refine st_irem dX4_roomingOf_39 (zi_ne0 (by omega)) ?_
        refine AW.top (zi_remI hr (by omega)) ?_
        refine c_S3p (d' := d - 1) dX4_roomingOf_40 l_X4_99 k_X10_withRoom s_X10_withRoom (by omega) (Nat.le_of_ble_eq_true rfl) (C_withRoom ha.1 (by omega) (by omega)) ?_
        refine st_istore_n (L' := [_, _, _, _, _, _]) dX4_roomingOf_43 (by decide) rfl rfl ?_
        refine st_iload dX4_roomingOf_44 rfl ?_
        refine st_iload_n dX4_roomingOf_46 rfl ?_
        refine st_idiv dX4_roomingOf_47 (zi_ne0 (by omega)) ?_
        refine AW.top (zi_divI hr (by omega)) ?_
        refine st_istore (L' := [_, _, _, _, _, _]) dX4_roomingOf_48 (by decide) rfl rfl ?_
        refine st_iinc (L' := [_, _, _, _, _, _]) dX4_roomingOf_50 rfl (by decide) rfl rfl ?_
        refine st_goto (tgt := 28) dX4_roomingOf_53 rfl ?_
        exact AW.to (ih (rest / h) (w4 acc n (rest % h)) (by omega) (by omega) (w4_lt ha (by omega) (by omega))) (h2 := by simp [Int.sub_eq_add_neg])
  exact AW.to (loop (M 3 4).toNat w 0 (by omega) hw (by omega)) (h2 := by rw [show (((M 3 4).toNat : Nat) : Int) = M 3 4 by omega])
abbrev noL (M : q_Mem) (v : Nat → Int) (s rm : Int) : Prop := ∀ q, q < (M 3 4).toNat → stof (M 4) (hearP (M 3 4).toNat (M 3 6) (g8 0) (g4 rm) v q) ((M 3 3).toNat - 1) 0 = s
theorem C_nobodyLeaves {G : q_G} {d : Nat} {M : q_Mem} {N : q_MemL} {s rm : Int} (hd : 2 ≤ d) (hM : Hrg M 3) (hv : Sok M 104 (M 3 4).toNat) (hs : -2147483648 ≤ s ∧ s < 2147483648) (hrm : 0 ≤ rm ∧ rm < 1048576) : AC0 G d m_X4_nobodyLeaves [.ref 103, I s, I rm] M N (CV (PU (Bz (noL M (M 104) s rm)) M N)) := by
  have hH : isHome 3 := Or.inl rfl
  have h4 := hM.2.2.1
  refine AC.of (L0 := [_, _, _, none, none]) pn_X4 (Nat.le_of_ble_eq_true rfl) rfl ?_
  refine st_iconst dX4_nobodyLeaves_0 ?_
  refine st_istore_n (L' := [_, _, _, _, _]) dX4_nobodyLeaves_1 (by decide) rfl rfl ?_
  refine st_iconst dX4_nobodyLeaves_2 ?_
  refine st_istore (L' := [_, _, _, _, _]) dX4_nobodyLeaves_3 (by decide) rfl rfl ?_
  have loop : ∀ (q k : Nat), k + q = (M 3 4).toNat → (∀ j, j < k → stof (M 4) (hearP (M 3 4).toNat (M 3 6) (g8 0) (g4 rm) (M 104) j) ((M 3 3).toNat - 1) 0 = s) → AW0 G d m_X4_nobodyLeaves 5 [some (.ref 103), some (I s), some (I rm), some (I 0), some (I k)] [] M N (CV (PU (Bz (noL M (M 104) s rm)) M N)) := by
    intro q
    induction q with
    | zero =>
      intro k hk hno
      refine st_iload dX4_nobodyLeaves_5 rfl ?_
      refine st_aload_n dX4_nobodyLeaves_7 rfl ?_
      refine st_getfr dX4_nobodyLeaves_8 f_X4_18 (by first | assumption | rfl) (by rfl) ?_
      refine st_getfi dX4_nobodyLeaves_11 f_X4_56 (by first | assumption | rfl) (by rfl) ?_
      refine st_icmp_ge (tgt := 51) dX4_nobodyLeaves_14 (by omega) (by omega) rfl (fun h => ?_) (fun h => ?_)
      · refine st_iconst dX4_nobodyLeaves_51 ?_
        exact r_z dX4_nobodyLeaves_52 rfl (by first | omega | (split <;> decide)) ⟨bz1 (fun j hj => hno j (by omega)), rfl, rfl⟩
      · skip
        omega
    | succ q ih =>
      intro k hk hno
      have hr := hearP_rg (df := M 3 6) (st := g8 0) (rm := g4 rm) (v := M 104) (n := (M 3 4).toNat) (p := k) (by omega) (by omega) hv
      have hst := stof_rng (M (3 + 1)) (hearP (M 3 4).toNat (M 3 6) (g8 0) (g4 rm) (M 104) k) ((M 3 3).toNat - 1) 0
      have h3 := hM.2.1
      refine st_iload dX4_nobodyLeaves_5 rfl ?_
      refine st_aload_n dX4_nobodyLeaves_7 rfl ?_
      refine st_getfr dX4_nobodyLeaves_8 f_X4_18 (by first | assumption | rfl) (by rfl) ?_
      refine st_getfi dX4_nobodyLeaves_11 f_X4_56 (by first | assumption | rfl) (by rfl) ?_
      refine st_icmp_ge (tgt := 51) dX4_nobodyLeaves_14 (by omega) (by omega) rfl (fun h => ?_) (fun h => ?_)
      · skip
        omega
      · refine st_aload_n dX4_nobodyLeaves_17 rfl ?_
        refine st_getfr dX4_nobodyLeaves_18 f_X4_18 (by first | assumption | rfl) (by rfl) ?_
        refine st_aload_n dX4_nobodyLeaves_21 rfl ?_
        refine st_getfr dX4_nobodyLeaves_22 f_X4_18 (by first | assumption | rfl) (by rfl) ?_
        refine st_iload dX4_nobodyLeaves_25 rfl ?_
        refine st_iload_n dX4_nobodyLeaves_27 rfl ?_
        refine st_iload_n dX4_nobodyLeaves_28 rfl ?_
        refine st_aload_n dX4_nobodyLeaves_29 rfl ?_
        refine st_getfr dX4_nobodyLeaves_30 f_X4_9 (by first | assumption | rfl) (by rfl) ?_
        refine c_V4p (d' := d - 1) dX4_nobodyLeaves_33 l_X4_77 k_X2_heardBy i_X2_heardBy (Or.inl ⟨_, _, _, _, _, (by first | assumption | rfl), by rfl⟩) (by omega) (Nat.le_of_ble_eq_true rfl) (C_heardBy hH (by omega) hM sh_104 (by decide) (by omega) (by omega) (by omega) hv) ?_
        refine c_V1p (d' := d - 1) dX4_nobodyLeaves_36 l_X4_81 k_X2_storeyOf i_X2_storeyOf (Or.inl ⟨_, _, _, _, _, (by first | assumption | rfl), by rfl⟩) (by omega) (Nat.le_of_ble_eq_true rfl) (C_stof hH (by omega) hM.2.1 hM.2.2.2.2.2.2.1 (by omega)) ?_
        refine st_iload_n dX4_nobodyLeaves_39 rfl ?_
        refine st_icmp_eq (tgt := 45) dX4_nobodyLeaves_40 (by omega) (by omega) rfl (fun h7 => ?_) (fun h7 => ?_)
        · refine st_iinc (L' := [_, _, _, _, _]) dX4_nobodyLeaves_45 rfl (by decide) rfl rfl ?_
          refine st_goto (tgt := 5) dX4_nobodyLeaves_48 rfl ?_
          refine AW.to (ih (k + 1) (by omega) (fun j hj => ?_)) (h2 := by simp)
          by_cases q1 : j = k
          · rw [q1]; exact h7
          · exact hno j (by omega)
        · refine st_iconst dX4_nobodyLeaves_43 ?_
          exact r_z dX4_nobodyLeaves_44 rfl (by first | omega | (split <;> decide)) ⟨bz0 (fun z => h7 (z k (by omega))), rfl, rfl⟩
  exact loop (M 3 4).toNat 0 (by omega) (fun j hj => by omega)
/-- ways among the first k, and the first of them -/
def slF (M : q_Mem) (s h : Int) : Nat → Int × Int
  | 0 => (0, -1)
  | k + 1 => if noL M (toldV M 3 h 0) s (rmF (max 1 (M 3 1)) (M 3 4).toNat k 0) then ((slF M s h k).1 + 1, if (slF M s h k).1 = 0 then rmF (max 1 (M 3 1)) (M 3 4).toNat k 0 else (slF M s h k).2) else slF M s h k
theorem slF_rng {M : q_Mem} (h1 : 0 ≤ M 3 1 ∧ M 3 1 ≤ 4) (h4 : 0 ≤ M 3 4 ∧ M 3 4 ≤ 7) (s h : Int) : ∀ k, (0 ≤ (slF M s h k).1 ∧ (slF M s h k).1 ≤ k) ∧ ((slF M s h k).1 = 0 ∨ 0 ≤ (slF M s h k).2) ∧ -1 ≤ (slF M s h k).2 ∧ (slF M s h k).2 < 1048576
  | 0 => by simp [slF]
  | k + 1 => by
    have := slF_rng h1 h4 s h k
    have h2 := rmF_rng (h := max 1 (M 3 1)) (n := (M 3 4).toNat) (rest := k) (acc := 0) (by omega) (by omega) (by omega) (by omega)
    unfold slF
    split
    · refine ⟨⟨?_, ?_⟩, ?_⟩
      · show 0 ≤ (slF M s h k).1 + 1
        omega
      · show (slF M s h k).1 + 1 ≤ _
        omega
      · have e : 0 ≤ (if (slF M s h k).1 = 0 then rmF (max 1 (M 3 1)) (M 3 4).toNat k 0 else (slF M s h k).2) ∧ (if (slF M s h k).1 = 0 then rmF (max 1 (M 3 1)) (M 3 4).toNat k 0 else (slF M s h k).2) < 1048576 := by split <;> omega
        exact ⟨Or.inr e.1, Int.le_trans (by omega) e.1, e.2⟩
    · omega
def A_sleep (M : q_Mem) (s h what : Int) : Int := if what = -1 then (slF M s h ((M 3 1).toNat ^ (M 3 4).toNat)).1 else if 0 < (slF M s h ((M 3 1).toNat ^ (M 3 4).toNat)).1 ∧ what < M 3 4 then g4 (slF M s h ((M 3 1).toNat ^ (M 3 4).toNat)).2 what.toNat else -2
theorem noL_congr {M M' : q_Mem} {v v' : Nat → Int} {s rm : Int} (h3 : M' 3 = M 3) (h4 : M' 4 = M 4) (hv : ∀ q, q < (M 3 4).toNat → v' q = v q) : noL M' v' s rm ↔ noL M v s rm := by
  unfold noL
  rw [h3, h4]
  have e : ∀ q, q < (M 3 4).toNat → hearP (M 3 4).toNat (M 3 6) (g8 0) (g4 rm) v' q = hearP (M 3 4).toNat (M 3 6) (g8 0) (g4 rm) v q := fun q hq => hearP_congr hq (fun _ _ => rfl) (fun _ _ => rfl) hv
  exact ⟨fun h q hq => by rw [← e q hq]; exact h q hq, fun h q hq => by rw [e q hq]; exact h q hq⟩
theorem C_sleeping {G : q_G} {d : Nat} {M : q_Mem} {N : q_MemL} {s h what : Int} (hd : 4 ≤ d) (hM : Hrg M 3) (h1 : 0 ≤ M 3 1 ∧ M 3 1 ≤ 4) (hs : -2147483648 ≤ s ∧ s < 2147483648) (hh : 0 ≤ h ∧ h < 10) (hw : -1 ≤ what ∧ what < 10) : AC0 G d m_X4_sleeping [.ref 103, I s, I h, I what] M N (CV (fun x M' N' => x = I (A_sleep M s h what) ∧ N' = N ∧ Exc [104] M M')) := by
  have hH : isHome 3 := Or.inl rfl
  have h4 := hM.2.2.1
  refine AC.of (L0 := [_, _, _, _, none, none, none, none, none]) pn_X4 (Nat.le_of_ble_eq_true rfl) rfl ?_
  refine st_aload_n dX4_sleeping_0 rfl ?_
  refine st_getfr dX4_sleeping_1 f_X4_18 (by first | assumption | rfl) (by rfl) ?_
  refine st_iload_n dX4_sleeping_4 rfl ?_
  refine st_iconst dX4_sleeping_5 ?_
  refine st_aload_n dX4_sleeping_6 rfl ?_
  refine st_getfr dX4_sleeping_7 f_X4_9 (by first | assumption | rfl) (by rfl) ?_
  refine c_V3v (d' := d - 1) dX4_sleeping_10 l_X4_32 k_X2_tell i_X2_tell (Or.inl ⟨_, _, _, _, _, (by first | assumption | rfl), by rfl⟩) (by omega) (Nat.le_of_ble_eq_true rfl) (C_tellV hH (by omega) hM sh_104 (by decide) (by decide) (by omega) (by omega)) (fun M1 N1 hx => ?_)
  obtain ⟨rfl, hE, hv, -⟩ := hx
  have e3 := hE 3 (by decide)
  have e4 := hE 4 (by decide)
  have hpw : ∀ n, n ≤ 7 → (M 3 1).toNat ^ n ≤ 16384 := fun n hn => by
    have h9 : (M 3 1).toNat ^ n ≤ 4 ^ n := Nat.pow_le_pow_left (by omega) n
    have h10 : (4 : Nat) ^ n ≤ 4 ^ 7 := Nat.pow_le_pow_right (by omega) hn
    have h11 : (4 : Nat) ^ 7 = 16384 := rfl
    omega
  refine st_iconst dX4_sleeping_13 ?_
  refine st_istore (L' := [_, _, _, _, _, _, _, _, _]) dX4_sleeping_14 (by decide) rfl rfl ?_
  refine st_iconst dX4_sleeping_16 ?_
  refine st_istore (L' := [_, _, _, _, _, _, _, _, _]) dX4_sleeping_17 (by decide) rfl rfl ?_
  refine st_iconst dX4_sleeping_19 ?_
  refine st_istore (L' := [_, _, _, _, _, _, _, _, _]) dX4_sleeping_20 (by decide) rfl rfl ?_
  refine st_iconst dX4_sleeping_22 ?_
  refine st_istore (L' := [_, _, _, _, _, _, _, _, _]) dX4_sleeping_23 (by decide) rfl rfl ?_
  have loop2 : ∀ (q k : Nat), k + q = (M 3 1).toNat ^ (M 3 4).toNat → {l8 : Option Value} → AW0 G d m_X4_sleeping 58 [some (.ref 103), some (I s), some (I h), some (I what), some (I (slF M s h k).1), some (I (slF M s h k).2), some (I ((M 3 1).toNat ^ (M 3 4).toNat : Nat)), some (I k), l8] [] M1 N1 (CV (fun x M' N' => x = I (A_sleep M s h what) ∧ N' = N1 ∧ Exc [104] M M')) := by
    have hpw7 := hpw (M 3 4).toNat (by omega)
    generalize hP : (M 3 1).toNat ^ (M 3 4).toNat = P at hpw7
    intro q
    induction q with
    | zero =>
      intro k hk l8
      have hkk : k = P := by omega
      have hsr := slF_rng h1 h4 s h k
      refine st_iload dX4_sleeping_58 rfl ?_
      refine st_iload dX4_sleeping_60 rfl ?_
      refine st_icmp_ge (tgt := 106) dX4_sleeping_62 (by omega) (by omega) rfl (fun h7 => ?_) (fun h7 => ?_)
      · refine st_iload_n dX4_sleeping_106 rfl ?_
        refine st_iconst dX4_sleeping_107 ?_
        refine st_icmp_ne (tgt := 114) dX4_sleeping_108 (by omega) (by omega) rfl (fun h8 => ?_) (fun h8 => ?_)
        · refine st_iload dX4_sleeping_114 rfl ?_
          have fin : AW0 G d m_X4_sleeping 139 [some (.ref 103), some (I s), some (I h), some (I what), some (I (slF M s h k).1), some (I (slF M s h k).2), some (I P), some (I k), l8] [] M1 N1 (CV (fun x M' N' => x = I (-2) ∧ N' = N1 ∧ Exc [104] M M')) := by
            refine st_bipush dX4_sleeping_139 (by decide) ?_
            exact r_i dX4_sleeping_141 rfl ⟨rfl, rfl, hE⟩
          refine st_if_le (tgt := 139) dX4_sleeping_116 (by omega) rfl (fun h9 => ?_) (fun h9 => ?_)
          · skip
            rw [A_sleep, hP, ← hkk, if_neg h8, if_neg (by omega)]
            rw [← hkk] at fin
            exact fin
          · refine st_iload_n dX4_sleeping_119 rfl ?_
            refine st_aload_n dX4_sleeping_120 rfl ?_
            refine st_getfr dX4_sleeping_121 f_X4_18 (by first | assumption | rfl) (by rfl) ?_
            refine st_getfi dX4_sleeping_124 f_X4_56 (by first | assumption | rfl) (by rfl) ?_
            rw [e3]
            refine st_icmp_ge (tgt := 139) dX4_sleeping_127 (by omega) (by omega) rfl (fun h10 => ?_) (fun h10 => ?_)
            · skip
              rw [A_sleep, hP, ← hkk, if_neg h8, if_neg (by omega)]
              rw [← hkk] at fin
              exact fin
            · refine st_iload dX4_sleeping_130 rfl ?_
              refine st_iload_n dX4_sleeping_132 rfl ?_
              rw [show what = ((what.toNat : Nat) : Int) by omega]
              refine c_S2p (d' := d - 1) dX4_sleeping_133 l_X4_96 k_X10_roomIn s_X10_roomIn (by omega) (Nat.le_of_ble_eq_true rfl) (C_roomIn (by omega) (by omega)) ?_
              rw [show ((what.toNat : Nat) : Int) = what by omega]
              refine st_goto (tgt := 141) dX4_sleeping_136 rfl ?_
              exact r_i dX4_sleeping_141 rfl ⟨by rw [A_sleep, hP, ← hkk, if_neg h8, if_pos (by omega)], rfl, hE⟩
        · refine st_iload dX4_sleeping_111 rfl ?_
          exact r_i dX4_sleeping_113 rfl ⟨by rw [A_sleep, hP, ← hkk, if_pos (by omega)], rfl, hE⟩
      · skip
        omega
    | succ q ih =>
      intro k hk l8
      have hsr := slF_rng h1 h4 s h k
      have hrm := rmF_rng (h := max 1 (M 3 1)) (n := (M 3 4).toNat) (rest := k) (acc := 0) (by omega) (by omega) (by omega) (by omega)
      refine st_iload dX4_sleeping_58 rfl ?_
      refine st_iload dX4_sleeping_60 rfl ?_
      refine st_icmp_ge (tgt := 106) dX4_sleeping_62 (by omega) (by omega) rfl (fun h7 => ?_) (fun h7 => ?_)
      · skip
        omega
      · refine st_aload_n dX4_sleeping_65 rfl ?_
        refine st_iload dX4_sleeping_66 rfl ?_
        refine c_V1p (d' := d - 1) dX4_sleeping_68 l_X4_90 k_X4_roomingOf i_X4_roomingOf (Or.inl ⟨_, _, _, _, _, (by first | assumption | rfl), by rfl⟩) (by omega) (Nat.le_of_ble_eq_true rfl) (C_roomingOf (by omega) (by rw [e3]; exact h1) (by rw [e3]; exact h4) (by omega)) ?_
        rw [e3]
        refine st_istore (L' := [_, _, _, _, _, _, _, _, _]) dX4_sleeping_71 (by decide) rfl rfl ?_
        refine st_aload_n dX4_sleeping_73 rfl ?_
        refine st_iload_n dX4_sleeping_74 rfl ?_
        refine st_iload dX4_sleeping_75 rfl ?_
        refine c_V2p (d' := d - 1) dX4_sleeping_77 l_X4_93 k_X4_nobodyLeaves i_X4_nobodyLeaves (Or.inl ⟨_, _, _, _, _, (by first | assumption | rfl), by rfl⟩) (by omega) (Nat.le_of_ble_eq_true rfl) (C_nobodyLeaves (by omega) (hM.exc hE (by decide) (by decide) (by decide) (by decide)) (toldS hM e3 hv) hs hrm) ?_
        have hiff := noL_congr (M := M) (M' := M1) (v := toldV M 3 h 0) (v' := M1 104) (s := s) (rm := rmF (max 1 (M 3 1)) (M 3 4).toNat k 0) e3 e4 hv
        refine b_eq (tgt := 100) dX4_sleeping_80 rfl (fun h8 => ?_) (fun h8 => ?_)
        · refine st_iinc (L' := [_, _, _, _, _, _, _, _, _]) dX4_sleeping_100 rfl (by decide) rfl rfl ?_
          refine st_goto (tgt := 58) dX4_sleeping_103 rfl ?_
          exact AW.to (ih (k + 1) (by omega) (l8 := some (I (rmF (max 1 (M 3 1)) (M 3 4).toNat k 0)))) (h2 := by rw [show slF M s h (k + 1) = slF M s h k from if_neg (fun z => h8 (hiff.2 z))]; simp)
        · refine st_iload dX4_sleeping_83 rfl ?_
          have e : slF M s h (k + 1) = ((slF M s h k).1 + 1, if (slF M s h k).1 = 0 then rmF (max 1 (M 3 1)) (M 3 4).toNat k 0 else (slF M s h k).2) := if_pos (hiff.1 h8)
          refine st_if_ne (tgt := 93) dX4_sleeping_85 (by omega) rfl (fun h9 => ?_) (fun h9 => ?_)
          · refine st_iload dX4_sleeping_93 rfl ?_
            refine st_istore (L' := [_, _, _, _, _, _, _, _, _]) dX4_sleeping_95 (by decide) rfl rfl ?_
            refine st_iinc (L' := [_, _, _, _, _, _, _, _, _]) dX4_sleeping_97 rfl (by decide) rfl rfl ?_
            refine st_iinc (L' := [_, _, _, _, _, _, _, _, _]) dX4_sleeping_100 rfl (by decide) rfl rfl ?_
            refine st_goto (tgt := 58) dX4_sleeping_103 rfl ?_
            rw [if_neg h9] at e
            exact AW.to (ih (k + 1) (by omega) (l8 := some (I (rmF (max 1 (M 3 1)) (M 3 4).toNat k 0)))) (h2 := by rw [e]; simp)
          · refine st_iload dX4_sleeping_88 rfl ?_
            refine st_goto (tgt := 95) dX4_sleeping_90 rfl ?_
            refine st_istore (L' := [_, _, _, _, _, _, _, _, _]) dX4_sleeping_95 (by decide) rfl rfl ?_
            refine st_iinc (L' := [_, _, _, _, _, _, _, _, _]) dX4_sleeping_97 rfl (by decide) rfl rfl ?_
            refine st_iinc (L' := [_, _, _, _, _, _, _, _, _]) dX4_sleeping_100 rfl (by decide) rfl rfl ?_
            refine st_goto (tgt := 58) dX4_sleeping_103 rfl ?_
            rw [if_pos (by omega)] at e
            exact AW.to (ih (k + 1) (by omega) (l8 := some (I (rmF (max 1 (M 3 1)) (M 3 4).toNat k 0)))) (h2 := by rw [e]; simp)
  have loop1 : ∀ (q k : Nat), k + q = (M 3 4).toNat → AW0 G d m_X4_sleeping 25 [some (.ref 103), some (I s), some (I h), some (I what), some (I 0), some (I (-1)), some (I ((M 3 1).toNat ^ k : Nat)), some (I k), none] [] M1 N1 (CV (fun x M' N' => x = I (A_sleep M s h what) ∧ N' = N1 ∧ Exc [104] M M')) := by
    intro q
    induction q with
    | zero =>
      intro k hk
      refine st_iload dX4_sleeping_25 rfl ?_
      refine st_aload_n dX4_sleeping_27 rfl ?_
      refine st_getfr dX4_sleeping_28 f_X4_18 (by first | assumption | rfl) (by rfl) ?_
      refine st_getfi dX4_sleeping_31 f_X4_56 (by first | assumption | rfl) (by rfl) ?_
      rw [e3]
      refine st_icmp_ge (tgt := 55) dX4_sleeping_34 (by omega) (by omega) rfl (fun h7 => ?_) (fun h7 => ?_)
      · refine st_iconst dX4_sleeping_55 ?_
        refine st_istore (L' := [_, _, _, _, _, _, _, _, _]) dX4_sleeping_56 (by decide) rfl rfl ?_
        exact AW.to (loop2 ((M 3 1).toNat ^ (M 3 4).toNat) 0 (by omega) (l8 := none)) (h2 := by rw [show k = (M 3 4).toNat by omega]; rfl)
      · skip
        omega
    | succ q ih =>
      intro k hk
      refine st_iload dX4_sleeping_25 rfl ?_
      refine st_aload_n dX4_sleeping_27 rfl ?_
      refine st_getfr dX4_sleeping_28 f_X4_18 (by first | assumption | rfl) (by rfl) ?_
      refine st_getfi dX4_sleeping_31 f_X4_56 (by first | assumption | rfl) (by rfl) ?_
      rw [e3]
      refine st_icmp_ge (tgt := 55) dX4_sleeping_34 (by omega) (by omega) rfl (fun h7 => ?_) (fun h7 => ?_)
      · skip
        omega
      · refine st_iload dX4_sleeping_37 rfl ?_
        refine st_aload_n dX4_sleeping_39 rfl ?_
        refine st_getfr dX4_sleeping_40 f_X4_18 (by first | assumption | rfl) (by rfl) ?_
        refine st_getfi dX4_sleeping_43 f_X4_87 (by first | assumption | rfl) (by rfl) ?_
        refine st_imul dX4_sleeping_46 ?_
        refine st_istore (L' := [_, _, _, _, _, _, _, _, _]) dX4_sleeping_47 (by decide) rfl rfl ?_
        refine st_iinc (L' := [_, _, _, _, _, _, _, _, _]) dX4_sleeping_49 rfl (by decide) rfl rfl ?_
        refine st_goto (tgt := 25) dX4_sleeping_52 rfl ?_
        rw [e3]
        exact AW.to (ih (k + 1) (by omega)) (h2 := by rw [show (((M 3 1).toNat ^ (k + 1) : Nat) : Int) = (((M 3 1).toNat ^ k : Nat) : Int) * M 3 1 from by rw [Nat.pow_succ, Int.natCast_mul]; congr 1; omega]; simp)
  exact AW.to (loop1 (M 3 4).toNat 0 (by omega))


/-! the system's Neighbours: what is heard, lifters, the least voice, what is bought -/
theorem hearP_rg {n : Nat} {df : Int} {st rm v : Nat → Int} {p : Nat} (hn : n ≤ 7) (hp : p < n) (h : ∀ q, q < n → 0 ≤ v q ∧ v q ≤ 30) : 0 ≤ hearP n df st rm v p ∧ hearP n df st rm v p ≤ 1000 := by
  have h1 := hsum_rng (f := hearF st rm v p) (c := 30) (fun q hq => hearF_rng (h q hq))
  have h2 := h p hp
  unfold hearP
  split
  · omega
  · omega
/-- the storey that one hears now, if all sing so -/
def hrd (M : q_Mem) (v : Nat → Int) (p : Nat) : Int := stof (M 4) (hearP (M 3 4).toNat (M 3 6) (g8 (M 3 12)) (g4 (M 3 13)) v p) ((M 3 3).toNat - 1) 0
theorem hrd_rng {M : q_Mem} (h3 : 0 ≤ M 3 3 ∧ M 3 3 ≤ 8) (v : Nat → Int) (p : Nat) : 0 ≤ hrd M v p ∧ hrd M v p < 8 := by
  have := stof_rng (M 4) (hearP (M 3 4).toNat (M 3 6) (g8 (M 3 12)) (g4 (M 3 13)) v p) ((M 3 3).toNat - 1) 0
  unfold hrd
  omega
theorem hrd_congr {M M' : q_Mem} {v v' : Nat → Int} {p : Nat} (h3 : M' 3 = M 3) (h4 : M' 4 = M 4) (hp : p < (M 3 4).toNat) (hv : ∀ q, q < (M 3 4).toNat → v' q = v q) : hrd M' v' p = hrd M v p := by
  unfold hrd
  rw [h3, h4, hearP_congr hp (fun _ _ => rfl) (fun _ _ => rfl) hv]
theorem C_storeyHeard {G : q_G} {d : Nat} {M : q_Mem} {N : q_MemL} {p : Nat} (hd : 2 ≤ d) (hM : Hrg M 3) (h12 : 0 ≤ M 3 12 ∧ M 3 12 < 1073741824) (hp : p < (M 3 4).toNat) (hv : Sok M 104 (M 3 4).toNat) : AC0 G d m_X4_storeyHeard [.ref 103, I p] M N (CV (PU (I (hrd M (M 104) p)) M N)) := by
  have hH : isHome 3 := Or.inl rfl
  have hr := hearP_rg (df := M 3 6) (st := g8 (M 3 12)) (rm := g4 (M 3 13)) (v := M 104) (n := (M 3 4).toNat) (by have := hM.2.2.1; omega) hp hv
  refine AC.of (L0 := [_, _]) pn_X4 (Nat.le_of_ble_eq_true rfl) rfl ?_
  refine st_aload_n dX4_storeyHeard_0 rfl ?_
  refine st_getfr dX4_storeyHeard_1 f_X4_18 (by first | assumption | rfl) (by rfl) ?_
  refine st_aload_n dX4_storeyHeard_4 rfl ?_
  refine st_getfr dX4_storeyHeard_5 f_X4_18 (by first | assumption | rfl) (by rfl) ?_
  refine st_iload_n dX4_storeyHeard_8 rfl ?_
  refine st_aload_n dX4_storeyHeard_9 rfl ?_
  refine st_getfr dX4_storeyHeard_10 f_X4_18 (by first | assumption | rfl) (by rfl) ?_
  refine st_getfi dX4_storeyHeard_13 f_X4_71 (by first | assumption | rfl) (by rfl) ?_
  refine st_aload_n dX4_storeyHeard_16 rfl ?_
  refine st_getfr dX4_storeyHeard_17 f_X4_18 (by first | assumption | rfl) (by rfl) ?_
  refine st_getfi dX4_storeyHeard_20 f_X4_74 (by first | assumption | rfl) (by rfl) ?_
  refine st_aload_n dX4_storeyHeard_23 rfl ?_
  refine st_getfr dX4_storeyHeard_24 f_X4_9 (by first | assumption | rfl) (by rfl) ?_
  refine c_V4p (d' := d - 1) dX4_storeyHeard_27 l_X4_77 k_X2_heardBy i_X2_heardBy (Or.inl ⟨_, _, _, _, _, (by first | assumption | rfl), by rfl⟩) (by omega) (Nat.le_of_ble_eq_true rfl) (C_heardBy hH (by omega) hM sh_104 (by decide) hp (by omega) (by have := hM.2.2.2.2.2.1; omega) hv) ?_
  refine c_V1p (d' := d - 1) dX4_storeyHeard_30 l_X4_81 k_X2_storeyOf i_X2_storeyOf (Or.inl ⟨_, _, _, _, _, (by first | assumption | rfl), by rfl⟩) (by omega) (Nat.le_of_ble_eq_true rfl) (C_stof hH (by omega) hM.2.1 hM.2.2.2.2.2.2.1 (by omega)) ?_
  exact r_i dX4_storeyHeard_33 rfl ⟨rfl, rfl, rfl⟩
def pw (p : Nat) : Int := ((2 ^ p : Nat) : Int)
theorem pw_rng {p : Nat} (hp : p < 7) : 0 ≤ pw p ∧ pw p < 128 := by
  have h : 2 ^ p < 2 ^ 7 := Nat.pow_lt_pow_right (by omega) hp
  exact ⟨Int.natCast_nonneg _, Int.ofNat_lt.2 h⟩
theorem z_pw {p : Nat} (hp : p < 32) : zi 1 <<< (zi p &&& 31) = zi (pw p) := by
  rw [show (1 : Int) = ((1 : Nat) : Int) from rfl, zi_shl _ _ hp, Nat.one_mul]
  rfl
/-- sung now, but for these -/
abbrev nowV (M : q_Mem) (s : Int) : Nat → Int := toldV M 3 (M 3 11) s
def lifM (M : q_Mem) (p : Nat) : Nat → Int
  | 0 => 0
  | n + 1 => if n ≠ p ∧ hrd M (nowV M (pw n)) p < hrd M (nowV M 0) p then orb (lifM M p n) n else lifM M p n
theorem lifM_rng (M : q_Mem) (p : Nat) : ∀ n, n ≤ 7 → 0 ≤ lifM M p n ∧ lifM M p n < 128
  | 0, _ => by simp [lifM]
  | n + 1, h => by
    have := lifM_rng M p n (by omega)
    unfold lifM
    split
    · exact orb_rng this (by omega)
    · exact this
theorem C_lifters {G : q_G} {d : Nat} {M : q_Mem} {N : q_MemL} {p : Nat} (hd : 4 ≤ d) (hM : Hrg M 3) (h11 : 0 ≤ M 3 11 ∧ M 3 11 ≤ 10000) (h12 : 0 ≤ M 3 12 ∧ M 3 12 < 1073741824) (hp : p < (M 3 4).toNat) : AC0 G d m_X4_lifters [.ref 103, I p] M N (CV (fun x M' N' => x = I (lifM M p (M 3 4).toNat) ∧ N' = N ∧ Exc [104] M M')) := by
  have hH : isHome 3 := Or.inl rfl
  have h4 := hM.2.2.1
  refine AC.of (L0 := [_, _, none, none, none]) pn_X4 (Nat.le_of_ble_eq_true rfl) rfl ?_
  refine st_aload_n dX4_lifters_0 rfl ?_
  refine st_getfr dX4_lifters_1 f_X4_18 (by first | assumption | rfl) (by rfl) ?_
  refine st_aload_n dX4_lifters_4 rfl ?_
  refine st_getfr dX4_lifters_5 f_X4_18 (by first | assumption | rfl) (by rfl) ?_
  refine st_getfi dX4_lifters_8 f_X4_26 (by first | assumption | rfl) (by rfl) ?_
  refine st_iconst dX4_lifters_11 ?_
  refine st_aload_n dX4_lifters_12 rfl ?_
  refine st_getfr dX4_lifters_13 f_X4_9 (by first | assumption | rfl) (by rfl) ?_
  refine c_V3v (d' := d - 1) dX4_lifters_16 l_X4_32 k_X2_tell i_X2_tell (Or.inl ⟨_, _, _, _, _, (by first | assumption | rfl), by rfl⟩) (by omega) (Nat.le_of_ble_eq_true rfl) (C_tellV hH (by omega) hM sh_104 (by decide) (by decide) (by omega) (by omega)) (fun M1 N1 hx => ?_)
  obtain ⟨rfl, hE, hv, -⟩ := hx
  have e3 := hE 3 (by decide)
  refine st_aload_n dX4_lifters_19 rfl ?_
  refine st_iload_n dX4_lifters_20 rfl ?_
  refine c_V1p (d' := d - 1) dX4_lifters_21 l_X4_84 k_X4_storeyHeard i_X4_storeyHeard (Or.inl ⟨_, _, _, _, _, (by first | assumption | rfl), by rfl⟩) (by omega) (Nat.le_of_ble_eq_true rfl) (C_storeyHeard (by omega) (hM.exc hE (by decide) (by decide) (by decide) (by decide)) (by rw [e3]; exact h12) (by rw [e3]; exact hp) (toldS hM e3 hv)) ?_
  rw [hrd_congr (M := M) (v := nowV M 0) e3 (hE 4 (by decide)) hp hv]
  refine st_istore_n (L' := [_, _, _, _, _]) dX4_lifters_24 (by decide) rfl rfl ?_
  refine st_iconst dX4_lifters_25 ?_
  refine st_istore_n (L' := [_, _, _, _, _]) dX4_lifters_26 (by decide) rfl rfl ?_
  refine st_iconst dX4_lifters_27 ?_
  refine st_istore (L' := [_, _, _, _, _]) dX4_lifters_28 (by decide) rfl rfl ?_
  have loop : ∀ (q k : Nat) (M1 : q_Mem), k + q = (M 3 4).toNat → Exc [104] M M1 → AW0 G d m_X4_lifters 30 [some (.ref 103), some (I p), some (I (hrd M (nowV M 0) p)), some (I (lifM M p k)), some (I k)] [] M1 N1 (CV (fun x M' N' => x = I (lifM M p (M 3 4).toNat) ∧ N' = N1 ∧ Exc [104] M M')) := by
    intro q
    induction q with
    | zero =>
      intro k M1 hk hE
      have e3 := hE 3 (by decide)
      refine st_iload dX4_lifters_30 rfl ?_
      refine st_aload_n dX4_lifters_32 rfl ?_
      refine st_getfr dX4_lifters_33 f_X4_18 (by first | assumption | rfl) (by rfl) ?_
      refine st_getfi dX4_lifters_36 f_X4_56 (by first | assumption | rfl) (by rfl) ?_
      rw [e3]
      refine st_icmp_ge (tgt := 92) dX4_lifters_39 (by omega) (by omega) rfl (fun h => ?_) (fun h => ?_)
      · refine st_iload_n dX4_lifters_92 rfl ?_
        exact r_i dX4_lifters_93 rfl ⟨by rw [show k = (M 3 4).toNat by omega], rfl, hE⟩
      · skip
        omega
    | succ q ih =>
      intro k M1 hk hE
      have e3 := hE 3 (by decide)
      have hpw := pw_rng (p := k) (by omega)
      have hl := lifM_rng M p k (by omega)
      have hr1 := hrd_rng hM.2.1 (nowV M (pw k)) p
      have hr2 := hrd_rng hM.2.1 (nowV M 0) p
      refine st_iload dX4_lifters_30 rfl ?_
      refine st_aload_n dX4_lifters_32 rfl ?_
      refine st_getfr dX4_lifters_33 f_X4_18 (by first | assumption | rfl) (by rfl) ?_
      refine st_getfi dX4_lifters_36 f_X4_56 (by first | assumption | rfl) (by rfl) ?_
      rw [e3]
      refine st_icmp_ge (tgt := 92) dX4_lifters_39 (by omega) (by omega) rfl (fun h => ?_) (fun h => ?_)
      · skip
        omega
      · refine st_aload_n dX4_lifters_42 rfl ?_
        refine st_getfr dX4_lifters_43 f_X4_18 (by first | assumption | rfl) (by rfl) ?_
        refine st_aload_n dX4_lifters_46 rfl ?_
        refine st_getfr dX4_lifters_47 f_X4_18 (by first | assumption | rfl) (by rfl) ?_
        refine st_getfi dX4_lifters_50 f_X4_26 (by first | assumption | rfl) (by rfl) ?_
        refine st_iconst dX4_lifters_53 ?_
        refine st_iload dX4_lifters_54 rfl ?_
        refine st_ishl dX4_lifters_56 ?_
        refine AW.top (z_pw (by omega)) ?_
        refine st_aload_n dX4_lifters_57 rfl ?_
        refine st_getfr dX4_lifters_58 f_X4_9 (by first | assumption | rfl) (by rfl) ?_
        refine c_V3v (d' := d - 1) dX4_lifters_61 l_X4_32 k_X2_tell i_X2_tell (Or.inl ⟨_, _, _, _, _, (by first | assumption | rfl), by rfl⟩) (by omega) (Nat.le_of_ble_eq_true rfl) (C_tellV hH (by omega) (hM.exc hE (by decide) (by decide) (by decide) (by decide)) sh_104 (by decide) (by decide) (by rw [e3]; omega) (by omega)) (fun M2 N2 hx2 => ?_)
        obtain ⟨rfl, hE2, hv2, -⟩ := hx2
        rw [toldV_congr e3 (hE 7 (by decide)), e3] at hv2
        have hE3 := hE.tr hE2
        have e32 := hE3 3 (by decide)
        refine st_iload dX4_lifters_64 rfl ?_
        refine st_iload_n dX4_lifters_66 rfl ?_
        refine st_icmp_eq (tgt := 86) dX4_lifters_67 (by omega) (by omega) rfl (fun h6 => ?_) (fun h6 => ?_)
        · refine st_iinc (L' := [_, _, _, _, _]) dX4_lifters_86 rfl (by decide) rfl rfl ?_
          refine st_goto (tgt := 30) dX4_lifters_89 rfl ?_
          exact AW.to (ih (k + 1) M2 (by omega) hE3) (h2 := by rw [show lifM M p (k + 1) = lifM M p k from if_neg (by omega)]; simp)
        · refine st_aload_n dX4_lifters_70 rfl ?_
          refine st_iload_n dX4_lifters_71 rfl ?_
          refine c_V1p (d' := d - 1) dX4_lifters_72 l_X4_84 k_X4_storeyHeard i_X4_storeyHeard (Or.inl ⟨_, _, _, _, _, (by first | assumption | rfl), by rfl⟩) (by omega) (Nat.le_of_ble_eq_true rfl) (C_storeyHeard (by omega) (hM.exc hE3 (by decide) (by decide) (by decide) (by decide)) (by rw [e32]; exact h12) (by rw [e32]; exact hp) (toldS hM e32 hv2)) ?_
          rw [hrd_congr (M := M) (v := nowV M (pw k)) e32 (hE3 4 (by decide)) hp hv2]
          refine st_iload_n dX4_lifters_75 rfl ?_
          refine st_icmp_ge (tgt := 86) dX4_lifters_76 (by omega) (by omega) rfl (fun h8 => ?_) (fun h8 => ?_)
          · refine st_iinc (L' := [_, _, _, _, _]) dX4_lifters_86 rfl (by decide) rfl rfl ?_
            refine st_goto (tgt := 30) dX4_lifters_89 rfl ?_
            exact AW.to (ih (k + 1) M2 (by omega) hE3) (h2 := by rw [show lifM M p (k + 1) = lifM M p k from if_neg (by omega)]; simp)
          · refine st_iload_n dX4_lifters_79 rfl ?_
            refine st_iconst dX4_lifters_80 ?_
            refine st_iload dX4_lifters_81 rfl ?_
            refine st_ishl dX4_lifters_83 ?_
            refine st_ior dX4_lifters_84 ?_
            refine AW.topv (show _ = I (orb (lifM M p k) k) from congrArg Value.int (z_set hl.1 (by omega))) ?_
            refine st_istore_n (L' := [_, _, _, _, _]) dX4_lifters_85 (by decide) rfl rfl ?_
            refine st_iinc (L' := [_, _, _, _, _]) dX4_lifters_86 rfl (by decide) rfl rfl ?_
            refine st_goto (tgt := 30) dX4_lifters_89 rfl ?_
            exact AW.to (ih (k + 1) M2 (by omega) hE3) (h2 := by rw [show lifM M p (k + 1) = orb (lifM M p k) k from if_pos (by omega)]; simp)
  exact loop (M 3 4).toNat 0 M1 (by omega) hE
/-- who sings so, and all others as told -/
def oneV (M : q_Mem) (p : Nat) (x : Int) : Nat → Int := fun q => if q = p then x else nowV M 0 q
def lvF (M : q_Mem) (p : Nat) (s : Int) : Nat → Nat → Int
  | 0, _ => -2
  | n + 1, k => if hrd M (oneV M p k) p = s then k else lvF M p s n (k + 1)
theorem C_leastVoice {G : q_G} {d : Nat} {M : q_Mem} {N : q_MemL} {p : Nat} {s : Int} (hd : 4 ≤ d) (hM : Hrg M 3) (h11 : 0 ≤ M 3 11 ∧ M 3 11 ≤ 10000) (h12 : 0 ≤ M 3 12 ∧ M 3 12 < 1073741824) (hp : p < (M 3 4).toNat) (hs : -2147483648 ≤ s ∧ s < 2147483648) : AC0 G d m_X4_leastVoice [.ref 103, I p, I s] M N (CV (fun x M' N' => x = I (lvF M p s 31 0) ∧ N' = N ∧ Exc [104] M M')) := by
  have hH : isHome 3 := Or.inl rfl
  have h4 := hM.2.2.1
  have hnv : ∀ q, 0 ≤ nowV M 0 q ∧ nowV M 0 q ≤ 30 := fun q => toldV_rng hM.2.2.2.2.2.2.2.2 q
  refine AC.of (L0 := [_, _, _, none]) pn_X4 (Nat.le_of_ble_eq_true rfl) rfl ?_
  refine st_aload_n dX4_leastVoice_0 rfl ?_
  refine st_getfr dX4_leastVoice_1 f_X4_18 (by first | assumption | rfl) (by rfl) ?_
  refine st_aload_n dX4_leastVoice_4 rfl ?_
  refine st_getfr dX4_leastVoice_5 f_X4_18 (by first | assumption | rfl) (by rfl) ?_
  refine st_getfi dX4_leastVoice_8 f_X4_26 (by first | assumption | rfl) (by rfl) ?_
  refine st_iconst dX4_leastVoice_11 ?_
  refine st_aload_n dX4_leastVoice_12 rfl ?_
  refine st_getfr dX4_leastVoice_13 f_X4_9 (by first | assumption | rfl) (by rfl) ?_
  refine c_V3v (d' := d - 1) dX4_leastVoice_16 l_X4_32 k_X2_tell i_X2_tell (Or.inl ⟨_, _, _, _, _, (by first | assumption | rfl), by rfl⟩) (by omega) (Nat.le_of_ble_eq_true rfl) (C_tellV hH (by omega) hM sh_104 (by decide) (by decide) (by omega) (by omega)) (fun M1 N1 hx => ?_)
  obtain ⟨rfl, hE, hv, -⟩ := hx
  refine st_iconst dX4_leastVoice_19 ?_
  refine st_istore_n (L' := [_, _, _, _]) dX4_leastVoice_20 (by decide) rfl rfl ?_
  have loop : ∀ (q k : Nat) (M1 : q_Mem), k + q = 31 → Exc [104] M M1 → (∀ j, j < (M 3 4).toNat → ¬ j = p → M1 104 j = nowV M 0 j) → lvF M p s q k = lvF M p s 31 0 → AW0 G d m_X4_leastVoice 21 [some (.ref 103), some (I p), some (I s), some (I k)] [] M1 N1 (CV (fun x M' N' => x = I (lvF M p s 31 0) ∧ N' = N1 ∧ Exc [104] M M')) := by
    intro q
    induction q with
    | zero =>
      intro k M1 hk hE hv hF
      refine st_iload_n dX4_leastVoice_21 rfl ?_
      refine st_bipush dX4_leastVoice_22 (by decide) ?_
      refine st_icmp_gt (tgt := 53) dX4_leastVoice_24 (by omega) (by omega) rfl (fun h => ?_) (fun h => ?_)
      · refine st_bipush dX4_leastVoice_53 (by decide) ?_
        exact r_i dX4_leastVoice_55 rfl ⟨by rw [← hF]; rfl, rfl, hE⟩
      · skip
        omega
    | succ q ih =>
      intro k M1 hk hE hv hF
      refine st_iload_n dX4_leastVoice_21 rfl ?_
      refine st_bipush dX4_leastVoice_22 (by decide) ?_
      refine st_icmp_gt (tgt := 53) dX4_leastVoice_24 (by omega) (by omega) rfl (fun h => ?_) (fun h => ?_)
      · skip
        omega
      · refine st_aload_n dX4_leastVoice_27 rfl ?_
        refine st_getfr dX4_leastVoice_28 f_X4_9 (by first | assumption | rfl) (by rfl) ?_
        refine st_iload_n dX4_leastVoice_31 rfl ?_
        refine st_iload_n dX4_leastVoice_32 rfl ?_
        refine c_S3v (d' := d - 1) dX4_leastVoice_33 l_X4_63 k_X10_put s_X10_put (by omega) (Nat.le_of_ble_eq_true rfl) (C_putI sh_104 (by omega) (by omega)) (fun M2 N2 hx2 => ?_)
        obtain ⟨hM2, rfl⟩ := hx2
        have hE2 : Exc [104] M M2 := hM2 ▸ hE.tr (Exc.up (by decide))
        have e32 := hE2 3 (by decide)
        have hv2 : ∀ j, j < (M 3 4).toNat → M2 104 j = oneV M p k j := by
          intro j hj
          rw [hM2]
          unfold oneV
          by_cases q1 : j = p
          · rw [if_pos q1]
            simp [q_up, q1]
          · rw [if_neg q1, ← hv j hj q1]
            simp [q_up, q1]
        have hr1 := hrd_rng hM.2.1 (oneV M p k) p
        refine st_aload_n dX4_leastVoice_36 rfl ?_
        refine st_iload_n dX4_leastVoice_37 rfl ?_
        refine c_V1p (d' := d - 1) dX4_leastVoice_38 l_X4_84 k_X4_storeyHeard i_X4_storeyHeard (Or.inl ⟨_, _, _, _, _, (by first | assumption | rfl), by rfl⟩) (by omega) (Nat.le_of_ble_eq_true rfl) (C_storeyHeard (by omega) (hM.exc hE2 (by decide) (by decide) (by decide) (by decide)) (by rw [e32]; exact h12) (by rw [e32]; exact hp) (fun j hj => by rw [e32] at hj; rw [hv2 j hj]; have := hnv j; unfold oneV; split <;> omega)) ?_
        rw [hrd_congr (M := M) (v := oneV M p k) e32 (hE2 4 (by decide)) hp hv2]
        refine st_iload_n dX4_leastVoice_41 rfl ?_
        refine st_icmp_ne (tgt := 47) dX4_leastVoice_42 (by omega) (by omega) rfl (fun h8 => ?_) (fun h8 => ?_)
        · refine st_iinc (L' := [_, _, _, _]) dX4_leastVoice_47 rfl (by decide) rfl rfl ?_
          refine st_goto (tgt := 21) dX4_leastVoice_50 rfl ?_
          have e : lvF M p s (q + 1) k = lvF M p s q (k + 1) := if_neg h8
          rw [e] at hF
          exact AW.to (ih (k + 1) M2 (by omega) hE2 (fun j hj hjp => by rw [hv2 j hj]; exact if_neg hjp) hF) (h2 := by simp)
        · refine st_iload_n dX4_leastVoice_45 rfl ?_
          have e : lvF M p s (q + 1) k = k := if_pos (by omega)
          rw [e] at hF
          exact r_i dX4_leastVoice_46 rfl ⟨by rw [← hF], rfl, hE2⟩
  exact loop 31 0 M1 (by omega) hE (fun j hj _ => hv j hj) rfl


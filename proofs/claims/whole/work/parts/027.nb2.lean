/-! the system's Neighbours: what is bought, who sleeps where -/
def priF (M : q_Mem) (s : Int) (q : Nat) : Int := if s.toNat.testBit q = true then M 5 q else 0
def priS (M : q_Mem) (s : Int) : Int := hsum (priF M s) (M 3 4).toNat
theorem C_priceOf {G : q_G} {d : Nat} {M : q_Mem} {N : q_MemL} {s : Int} (hd : 1 ≤ d) (h4 : 0 ≤ M 3 4 ∧ M 3 4 ≤ 7) (hs : 0 ≤ s ∧ s < 2147483648) : AC0 G d m_X4_priceOf [.ref 103, I s] M N (CV (PU (I (priS M s)) M N)) := by
  refine AC.of (L0 := [_, _, none, none]) pn_X4 (Nat.le_of_ble_eq_true rfl) rfl ?_
  refine st_iconst dX4_priceOf_0 ?_
  refine st_istore_n (L' := [_, _, _, _]) dX4_priceOf_1 (by decide) rfl rfl ?_
  refine st_iconst dX4_priceOf_2 ?_
  refine st_istore_n (L' := [_, _, _, _]) dX4_priceOf_3 (by decide) rfl rfl ?_
  have loop : ∀ (q k : Nat), k + q = (M 3 4).toNat → AW0 G d m_X4_priceOf 4 [some (.ref 103), some (I s), some (I (hsum (priF M s) k)), some (I k)] [] M N (CV (PU (I (priS M s)) M N)) := by
    intro q
    induction q with
    | zero =>
      intro k hk
      refine st_iload_n dX4_priceOf_4 rfl ?_
      refine st_aload_n dX4_priceOf_5 rfl ?_
      refine st_getfr dX4_priceOf_6 f_X4_18 (by first | assumption | rfl) (by rfl) ?_
      refine st_getfi dX4_priceOf_9 f_X4_56 (by first | assumption | rfl) (by rfl) ?_
      refine st_icmp_ge (tgt := 47) dX4_priceOf_12 (by omega) (by omega) rfl (fun h => ?_) (fun h => ?_)
      · refine st_iload_n dX4_priceOf_47 rfl ?_
        exact r_i dX4_priceOf_48 rfl ⟨by rw [priS, show k = (M 3 4).toNat by omega], rfl, rfl⟩
      · skip
        omega
    | succ q ih =>
      intro k hk
      have e : hsum (priF M s) (k + 1) = hsum (priF M s) k + priF M s k := rfl
      refine st_iload_n dX4_priceOf_4 rfl ?_
      refine st_aload_n dX4_priceOf_5 rfl ?_
      refine st_getfr dX4_priceOf_6 f_X4_18 (by first | assumption | rfl) (by rfl) ?_
      refine st_getfi dX4_priceOf_9 f_X4_56 (by first | assumption | rfl) (by rfl) ?_
      refine st_icmp_ge (tgt := 47) dX4_priceOf_12 (by omega) (by omega) rfl (fun h => ?_) (fun h => ?_)
      · skip
        omega
      · refine st_iload_n dX4_priceOf_15 rfl ?_
        refine st_iload_n dX4_priceOf_16 rfl ?_
        refine st_iload_n dX4_priceOf_17 rfl ?_
        refine c_S2p (d' := d - 1) dX4_priceOf_18 l_X4_59 k_X10_has s_X10_has (by omega) (Nat.le_of_ble_eq_true rfl) (C_has hs (by omega)) ?_
        refine b_eq (tgt := 38) dX4_priceOf_21 rfl (fun h3 => ?_) (fun h3 => ?_)
        · refine st_iconst dX4_priceOf_38 ?_
          refine st_iadd dX4_priceOf_39 ?_
          refine st_istore_n (L' := [_, _, _, _]) dX4_priceOf_40 (by decide) rfl rfl ?_
          refine st_iinc (L' := [_, _, _, _]) dX4_priceOf_41 rfl (by decide) rfl rfl ?_
          refine st_goto (tgt := 4) dX4_priceOf_44 rfl ?_
          rw [show priF M s k = 0 from if_neg h3] at e
          exact AW.to (ih (k + 1) (by omega)) (h2 := by rw [e]; simp)
        · refine st_aload_n dX4_priceOf_24 rfl ?_
          refine st_getfr dX4_priceOf_25 f_X4_18 (by first | assumption | rfl) (by rfl) ?_
          refine st_getfr dX4_priceOf_28 f_X4_112 (by first | assumption | rfl) (by rfl) ?_
          refine st_iload_n dX4_priceOf_31 rfl ?_
          refine c_S2p (d' := d - 1) dX4_priceOf_32 l_X4_67 k_X10_cell s_X10_cell (by omega) (Nat.le_of_ble_eq_true rfl) (C_cellI sh_5 (by decide) (by omega)) ?_
          rw [show priF M s k = M 5 k from if_pos h3] at e
          refine st_goto (tgt := 39) dX4_priceOf_35 rfl ?_
          refine st_iadd dX4_priceOf_39 ?_
          refine st_istore_n (L' := [_, _, _, _]) dX4_priceOf_40 (by decide) rfl rfl ?_
          refine st_iinc (L' := [_, _, _, _]) dX4_priceOf_41 rfl (by decide) rfl rfl ?_
          refine st_goto (tgt := 4) dX4_priceOf_44 rfl ?_
          exact AW.to (ih (k + 1) (by omega)) (h2 := by rw [e]; simp)
  exact loop (M 3 4).toNat 0 (by omega)
/-- of the first k sets the one that is bought, and its price -/
def bgF (M : q_Mem) (p : Nat) (al : Int) : Nat → Int × Int
  | 0 => (-1, 0)
  | k + 1 => if ¬ k.testBit p = true ∧ ((bgF M p al k).1 = -1 ∨ priS M k < (bgF M p al k).2) ∧ hrd M (nowV M k) p = al then ((k : Int), priS M k) else bgF M p al k
theorem bgF_rng (M : q_Mem) (p : Nat) (al : Int) (hp : ∀ s, 0 ≤ priS M s ∧ priS M s < 1000) : ∀ k, (-1 ≤ (bgF M p al k).1 ∧ (bgF M p al k).1 < k) ∧ 0 ≤ (bgF M p al k).2 ∧ (bgF M p al k).2 < 1000
  | 0 => by simp [bgF]
  | k + 1 => by
    have := bgF_rng M p al hp k
    have h2 := hp k
    unfold bgF
    split
    · refine ⟨⟨?_, ?_⟩, h2⟩
      · show -1 ≤ (k : Int)
        omega
      · show (k : Int) < _
        omega
    · omega
def aloS (M : q_Mem) (p : Nat) : Int := stof (M 4) (M 7 (p * 6 + (hourOf (M 3 2) (M 3 11)).toNat)) ((M 3 3).toNat - 1) 0
def A_bought (M : q_Mem) (p : Nat) (what : Int) : Int := if (bgF M p (aloS M p) (2 ^ (M 3 4).toNat)).1 = -1 then -2 else if what = 0 then (bgF M p (aloS M p) (2 ^ (M 3 4).toNat)).2 else (bgF M p (aloS M p) (2 ^ (M 3 4).toNat)).1
theorem priS_rng {M : q_Mem} (h4 : 0 ≤ M 3 4 ∧ M 3 4 ≤ 7) (h5 : ∀ k, 0 ≤ M 5 k ∧ M 5 k ≤ 99) (s : Int) : 0 ≤ priS M s ∧ priS M s < 1000 := by
  have := hsum_rng (f := priF M s) (c := 99) (n := (M 3 4).toNat) (fun q _ => by have := h5 q; unfold priF; split <;> omega)
  unfold priS
  omega
theorem C_bought {G : q_G} {d : Nat} {M : q_Mem} {N : q_MemL} {p : Nat} {what : Int} (hd : 4 ≤ d) (hM : Hrg M 3) (h11 : 0 ≤ M 3 11 ∧ M 3 11 ≤ 10000) (h12 : 0 ≤ M 3 12 ∧ M 3 12 < 1073741824) (h5 : ∀ k, 0 ≤ M 5 k ∧ M 5 k ≤ 99) (hp : p < (M 3 4).toNat) (hw : -2147483648 ≤ what ∧ what < 2147483648) : AC0 G d m_X4_bought [.ref 103, I p, I what] M N (CV (fun x M' N' => x = I (A_bought M p what) ∧ N' = N ∧ Exc [104] M M')) := by
  have hH : isHome 3 := Or.inl rfl
  have h4 := hM.2.2.1
  have hh := hourOf_rng (h := M 3 2) (b := M 3 11) h11.1
  have hpr := priS_rng h4 h5
  have hpn : 2 ^ (M 3 4).toNat ≤ 2 ^ 7 := Nat.pow_le_pow_right (by omega) (by omega)
  have hpn2 : (2 : Nat) ^ 7 = 128 := rfl
  have hpw : pw (M 3 4).toNat = ((2 ^ (M 3 4).toNat : Nat) : Int) := rfl
  generalize hP : 2 ^ (M 3 4).toNat = P at hpn hpw
  have hal := stof_rng (M 4) (M 7 (p * 6 + (hourOf (M 3 2) (M 3 11)).toNat)) ((M 3 3).toNat - 1) 0
  have hvo := hM.2.2.2.2.2.2.2.2 (p * 6 + (hourOf (M 3 2) (M 3 11)).toNat)
  rw [show 3 + 4 = 7 from rfl] at hvo
  have h2 := hM.1
  refine AC.of (L0 := [_, _, _, none, none, none, none, none]) pn_X4 (Nat.le_of_ble_eq_true rfl) rfl ?_
  refine st_aload_n dX4_bought_0 rfl ?_
  refine st_getfr dX4_bought_1 f_X4_18 (by first | assumption | rfl) (by rfl) ?_
  refine st_aload_n dX4_bought_4 rfl ?_
  refine st_getfr dX4_bought_5 f_X4_18 (by first | assumption | rfl) (by rfl) ?_
  refine st_iload_n dX4_bought_8 rfl ?_
  refine st_aload_n dX4_bought_9 rfl ?_
  refine st_getfr dX4_bought_10 f_X4_18 (by first | assumption | rfl) (by rfl) ?_
  refine st_aload_n dX4_bought_13 rfl ?_
  refine st_getfr dX4_bought_14 f_X4_18 (by first | assumption | rfl) (by rfl) ?_
  refine st_getfi dX4_bought_17 f_X4_26 (by first | assumption | rfl) (by rfl) ?_
  refine c_V1p (d' := d - 1) dX4_bought_20 l_X4_103 k_X2_hourAt i_X2_hourAt (Or.inl ⟨_, _, _, _, _, (by first | assumption | rfl), by rfl⟩) (by omega) (Nat.le_of_ble_eq_true rfl) (C_hourAt hH h2 (by omega)) ?_
  refine c_V2p (d' := d - 1) dX4_bought_23 l_X4_106 k_X2_voice i_X2_voice (Or.inl ⟨_, _, _, _, _, (by first | assumption | rfl), by rfl⟩) (by omega) (Nat.le_of_ble_eq_true rfl) (C_voice hH (by omega) (by omega) (by omega)) ?_
  rw [show ((p : Int) * 6 + hourOf (M 3 2) (M 3 11)).toNat = p * 6 + (hourOf (M 3 2) (M 3 11)).toNat by omega]
  refine c_V1p (d' := d - 1) dX4_bought_26 l_X4_81 k_X2_storeyOf i_X2_storeyOf (Or.inl ⟨_, _, _, _, _, (by first | assumption | rfl), by rfl⟩) (by omega) (Nat.le_of_ble_eq_true rfl) (C_stof hH (by omega) hM.2.1 hM.2.2.2.2.2.2.1 (by show -2147483648 ≤ M 7 _ ∧ M 7 _ < 2147483648; omega)) ?_
  refine st_istore_n (L' := [_, _, _, _, _, _, _, _]) dX4_bought_29 (by decide) rfl rfl ?_
  refine st_iconst dX4_bought_30 ?_
  refine st_istore (L' := [_, _, _, _, _, _, _, _]) dX4_bought_31 (by decide) rfl rfl ?_
  refine st_iconst dX4_bought_33 ?_
  refine st_istore (L' := [_, _, _, _, _, _, _, _]) dX4_bought_34 (by decide) rfl rfl ?_
  refine st_iconst dX4_bought_36 ?_
  refine st_istore (L' := [_, _, _, _, _, _, _, _]) dX4_bought_37 (by decide) rfl rfl ?_
  have loop : ∀ (q k : Nat) (M1 : q_Mem), k + q = P → Exc [104] M M1 → {l7 : Option Value} → AW0 G d m_X4_bought 39 [some (.ref 103), some (I p), some (I what), some (I (aloS M p)), some (I (bgF M p (aloS M p) k).1), some (I (bgF M p (aloS M p) k).2), some (I k), l7] [] M1 N (CV (fun x M' N' => x = I (A_bought M p what) ∧ N' = N ∧ Exc [104] M M')) := by
    intro q
    induction q with
    | zero =>
      intro k M1 hk hE l7
      have hkk : k = P := by omega
      have e3 := hE 3 (by decide)
      have hbr := bgF_rng M p (aloS M p) hpr k
      refine st_iload dX4_bought_39 rfl ?_
      refine st_iconst dX4_bought_41 ?_
      refine st_aload_n dX4_bought_42 rfl ?_
      refine st_getfr dX4_bought_43 f_X4_18 (by first | assumption | rfl) (by rfl) ?_
      refine st_getfi dX4_bought_46 f_X4_56 (by first | assumption | rfl) (by rfl) ?_
      refine st_ishl dX4_bought_49 ?_
      rw [e3, show (M 3 4) = (((M 3 4).toNat : Nat) : Int) by omega]
      refine AW.top (z_pw (by omega)) ?_
      rw [hpw]
      refine st_icmp_ge (tgt := 126) dX4_bought_50 (by omega) (by omega) rfl (fun h => ?_) (fun h => ?_)
      · refine st_iload dX4_bought_126 rfl ?_
        refine st_iconst dX4_bought_128 ?_
        refine st_icmp_ne (tgt := 135) dX4_bought_129 (by omega) (by omega) rfl (fun h2 => ?_) (fun h2 => ?_)
        · refine st_iload_n dX4_bought_135 rfl ?_
          refine st_if_ne (tgt := 144) dX4_bought_136 (by omega) rfl (fun h3 => ?_) (fun h3 => ?_)
          · refine st_iload dX4_bought_144 rfl ?_
            exact r_i dX4_bought_146 rfl ⟨by rw [A_bought, hP, ← hkk, if_neg h2, if_neg h3], rfl, hE⟩
          · refine st_iload dX4_bought_139 rfl ?_
            refine st_goto (tgt := 146) dX4_bought_141 rfl ?_
            exact r_i dX4_bought_146 rfl ⟨by rw [A_bought, hP, ← hkk, if_neg h2, if_pos (by omega)], rfl, hE⟩
        · refine st_bipush dX4_bought_132 (by decide) ?_
          exact r_i dX4_bought_134 rfl ⟨by rw [A_bought, hP, ← hkk, if_pos (by omega)], rfl, hE⟩
      · skip
        omega
    | succ q ih =>
      intro k M1 hk hE l7
      have e3 := hE 3 (by decide)
      have e5 := hE 5 (by decide)
      have hbr := bgF_rng M p (aloS M p) hpr k
      have hprk := hpr k
      have hes : ∀ s, priS M1 s = priS M s := fun s => by unfold priS; rw [e3]; exact hsum_congr (fun q _ => by unfold priF; rw [e5])
      have hsk : ∀ {P : Prop}, ¬ (¬ k.testBit p = true ∧ ((bgF M p (aloS M p) k).1 = -1 ∨ priS M k < (bgF M p (aloS M p) k).2) ∧ hrd M (nowV M k) p = aloS M p) → bgF M p (aloS M p) (k + 1) = bgF M p (aloS M p) k := fun {P} h => if_neg h
      refine st_iload dX4_bought_39 rfl ?_
      refine st_iconst dX4_bought_41 ?_
      refine st_aload_n dX4_bought_42 rfl ?_
      refine st_getfr dX4_bought_43 f_X4_18 (by first | assumption | rfl) (by rfl) ?_
      refine st_getfi dX4_bought_46 f_X4_56 (by first | assumption | rfl) (by rfl) ?_
      refine st_ishl dX4_bought_49 ?_
      rw [e3, show (M 3 4) = (((M 3 4).toNat : Nat) : Int) by omega]
      refine AW.top (z_pw (by omega)) ?_
      rw [hpw]
      refine st_icmp_ge (tgt := 126) dX4_bought_50 (by omega) (by omega) rfl (fun h => ?_) (fun h => ?_)
      · skip
        omega
      · refine st_aload_n dX4_bought_53 rfl ?_
        refine st_iload dX4_bought_54 rfl ?_
        refine c_V1p (d' := d - 1) dX4_bought_56 l_X4_109 k_X4_priceOf i_X4_priceOf (Or.inl ⟨_, _, _, _, _, (by first | assumption | rfl), by rfl⟩) (by omega) (Nat.le_of_ble_eq_true rfl) (C_priceOf (by omega) (by rw [e3]; exact h4) (by omega)) ?_
        rw [hes]
        refine st_istore (L' := [_, _, _, _, _, _, _, _]) dX4_bought_59 (by decide) rfl rfl ?_
        refine st_iload dX4_bought_61 rfl ?_
        refine st_iload_n dX4_bought_63 rfl ?_
        refine c_S2p (d' := d - 1) dX4_bought_64 l_X4_59 k_X10_has s_X10_has (by omega) (Nat.le_of_ble_eq_true rfl) (C_has (by omega) (by omega)) ?_
        rw [Int.toNat_natCast]
        refine b_ne (tgt := 120) dX4_bought_67 rfl (fun h3 => ?_) (fun h3 => ?_)
        · refine st_iinc (L' := [_, _, _, _, _, _, _, _]) dX4_bought_120 rfl (by decide) rfl rfl ?_
          refine st_goto (tgt := 39) dX4_bought_123 rfl ?_
          exact AW.to (ih (k + 1) M1 (by omega) hE (l7 := some (I (priS M k)))) (h2 := by rw [hsk (P := True) (fun z => z.1 h3)]; simp)
        · refine st_iload dX4_bought_70 rfl ?_
          refine st_iconst dX4_bought_72 ?_
          have cont : ((bgF M p (aloS M p) k).1 = -1 ∨ priS M k < (bgF M p (aloS M p) k).2) → AW0 G d m_X4_bought 83 [some (.ref 103), some (I p), some (I what), some (I (aloS M p)), some (I (bgF M p (aloS M p) k).1), some (I (bgF M p (aloS M p) k).2), some (I k), some (I (priS M k))] [] M1 N (CV (fun x M' N' => x = I (A_bought M p what) ∧ N' = N ∧ Exc [104] M M')) := by
            intro hc
            have hrk := hrd_rng hM.2.1 (nowV M k) p
            have hal2 : 0 ≤ aloS M p ∧ aloS M p < 8 := by unfold aloS; have := hM.2.1; omega
            refine st_aload_n dX4_bought_83 rfl ?_
            refine st_getfr dX4_bought_84 f_X4_18 (by first | assumption | rfl) (by rfl) ?_
            refine st_aload_n dX4_bought_87 rfl ?_
            refine st_getfr dX4_bought_88 f_X4_18 (by first | assumption | rfl) (by rfl) ?_
            refine st_getfi dX4_bought_91 f_X4_26 (by first | assumption | rfl) (by rfl) ?_
            refine st_iload dX4_bought_94 rfl ?_
            refine st_aload_n dX4_bought_96 rfl ?_
            refine st_getfr dX4_bought_97 f_X4_9 (by first | assumption | rfl) (by rfl) ?_
            refine c_V3v (d' := d - 1) dX4_bought_100 l_X4_32 k_X2_tell i_X2_tell (Or.inl ⟨_, _, _, _, _, (by first | assumption | rfl), by rfl⟩) (by omega) (Nat.le_of_ble_eq_true rfl) (C_tellV hH (by omega) (hM.exc hE (by decide) (by decide) (by decide) (by decide)) sh_104 (by decide) (by decide) (by rw [e3]; omega) (by omega)) (fun M2 N2 hx2 => ?_)
            obtain ⟨hN2, hE2, hv2, -⟩ := hx2
            rw [toldV_congr e3 (hE 7 (by decide)), e3] at hv2
            have hE3 := hE.tr hE2
            have e32 := hE3 3 (by decide)
            rw [hN2]
            refine st_aload_n dX4_bought_103 rfl ?_
            refine st_iload_n dX4_bought_104 rfl ?_
            refine c_V1p (d' := d - 1) dX4_bought_105 l_X4_84 k_X4_storeyHeard i_X4_storeyHeard (Or.inl ⟨_, _, _, _, _, (by first | assumption | rfl), by rfl⟩) (by omega) (Nat.le_of_ble_eq_true rfl) (C_storeyHeard (by omega) (hM.exc hE3 (by decide) (by decide) (by decide) (by decide)) (by rw [e32]; exact h12) (by rw [e32]; exact hp) (toldS hM e32 hv2)) ?_
            rw [hrd_congr (M := M) (v := nowV M k) e32 (hE3 4 (by decide)) hp hv2]
            refine st_iload_n dX4_bought_108 rfl ?_
            refine st_icmp_ne (tgt := 120) dX4_bought_109 (by omega) (by omega) rfl (fun h8 => ?_) (fun h8 => ?_)
            · refine st_iinc (L' := [_, _, _, _, _, _, _, _]) dX4_bought_120 rfl (by decide) rfl rfl ?_
              refine st_goto (tgt := 39) dX4_bought_123 rfl ?_
              exact AW.to (ih (k + 1) M2 (by omega) hE3 (l7 := some (I (priS M k)))) (h2 := by rw [hsk (P := True) (fun z => h8 z.2.2)]; simp)
            · refine st_iload dX4_bought_112 rfl ?_
              refine st_istore (L' := [_, _, _, _, _, _, _, _]) dX4_bought_114 (by decide) rfl rfl ?_
              refine st_iload dX4_bought_116 rfl ?_
              refine st_istore (L' := [_, _, _, _, _, _, _, _]) dX4_bought_118 (by decide) rfl rfl ?_
              refine st_iinc (L' := [_, _, _, _, _, _, _, _]) dX4_bought_120 rfl (by decide) rfl rfl ?_
              refine st_goto (tgt := 39) dX4_bought_123 rfl ?_
              have e : bgF M p (aloS M p) (k + 1) = ((k : Int), priS M k) := if_pos ⟨h3, hc, by omega⟩
              exact AW.to (ih (k + 1) M2 (by omega) hE3 (l7 := some (I (priS M k)))) (h2 := by rw [e]; simp)
          refine st_icmp_eq (tgt := 83) dX4_bought_73 (by omega) (by omega) rfl (fun h5 => ?_) (fun h5 => ?_)
          · skip
            exact cont (Or.inl h5)
          · refine st_iload dX4_bought_76 rfl ?_
            refine st_iload dX4_bought_78 rfl ?_
            refine st_icmp_ge (tgt := 120) dX4_bought_80 (by omega) (by omega) rfl (fun h6 => ?_) (fun h6 => ?_)
            · refine st_iinc (L' := [_, _, _, _, _, _, _, _]) dX4_bought_120 rfl (by decide) rfl rfl ?_
              refine st_goto (tgt := 39) dX4_bought_123 rfl ?_
              exact AW.to (ih (k + 1) M1 (by omega) hE (l7 := some (I (priS M k)))) (h2 := by rw [hsk (P := True) (fun z => by omega)]; simp)
            · skip
              exact cont (Or.inr (by omega))
  exact loop (P) 0 M (by omega) Exc.rf (l7 := none)


/-! the reference: who lifts, the least voice, quiet -/
theorem C_rlifted {G : q_G} {d : Nat} {B M : q_Mem} {N : q_MemL} {p : Int} (hd : 3 ≤ d) (hN : RN B M) (hp : i32 p) : AC0 G d m_X11_lifted [.ref 112, I p] M N (CV (fun v M' N' => v = I (A_lifted B p) ∧ N' = N ∧ Exc [143] M M')) := by
  obtain ⟨hB, hT, hP, hW, hb6⟩ := id hN
  obtain ⟨h0, h1, h2, h3, h4, h5, h6, h11, h12, h13, h15, h17, h18, -⟩ := id hB
  have hpp := hp
  unfold i32 at hpp
  refine AC.of (L0 := [_, _, none, none, none, none]) pn_X11 (Nat.le_of_ble_eq_true rfl) rfl ?_
  refine st_aload_n dX11_lifted_0 rfl ?_
  refine st_iload_n dX11_lifted_1 rfl ?_
  refine c_V1p (d' := d - 1) dX11_lifted_2 l_X11_408 k_X11_isPerson i_X11_isPerson (Or.inl ⟨_, _, _, _, _, (by first | with_reducible assumption | rfl), by rfl⟩) (by omega) (Nat.le_of_ble_eq_true rfl) (C_isPerson (by omega) hB hT hp) ?_
  refine b_ne (tgt := 10) dX11_lifted_5 rfl (fun h7 => ?_) (fun h7 => ?_)
  · refine st_aload_n dX11_lifted_10 rfl ?_
    have e : A_lifted B p = lifM B p.toNat (B 3 4).toNat := if_pos h7
    have hpe : p = ((p.toNat : Nat) : Int) := by omega
    have hql : p.toNat < (B 3 4).toNat := by omega
    generalize p.toNat = q at hpe hql e
    have htold := told_of hB (Or.inl (by omega))
    subst hpe
    rw [e]
    refine c_V0v (d' := d - 1) dX11_lifted_11 l_X11_412 k_X11_laysNow i_X11_laysNow (Or.inl ⟨_, _, _, _, _, (by first | with_reducible assumption | rfl), by rfl⟩) (by omega) (Nat.le_of_ble_eq_true rfl) (C_laysNow (by omega) hB hT hb6 (by omega) htold) (fun M1 N1 hx => ?_)
    obtain ⟨rfl, hE, hv, -⟩ := hx
    have hN1 := hN.exc hE (by decide)
    have hr := hearP_rng (n := (B 3 4).toNat) (df := B 3 6) (st := g8 (B 3 12)) (rm := g4 (B 3 13)) (v := nowV B 0) (p := q) hql (by omega) (fun o _ => nowV_rng hB _ _ o)
    refine st_aload_n dX11_lifted_14 rfl ?_
    refine st_aload_n dX11_lifted_15 rfl ?_
    refine st_iload_n dX11_lifted_16 rfl ?_
    refine c_V1p (d' := d - 1) dX11_lifted_17 l_X11_399 k_X11_heardOf i_X11_heardOf (Or.inl ⟨_, _, _, _, _, (by first | with_reducible assumption | rfl), by rfl⟩) (by omega) (Nat.le_of_ble_eq_true rfl) (C_rHeardV (v := nowV B 0) (by omega) hB hN1.2 hv (fun o _ => nowV_rng hB _ _ o) hql) ?_
    refine c_V1p (d' := d - 1) dX11_lifted_20 l_X11_402 k_X11_storeyOf i_X11_storeyOf (Or.inl ⟨_, _, _, _, _, (by first | with_reducible assumption | rfl), by rfl⟩) (by omega) (Nat.le_of_ble_eq_true rfl) (C_rStoreyOf (by omega) hB hN1.2.1 (by unfold i32; omega)) ?_
    rw [show stof (B 4) (hearP (B 3 4).toNat (B 3 6) (g8 (B 3 12)) (g4 (B 3 13)) (nowV B 0) q) ((B 3 3).toNat - 1) 0 = hrd B (nowV B 0) q from rfl]
    refine st_istore_n (L' := [_, _, _, _, _, _]) dX11_lifted_23 (by decide) rfl rfl ?_
    refine st_iconst dX11_lifted_24 ?_
    refine st_istore_n (L' := [_, _, _, _, _, _]) dX11_lifted_25 (by decide) rfl rfl ?_
    refine st_iconst dX11_lifted_26 ?_
    refine st_istore (L' := [_, _, _, _, _, _]) dX11_lifted_27 (by decide) rfl rfl ?_
    have loop : ∀ (n k : Nat) (M2 : q_Mem) (l5 : Option Value), k + n = (B 3 4).toNat → Exc [143] M M2 → (∀ o, o < (B 3 4).toNat → M2 143 o = nowV B 0 o) → AW0 G d m_X11_lifted 29 [some (.ref 112), some (I q), some (I (hrd B (nowV B 0) q)), some (I (lifM B q k)), some (I k), l5] [] M2 N1 (CV (fun v M' N' => v = I (lifM B q (B 3 4).toNat) ∧ N' = N1 ∧ Exc [143] M M')) := by
      intro n
      induction n with
      | zero =>
        intro k M2 l5 hk hE2 hv2
        have hN2 := hN.exc hE2 (by decide)
        refine st_iload dX11_lifted_29 rfl ?_
        refine st_aload_n dX11_lifted_31 rfl ?_
        refine st_getfr dX11_lifted_32 f_X11_9 (by first | with_reducible assumption | rfl) (by rfl) ?_
        refine st_iconst dX11_lifted_35 ?_
        refine st_ialdK (k' := 3) dX11_lifted_36 (by first | with_reducible assumption | rfl) rfl (by omega) (hn := by first | decide | omega) ?_
        rw [hN2.2.1.1.2.2.2.1]
        refine st_icmp_ge (tgt := 107) dX11_lifted_37 (by omega) (by omega) rfl (fun h => ?_) (fun h => ?_)
        · refine st_iload_n dX11_lifted_107 rfl ?_
          exact r_i dX11_lifted_108 rfl ⟨by rw [show k = (B 3 4).toNat by omega], rfl, hE2⟩
        · skip
          omega
      | succ n ih =>
        intro k M2 l5 hk hE2 hv2
        have hkn : k < (B 3 4).toNat := by omega
        have hN2 := hN.exc hE2 (by decide)
        have hl := lifM_rng B q k (by omega)
        have vr := nowV_rng hB (B 3 11) 0
        refine st_iload dX11_lifted_29 rfl ?_
        refine st_aload_n dX11_lifted_31 rfl ?_
        refine st_getfr dX11_lifted_32 f_X11_9 (by first | with_reducible assumption | rfl) (by rfl) ?_
        refine st_iconst dX11_lifted_35 ?_
        refine st_ialdK (k' := 3) dX11_lifted_36 (by first | with_reducible assumption | rfl) rfl (by omega) (hn := by first | decide | omega) ?_
        rw [hN2.2.1.1.2.2.2.1]
        refine st_icmp_ge (tgt := 107) dX11_lifted_37 (by omega) (by omega) rfl (fun h => ?_) (fun h => ?_)
        · skip
          omega
        · refine st_aload_n dX11_lifted_40 rfl ?_
          refine st_getfr dX11_lifted_41 f_X11_107 (by first | with_reducible assumption | rfl) (by rfl) ?_
          refine st_iload dX11_lifted_44 rfl ?_
          first | refine st_ialdK (k' := _) dX11_lifted_46 (by first | with_reducible assumption | rfl) rfl (by omega) (hn := by first | decide | omega) ?_ | refine st_iald dX11_lifted_46 (by first | with_reducible assumption | rfl) (by omega) (by omega) (hn := by first | decide | omega) ?_
          rw [hv2 k hkn]
          refine st_istore (L' := [_, _, _, _, _, _]) dX11_lifted_47 (by decide) rfl rfl ?_
          refine st_aload_n dX11_lifted_49 rfl ?_
          refine st_getfr dX11_lifted_50 f_X11_107 (by first | with_reducible assumption | rfl) (by rfl) ?_
          refine st_iload dX11_lifted_53 rfl ?_
          refine st_iload dX11_lifted_55 rfl ?_
          refine st_iload_n dX11_lifted_57 rfl ?_
          -- with z sung by k
          have tl : ∀ (z : Int), z = (if k = q then nowV B 0 k else 0) → AW0 G d m_X11_lifted 67 [some (.ref 112), some (I q), some (I (hrd B (nowV B 0) q)), some (I (lifM B q k)), some (I k), some (I (nowV B 0 k))] [I z, I k, .ref 143] M2 N1 (CV (fun v M' N' => v = I (lifM B q (B 3 4).toNat) ∧ N' = N1 ∧ Exc [143] M M')) := by
            intro z hz
            first | refine st_iastK (k' := _) dX11_lifted_67 (by first | with_reducible assumption | rfl) rfl (by omega) (hn := by first | decide | omega) ?_ | refine st_iast dX11_lifted_67 (by first | with_reducible assumption | rfl) (by omega) (by omega) (hn := by first | decide | omega) ?_
            refine st_iload_n dX11_lifted_68 rfl ?_
            refine st_aload_n dX11_lifted_69 rfl ?_
            refine st_aload_n dX11_lifted_70 rfl ?_
            refine st_iload_n dX11_lifted_71 rfl ?_
            have hE3 : Exc [143] M (q_up M2 143 k z) := hE2.tr (Exc.up (by decide))
            have hN3 := hN.exc hE3 (by decide)
            have hv3 : ∀ o, o < (B 3 4).toNat → q_up M2 143 k z 143 o = (if k = q then nowV B 0 else nowV B (pw k)) o := by
              intro o ho
              by_cases e1 : k = q
              · rw [if_pos e1]
                rw [if_pos e1] at hz
                by_cases e2 : o = k
                · rw [e2, ← hz]; simp [q_up]
                · rw [← hv2 o ho]; simp [q_up, e2]
              · rw [if_neg e1]
                rw [if_neg e1] at hz
                show _ = toldV B 3 (B 3 11) (pw k) o
                rw [toldV_pw]
                by_cases e2 : o = k
                · rw [if_pos e2, e2, hz]; simp [q_up]
                · rw [if_neg e2]; show _ = nowV B 0 o; rw [← hv2 o ho]; simp [q_up, e2]
            have vr3 : ∀ o, o < (B 3 4).toNat → 0 ≤ (if k = q then nowV B 0 else nowV B (pw k)) o ∧ (if k = q then nowV B 0 else nowV B (pw k)) o ≤ 30 := by
              intro o _
              split
              · exact nowV_rng hB _ _ o
              · exact nowV_rng hB _ _ o
            have hr3 := hearP_rng (n := (B 3 4).toNat) (df := B 3 6) (st := g8 (B 3 12)) (rm := g4 (B 3 13)) (v := (if k = q then nowV B 0 else nowV B (pw k))) (p := q) hql (by omega) vr3
            refine c_V1p (d' := d - 1) dX11_lifted_72 l_X11_399 k_X11_heardOf i_X11_heardOf (Or.inl ⟨_, _, _, _, _, (by first | with_reducible assumption | rfl), by rfl⟩) (by omega) (Nat.le_of_ble_eq_true rfl) (C_rHeardV (by omega) hB hN3.2 hv3 vr3 hql) ?_
            refine c_V1p (d' := d - 1) dX11_lifted_75 l_X11_402 k_X11_storeyOf i_X11_storeyOf (Or.inl ⟨_, _, _, _, _, (by first | with_reducible assumption | rfl), by rfl⟩) (by omega) (Nat.le_of_ble_eq_true rfl) (C_rStoreyOf (by omega) hB hN3.2.1 (by unfold i32; omega)) ?_
            rw [show stof (B 4) (hearP (B 3 4).toNat (B 3 6) (g8 (B 3 12)) (g4 (B 3 13)) (if k = q then nowV B 0 else nowV B (pw k)) q) ((B 3 3).toNat - 1) 0 = hrd B (if k = q then nowV B 0 else nowV B (pw k)) q from rfl]
            have hrg := Hok.rg hB
            have hr1 := hrd_rng hrg.2.1 (if k = q then nowV B 0 else nowV B (pw k)) q
            have hr2 := hrd_rng hrg.2.1 (nowV B 0) q
            have fin : ∀ (y : Int), y = lifM B q (k + 1) → AW0 G d m_X11_lifted 91 [some (.ref 112), some (I q), some (I (hrd B (nowV B 0) q)), some (I (lifM B q k)), some (I k), some (I (nowV B 0 k))] [I y] (q_up M2 143 k z) N1 (CV (fun v M' N' => v = I (lifM B q (B 3 4).toNat) ∧ N' = N1 ∧ Exc [143] M M')) := by
              intro y hy
              refine st_istore_n (L' := [_, _, _, _, _, _]) dX11_lifted_91 (by decide) rfl rfl ?_
              refine st_aload_n dX11_lifted_92 rfl ?_
              refine st_getfr dX11_lifted_93 f_X11_107 (by first | with_reducible assumption | rfl) (by rfl) ?_
              refine st_iload dX11_lifted_96 rfl ?_
              refine st_iload dX11_lifted_98 rfl ?_
              first | refine st_iastK (k' := _) dX11_lifted_100 (by first | with_reducible assumption | rfl) rfl (by omega) (hn := by first | decide | omega) ?_ | refine st_iast dX11_lifted_100 (by first | with_reducible assumption | rfl) (by omega) (by omega) (hn := by first | decide | omega) ?_
              refine st_iinc (L' := [_, _, _, _, _, _]) dX11_lifted_101 rfl (by decide) rfl rfl ?_
              refine st_goto (tgt := 29) dX11_lifted_104 rfl ?_
              refine AW.to (ih (k + 1) (q_up (q_up M2 143 k z) 143 k (nowV B 0 k)) (some (I (nowV B 0 k))) (by omega) (hE3.tr (Exc.up (i := k) (z := nowV B 0 k) (by decide))) (fun o ho => ?_)) (h2 := by rw [hy]; simp)
              by_cases e2 : o = k
              · rw [e2]; simp [q_up]
              · rw [← hv2 o ho]; simp [q_up, e2]
            refine st_iload_n dX11_lifted_78 rfl ?_
            refine st_icmp_ge (tgt := 89) dX11_lifted_79 (by omega) (by omega) rfl (fun h2 => ?_) (fun h2 => ?_)
            · refine st_iconst dX11_lifted_89 ?_
              refine st_ior dX11_lifted_90 ?_
              refine AW.topv (show _ = I (lifM B q k) from congrArg Value.int (z_or0 hl.1)) ?_
              refine fin _ ?_
              have : lifM B q (k + 1) = lifM B q k := if_neg (fun x => by rw [if_neg x.1] at h2; omega)
              rw [this]
            · refine st_iconst dX11_lifted_82 ?_
              refine st_iload dX11_lifted_83 rfl ?_
              refine st_ishl dX11_lifted_85 ?_
              refine st_goto (tgt := 90) dX11_lifted_86 rfl ?_
              refine st_ior dX11_lifted_90 ?_
              refine AW.topv (show _ = I (orb (lifM B q k) k) from congrArg Value.int (z_set hl.1 (by omega))) ?_
              refine fin _ ?_
              have hkq : ¬ k = q := fun x => by rw [if_pos x] at h2; omega
              rw [if_neg hkq] at h2
              have : lifM B q (k + 1) = orb (lifM B q k) k := if_pos ⟨hkq, by omega⟩
              rw [this]
          refine st_icmp_ne (tgt := 66) dX11_lifted_58 (by omega) (by omega) rfl (fun h2 => ?_) (fun h2 => ?_)
          · refine st_iconst dX11_lifted_66 ?_
            exact tl 0 (by rw [if_neg (by omega)])
          · refine st_iload dX11_lifted_61 rfl ?_
            refine st_goto (tgt := 67) dX11_lifted_63 rfl ?_
            exact tl _ (by rw [if_pos (by omega)])
    exact loop _ 0 M1 none (Nat.zero_add _) hE hv
  · refine st_iconst dX11_lifted_8 ?_
    exact r_i dX11_lifted_9 rfl ⟨by rw [A_lifted, if_neg h7], rfl, Exc.rf⟩
theorem C_reach {G : q_G} {d : Nat} {B M : q_Mem} {N : q_MemL} {p s : Int} (hd : 3 ≤ d) (hN : RN B M) (hp : i32 p) (hs : i32 s) : AC0 G d m_X11_each [.ref 112, I p, I s] M N (CV (fun v M' N' => v = I (A_each B p s) ∧ N' = N ∧ Exc [143] M M')) := by
  obtain ⟨hB, hT, hP, hW, hb6⟩ := id hN
  obtain ⟨h0, h1, h2, h3, h4, h5, h6, h11, h12, h13, h15, h17, h18, -⟩ := id hB
  have hpp := hp
  have hss := hs
  unfold i32 at hpp hss
  have no : ¬ ((0 ≤ p ∧ p < B 3 4) ∧ 0 ≤ s ∧ s < B 3 3) → AW0 G d m_X11_each 16 [some (.ref 112), some (I p), some (I s), none] [] M N (CV (fun v M' N' => v = I (A_each B p s) ∧ N' = N ∧ Exc [143] M M')) := by
    intro h
    refine st_iconst dX11_each_16 ?_
    exact r_i dX11_each_17 rfl ⟨by rw [A_each, if_neg h], rfl, Exc.rf⟩
  refine AC.of (L0 := [_, _, _, none]) pn_X11 (Nat.le_of_ble_eq_true rfl) rfl ?_
  refine st_aload_n dX11_each_0 rfl ?_
  refine st_iload_n dX11_each_1 rfl ?_
  refine c_V1p (d' := d - 1) dX11_each_2 l_X11_408 k_X11_isPerson i_X11_isPerson (Or.inl ⟨_, _, _, _, _, (by first | with_reducible assumption | rfl), by rfl⟩) (by omega) (Nat.le_of_ble_eq_true rfl) (C_isPerson (by omega) hB hT hp) ?_
  refine b_eq (tgt := 16) dX11_each_5 rfl (fun h7 => ?_) (fun h7 => ?_)
  · skip
    exact no (fun z => h7 z.1)
  · refine st_aload_n dX11_each_8 rfl ?_
    refine st_iload_n dX11_each_9 rfl ?_
    refine c_V1p (d' := d - 1) dX11_each_10 l_X11_426 k_X11_isStorey i_X11_isStorey (Or.inl ⟨_, _, _, _, _, (by first | with_reducible assumption | rfl), by rfl⟩) (by omega) (Nat.le_of_ble_eq_true rfl) (C_isStorey (by omega) hB hT hs) ?_
    refine b_ne (tgt := 18) dX11_each_13 rfl (fun h8 => ?_) (fun h8 => ?_)
    · refine st_aload_n dX11_each_18 rfl ?_
      have e : A_each B p s = lvF B p.toNat s 31 0 := if_pos ⟨h7, h8⟩
      have hpe : p = ((p.toNat : Nat) : Int) := by omega
      have hql : p.toNat < (B 3 4).toNat := by omega
      generalize p.toNat = q at hpe hql e
      have htold := told_of hB (Or.inl (by omega))
      subst hpe
      rw [e]
      refine c_V0v (d' := d - 1) dX11_each_19 l_X11_412 k_X11_laysNow i_X11_laysNow (Or.inl ⟨_, _, _, _, _, (by first | with_reducible assumption | rfl), by rfl⟩) (by omega) (Nat.le_of_ble_eq_true rfl) (C_laysNow (by omega) hB hT hb6 (by omega) htold) (fun M1 N1 hx => ?_)
      obtain ⟨rfl, hE, hv, -⟩ := hx
      refine st_iconst dX11_each_22 ?_
      refine st_istore_n (L' := [_, _, _, _]) dX11_each_23 (by decide) rfl rfl ?_
      have loop : ∀ (n k : Nat) (M2 : q_Mem), k + n = 31 → Exc [143] M M2 → (∀ o, o < (B 3 4).toNat → ¬ o = q → M2 143 o = nowV B 0 o) → lvF B q s n k = lvF B q s 31 0 → AW0 G d m_X11_each 24 [some (.ref 112), some (I q), some (I s), some (I k)] [] M2 N1 (CV (fun v M' N' => v = I (lvF B q s 31 0) ∧ N' = N1 ∧ Exc [143] M M')) := by
        intro n
        induction n with
        | zero =>
          intro k M2 hk hE2 hv2 hF
          refine st_iload_n dX11_each_24 rfl ?_
          refine st_bipush dX11_each_25 (by decide) ?_
          refine st_icmp_gt (tgt := 58) dX11_each_27 (by omega) (by omega) rfl (fun h => ?_) (fun h => ?_)
          · refine st_bipush dX11_each_58 (by decide) ?_
            exact r_i dX11_each_60 rfl ⟨by rw [← hF]; rfl, rfl, hE2⟩
          · skip
            omega
        | succ n ih =>
          intro k M2 hk hE2 hv2 hF
          refine st_iload_n dX11_each_24 rfl ?_
          refine st_bipush dX11_each_25 (by decide) ?_
          refine st_icmp_gt (tgt := 58) dX11_each_27 (by omega) (by omega) rfl (fun h => ?_) (fun h => ?_)
          · skip
            omega
          · refine st_aload_n dX11_each_30 rfl ?_
            refine st_getfr dX11_each_31 f_X11_107 (by first | with_reducible assumption | rfl) (by rfl) ?_
            refine st_iload_n dX11_each_34 rfl ?_
            refine st_iload_n dX11_each_35 rfl ?_
            first | refine st_iastK (k' := _) dX11_each_36 (by first | with_reducible assumption | rfl) rfl (by omega) (hn := by first | decide | omega) ?_ | refine st_iast dX11_each_36 (by first | with_reducible assumption | rfl) (by omega) (by omega) (hn := by first | decide | omega) ?_
            refine st_aload_n dX11_each_37 rfl ?_
            refine st_aload_n dX11_each_38 rfl ?_
            refine st_iload_n dX11_each_39 rfl ?_
            have hE3 : Exc [143] M (q_up M2 143 q k) := hE2.tr (Exc.up (by decide))
            have hN3 := hN.exc hE3 (by decide)
            have hv3 : ∀ o, o < (B 3 4).toNat → q_up M2 143 q k 143 o = oneV B q k o := by
              intro o ho
              unfold oneV
              by_cases e2 : o = q
              · rw [if_pos e2, e2]; simp [q_up]
              · rw [if_neg e2, ← hv2 o ho e2]; simp [q_up, e2]
            have vr3 : ∀ o, o < (B 3 4).toNat → 0 ≤ oneV B q k o ∧ oneV B q k o ≤ 30 := by
              intro o _
              have := nowV_rng hB (B 3 11) 0 o
              unfold oneV
              split <;> omega
            have hr3 := hearP_rng (n := (B 3 4).toNat) (df := B 3 6) (st := g8 (B 3 12)) (rm := g4 (B 3 13)) (v := oneV B q k) (p := q) hql (by omega) vr3
            refine c_V1p (d' := d - 1) dX11_each_40 l_X11_399 k_X11_heardOf i_X11_heardOf (Or.inl ⟨_, _, _, _, _, (by first | with_reducible assumption | rfl), by rfl⟩) (by omega) (Nat.le_of_ble_eq_true rfl) (C_rHeardV (by omega) hB hN3.2 hv3 vr3 hql) ?_
            refine c_V1p (d' := d - 1) dX11_each_43 l_X11_402 k_X11_storeyOf i_X11_storeyOf (Or.inl ⟨_, _, _, _, _, (by first | with_reducible assumption | rfl), by rfl⟩) (by omega) (Nat.le_of_ble_eq_true rfl) (C_rStoreyOf (by omega) hB hN3.2.1 (by unfold i32; omega)) ?_
            rw [show stof (B 4) (hearP (B 3 4).toNat (B 3 6) (g8 (B 3 12)) (g4 (B 3 13)) (oneV B q k) q) ((B 3 3).toNat - 1) 0 = hrd B (oneV B q k) q from rfl]
            have hr1 := hrd_rng (Hok.rg hB).2.1 (oneV B q k) q
            refine st_iload_n dX11_each_46 rfl ?_
            refine st_icmp_ne (tgt := 52) dX11_each_47 (by omega) (by omega) rfl (fun h2 => ?_) (fun h2 => ?_)
            · refine st_iinc (L' := [_, _, _, _]) dX11_each_52 rfl (by decide) rfl rfl ?_
              refine st_goto (tgt := 24) dX11_each_55 rfl ?_
              refine AW.to (ih (k + 1) (q_up M2 143 q k) (by omega) hE3 (fun o ho e2 => by rw [← hv2 o ho e2]; simp [q_up, e2]) ?_) (h2 := by simp)
              rw [← hF]
              exact (if_neg h2).symm
            · refine st_iload_n dX11_each_50 rfl ?_
              exact r_i dX11_each_51 rfl ⟨by rw [← hF]; congr 1; exact (if_pos (by omega)).symm, rfl, hE3⟩
      exact loop 31 0 M1 (by omega) hE (fun o ho _ => hv o ho) rfl
    · skip
      exact no (fun z => h8 z.2)


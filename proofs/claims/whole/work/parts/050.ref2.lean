/-! the reference: what is heard, and a beat -/
def hrA (st rm v : Nat → Int) (q k : Nat) : Int := v q + hsum (fun o => if o = q then 0 else hearF st rm v q o) k
theorem hrA_end {st rm v : Nat → Int} {q n : Nat} (hq : q < n) : hrA st rm v q n = hsum (hearF st rm v q) n := by
  rw [hsum_rm (f := hearF st rm v q) (g := fun o => if o = q then 0 else hearF st rm v q o) hq (fun _ _ => rfl)]
  have : hearF st rm v q q = v q := if_pos rfl
  unfold hrA
  omega
theorem C_rHeardOf {G : q_G} {d : Nat} {B M : q_Mem} {N : q_MemL} {st rm : Nat → Int} {q : Nat} (hd : 1 ≤ d) (hB : NowOk B) (hT : RT B M) (hst : ∀ o, o < (B 3 4).toNat → M 116 o = st o) (hrm : ∀ o, o < (B 3 4).toNat → M 115 o = rm o) (rst : ∀ o, 0 ≤ st o ∧ st o < 8) (rrm : ∀ o, 0 ≤ rm o ∧ rm o < 4) (hv2 : Sok M 143 (B 3 4).toNat) (hq : q < (B 3 4).toNat) : AC0 G d m_X11_heardOf [.ref 112, I q] M N (CV (PU (I (hearP (B 3 4).toNat (B 3 6) st rm (M 143) q)) M N)) := by
  obtain ⟨h0, h1, h2, h3, h4, h5, h6, h11, h12, h13, h15, h17, h18, hb, hc, hw, hv, hp, he, ht1, ht0⟩ := id hB
  obtain ⟨⟨t0, t1, t2, t3, t4, t5, t7⟩, ts, tp, tt, te⟩ := id hT
  have rb := bitI_rng (B 3 6) q
  refine AC.of (L0 := [_, _, none, none, none, none]) pn_X11 (Nat.le_of_ble_eq_true rfl) rfl ?_
  refine st_aload_n dX11_heardOf_0 rfl ?_
  refine st_getfr dX11_heardOf_1 f_X11_107 (by first | with_reducible assumption | rfl) (by rfl) ?_
  refine st_iload_n dX11_heardOf_4 rfl ?_
  first | refine st_ialdK (k' := _) dX11_heardOf_5 (by first | with_reducible assumption | rfl) rfl (by omega) (hn := by first | decide | omega) ?_ | refine st_iald dX11_heardOf_5 (by first | with_reducible assumption | rfl) (by omega) (by omega) (hn := by first | decide | omega) ?_
  refine st_istore_n (L' := [_, _, _, _, _, _]) dX11_heardOf_6 (by decide) rfl rfl ?_
  refine st_aload_n dX11_heardOf_7 rfl ?_
  refine st_getfr dX11_heardOf_8 f_X11_9 (by first | with_reducible assumption | rfl) (by rfl) ?_
  refine st_iconst dX11_heardOf_11 ?_
  refine st_ialdK (k' := 5) dX11_heardOf_12 (by first | with_reducible assumption | rfl) rfl (by omega) (hn := by first | decide | omega) ?_
  rw [t5]
  refine st_iload_n dX11_heardOf_13 rfl ?_
  refine st_ishr dX11_heardOf_14 ?_; refine st_iconst dX11_heardOf_15 ?_; refine st_iand dX11_heardOf_16 ?_; refine AW.top (z_bit (by omega) (by omega)) ?_
  refine st_iconst dX11_heardOf_17 ?_
  refine st_icmp_ne (tgt := 25) dX11_heardOf_18 (by omega) (by omega) rfl (fun h => ?_) (fun h => ?_)
  · refine st_iconst dX11_heardOf_25 ?_
    refine st_istore_n (L' := [_, _, _, _, _, _]) dX11_heardOf_26 (by decide) rfl rfl ?_
    refine st_iconst dX11_heardOf_27 ?_
    refine st_istore (L' := [_, _, _, _, _, _]) dX11_heardOf_28 (by decide) rfl rfl ?_
    have hdf : ¬ (B 3 6).toNat.testBit q = true := fun z => h (by unfold bitI; rw [if_pos z])
    have hP : hearP (B 3 4).toNat (B 3 6) st rm (M 143) q = hsum (hearF st rm (M 143) q) (B 3 4).toNat := if_neg hdf
    rw [hP, ← hrA_end hq]
    have loop : ∀ (n k : Nat) (l5 : Option Value), k + n = (B 3 4).toNat → AW0 G d m_X11_heardOf 30 [some (.ref 112), some (I q), some (I (hrA st rm (M 143) q k)), some (I 0), some (I k), l5] [] M N (CV (PU (I (hrA st rm (M 143) q (B 3 4).toNat)) M N)) := by
      intro n
      induction n with
      | zero =>
        intro k l5 hk
        refine st_iload dX11_heardOf_30 rfl ?_
        refine st_aload_n dX11_heardOf_32 rfl ?_
        refine st_getfr dX11_heardOf_33 f_X11_9 (by first | with_reducible assumption | rfl) (by rfl) ?_
        refine st_iconst dX11_heardOf_36 ?_
        refine st_ialdK (k' := 3) dX11_heardOf_37 (by first | with_reducible assumption | rfl) rfl (by omega) (hn := by first | decide | omega) ?_
        rw [t3]
        refine st_icmp_ge (tgt := 130) dX11_heardOf_38 (by omega) (by omega) rfl (fun h2 => ?_) (fun h2 => ?_)
        · refine st_iload_n dX11_heardOf_130 rfl ?_
          exact r_i dX11_heardOf_131 rfl ⟨by rw [show k = (B 3 4).toNat by omega], rfl, rfl⟩
        · skip
          omega
      | succ n ih =>
        intro k l5 hk
        have hkn : k < (B 3 4).toNat := by omega
        have hvk := hv2 k hkn
        have rk := rrm k
        have rq := rrm q
        have sk := rst k
        have sq := rst q
        have nx : ∀ (z : Int) (x5 : Option Value), z = (if k = q then 0 else hearF st rm (M 143) q k) → AW0 G d m_X11_heardOf 122 [some (.ref 112), some (I q), some (I (hrA st rm (M 143) q k)), some (I 0), some (I k), x5] [I z, I (hrA st rm (M 143) q k)] M N (CV (PU (I (hrA st rm (M 143) q (B 3 4).toNat)) M N)) := by
          intro z x5 hz
          refine st_iadd dX11_heardOf_122 ?_
          refine st_istore_n (L' := [_, _, _, _, _, _]) dX11_heardOf_123 (by decide) rfl rfl ?_
          refine st_iinc (L' := [_, _, _, _, _, _]) dX11_heardOf_124 rfl (by decide) rfl rfl ?_
          refine st_goto (tgt := 30) dX11_heardOf_127 rfl ?_
          exact AW.to (ih (k + 1) x5 (by omega)) (h2 := by rw [hz]; simp [hrA, hsum, Int.add_assoc])
        have no : ∀ (x5 : Option Value), (if k = q then 0 else hearF st rm (M 143) q k) = 0 → AW0 G d m_X11_heardOf 124 [some (.ref 112), some (I q), some (I (hrA st rm (M 143) q k)), some (I 0), some (I k), x5] [] M N (CV (PU (I (hrA st rm (M 143) q (B 3 4).toNat)) M N)) := by
          intro x5 hz
          refine st_iinc (L' := [_, _, _, _, _, _]) dX11_heardOf_124 rfl (by decide) rfl rfl ?_
          refine st_goto (tgt := 30) dX11_heardOf_127 rfl ?_
          exact AW.to (ih (k + 1) x5 (by omega)) (h2 := by simp [hrA, hsum, hz])
        refine st_iload dX11_heardOf_30 rfl ?_
        refine st_aload_n dX11_heardOf_32 rfl ?_
        refine st_getfr dX11_heardOf_33 f_X11_9 (by first | with_reducible assumption | rfl) (by rfl) ?_
        refine st_iconst dX11_heardOf_36 ?_
        refine st_ialdK (k' := 3) dX11_heardOf_37 (by first | with_reducible assumption | rfl) rfl (by omega) (hn := by first | decide | omega) ?_
        rw [t3]
        refine st_icmp_ge (tgt := 130) dX11_heardOf_38 (by omega) (by omega) rfl (fun h2 => ?_) (fun h2 => ?_)
        · skip
          omega
        · refine st_iload_n dX11_heardOf_41 rfl ?_
          refine st_if_ne (tgt := 130) dX11_heardOf_42 (by omega) rfl (fun h3 => ?_) (fun h3 => ?_)
          · skip
            omega
          · refine st_iload dX11_heardOf_45 rfl ?_
            refine st_iload_n dX11_heardOf_47 rfl ?_
            refine st_icmp_eq (tgt := 124) dX11_heardOf_48 (by omega) (by omega) rfl (fun h4 => ?_) (fun h4 => ?_)
            · skip
              exact no _ (by rw [if_pos (by omega)])
            · refine st_aload_n dX11_heardOf_51 rfl ?_
              refine st_getfr dX11_heardOf_52 f_X11_19 (by first | with_reducible assumption | rfl) (by rfl) ?_
              refine st_iload dX11_heardOf_55 rfl ?_
              first | refine st_ialdK (k' := _) dX11_heardOf_57 (by first | with_reducible assumption | rfl) rfl (by omega) (hn := by first | decide | omega) ?_ | refine st_iald dX11_heardOf_57 (by first | with_reducible assumption | rfl) (by omega) (by omega) (hn := by first | decide | omega) ?_
              rw [hst k hkn]
              refine st_aload_n dX11_heardOf_58 rfl ?_
              refine st_getfr dX11_heardOf_59 f_X11_19 (by first | with_reducible assumption | rfl) (by rfl) ?_
              refine st_iload_n dX11_heardOf_62 rfl ?_
              first | refine st_ialdK (k' := _) dX11_heardOf_63 (by first | with_reducible assumption | rfl) rfl (by omega) (hn := by first | decide | omega) ?_ | refine st_iald dX11_heardOf_63 (by first | with_reducible assumption | rfl) (by omega) (by omega) (hn := by first | decide | omega) ?_
              rw [hst q hq]
              refine st_icmp_ne (tgt := 124) dX11_heardOf_64 (by omega) (by omega) rfl (fun h5 => ?_) (fun h5 => ?_)
              · skip
                exact no _ (by rw [if_neg (by omega)]; unfold hearF; rw [if_neg (by omega), if_neg (by omega)])
              · refine st_aload_n dX11_heardOf_67 rfl ?_
                refine st_getfr dX11_heardOf_68 f_X11_16 (by first | with_reducible assumption | rfl) (by rfl) ?_
                refine st_iload dX11_heardOf_71 rfl ?_
                first | refine st_ialdK (k' := _) dX11_heardOf_73 (by first | with_reducible assumption | rfl) rfl (by omega) (hn := by first | decide | omega) ?_ | refine st_iald dX11_heardOf_73 (by first | with_reducible assumption | rfl) (by omega) (by omega) (hn := by first | decide | omega) ?_
                rw [hrm k hkn]
                refine st_aload_n dX11_heardOf_74 rfl ?_
                refine st_getfr dX11_heardOf_75 f_X11_16 (by first | with_reducible assumption | rfl) (by rfl) ?_
                refine st_iload_n dX11_heardOf_78 rfl ?_
                first | refine st_ialdK (k' := _) dX11_heardOf_79 (by first | with_reducible assumption | rfl) rfl (by omega) (hn := by first | decide | omega) ?_ | refine st_iald dX11_heardOf_79 (by first | with_reducible assumption | rfl) (by omega) (by omega) (hn := by first | decide | omega) ?_
                rw [hrm q hq]
                refine c_S2p (d' := d - 1) dX11_heardOf_80 l_X11_396 k_X11_apart s_X11_apart (by omega) (Nat.le_of_ble_eq_true rfl) (C_apart (by omega) (by omega)) ?_
                have rfar : 0 ≤ (if rm k < rm q then rm q - rm k else rm k - rm q) ∧ (if rm k < rm q then rm q - rm k else rm k - rm q) < 4 := by split <;> omega
                have fadeE : ∀ z, z = fade (M 143 k) (rm q - rm k) → z = (if k = q then 0 else hearF st rm (M 143) q k) := by
                  intro z hz
                  rw [if_neg (by omega), hz]
                  unfold hearF
                  rw [if_neg (by omega), if_pos (by omega)]
                refine st_istore (L' := [_, _, _, _, _, _]) dX11_heardOf_83 (by decide) rfl rfl ?_
                refine st_iload_n dX11_heardOf_85 rfl ?_
                refine st_iload dX11_heardOf_86 rfl ?_
                refine st_if_ne (tgt := 103) dX11_heardOf_88 (by omega) rfl (fun h6 => ?_) (fun h6 => ?_)
                · refine st_iload dX11_heardOf_103 rfl ?_
                  refine st_iconst dX11_heardOf_105 ?_
                  refine st_icmp_ne (tgt := 121) dX11_heardOf_106 (by omega) (by omega) rfl (fun h7 => ?_) (fun h7 => ?_)
                  · refine st_iconst dX11_heardOf_121 ?_
                    refine nx 0 _ (fadeE _ ?_)
                    unfold fade
                    rw [if_neg (by split at h6 <;> omega), if_neg (by split at h7 <;> omega)]
                  · refine st_aload_n dX11_heardOf_109 rfl ?_
                    refine st_getfr dX11_heardOf_110 f_X11_107 (by first | with_reducible assumption | rfl) (by rfl) ?_
                    refine st_iload dX11_heardOf_113 rfl ?_
                    first | refine st_ialdK (k' := _) dX11_heardOf_115 (by first | with_reducible assumption | rfl) rfl (by omega) (hn := by first | decide | omega) ?_ | refine st_iald dX11_heardOf_115 (by first | with_reducible assumption | rfl) (by omega) (by omega) (hn := by first | decide | omega) ?_
                    refine st_iconst dX11_heardOf_116 ?_
                    refine st_idivK dX11_heardOf_117 (by omega) (by omega) ?_
                    refine st_goto (tgt := 122) dX11_heardOf_118 rfl ?_
                    refine nx _ _ (fadeE _ ?_)
                    unfold fade
                    rw [if_neg (by split at h6 <;> omega), if_pos (by split at h7 <;> omega)]
                · refine st_aload_n dX11_heardOf_91 rfl ?_
                  refine st_getfr dX11_heardOf_92 f_X11_107 (by first | with_reducible assumption | rfl) (by rfl) ?_
                  refine st_iload dX11_heardOf_95 rfl ?_
                  first | refine st_ialdK (k' := _) dX11_heardOf_97 (by first | with_reducible assumption | rfl) rfl (by omega) (hn := by first | decide | omega) ?_ | refine st_iald dX11_heardOf_97 (by first | with_reducible assumption | rfl) (by omega) (by omega) (hn := by first | decide | omega) ?_
                  refine st_iconst dX11_heardOf_98 ?_
                  refine st_idivK dX11_heardOf_99 (by omega) (by omega) ?_
                  refine st_goto (tgt := 122) dX11_heardOf_100 rfl ?_
                  refine nx _ _ (fadeE _ ?_)
                  unfold fade
                  rw [if_pos (by split at h6 <;> omega)]
    exact AW.to (loop _ 0 none (Nat.zero_add _)) (h2 := by simp [hrA, hsum])
  · refine st_iconst dX11_heardOf_21 ?_
    refine st_goto (tgt := 26) dX11_heardOf_22 rfl ?_
    refine st_istore_n (L' := [_, _, _, _, _, _]) dX11_heardOf_26 (by decide) rfl rfl ?_
    refine st_iconst dX11_heardOf_27 ?_
    refine st_istore (L' := [_, _, _, _, _, _]) dX11_heardOf_28 (by decide) rfl rfl ?_
    refine st_iload dX11_heardOf_30 rfl ?_
    refine st_aload_n dX11_heardOf_32 rfl ?_
    refine st_getfr dX11_heardOf_33 f_X11_9 (by first | with_reducible assumption | rfl) (by rfl) ?_
    refine st_iconst dX11_heardOf_36 ?_
    refine st_ialdK (k' := 3) dX11_heardOf_37 (by first | with_reducible assumption | rfl) rfl (by omega) (hn := by first | decide | omega) ?_
    have hdf : (B 3 6).toNat.testBit q = true := by
      unfold bitI at h
      split at h
      · assumption
      · omega
    have hP : hearP (B 3 4).toNat (B 3 6) st rm (M 143) q = M 143 q := if_pos hdf
    rw [hP]
    rw [t3]
    refine st_icmp_ge (tgt := 130) dX11_heardOf_38 (by omega) (by omega) rfl (fun h2 => ?_) (fun h2 => ?_)
    · skip
      omega
    · refine st_iload_n dX11_heardOf_41 rfl ?_
      refine st_if_ne (tgt := 130) dX11_heardOf_42 (by omega) rfl (fun h3 => ?_) (fun h3 => ?_)
      · refine st_iload_n dX11_heardOf_130 rfl ?_
        exact r_i dX11_heardOf_131 rfl ⟨rfl, rfl, rfl⟩
      · skip
        omega
theorem C_rHeardOfThing {G : q_G} {d : Nat} {B M : q_Mem} {N : q_MemL} {st rm : Nat → Int} {t : Nat} (hB : NowOk B) (hT : RT B M) (hst : ∀ o, o < (B 3 4).toNat → M 116 o = st o) (hrm : ∀ o, o < (B 3 4).toNat → M 115 o = rm o) (hst2 : M 120 t = st (7 + t)) (hrm2 : M 119 t = rm (7 + t)) (rst : ∀ o, 0 ≤ st o ∧ st o < 8) (rrm : ∀ o, 0 ≤ rm o ∧ rm o < 4) (hv2 : Sok M 143 (B 3 4).toNat) (ht : t < (B 3 5).toNat) : AC0 G d m_X11_heardOfThing [.ref 112, I t] M N (CV (PU (I (hearT (B 3 4).toNat (B 6 t) st rm (M 143) t)) M N)) := by
  obtain ⟨h0, h1, h2, h3, h4, h5, h6, h11, h12, h13, h15, h17, h18, hb, hc, hw, hv, hp, he, ht1, ht0⟩ := id hB
  obtain ⟨⟨t0, t1, t2, t3, t4, t5, t7⟩, ts, tp, tt, te⟩ := id hT
  have hwt := hw t
  rw [show 3 + 3 = 6 from rfl] at hwt
  refine AC.of (L0 := [_, _, none, none]) pn_X11 (Nat.le_of_ble_eq_true rfl) rfl ?_
  refine st_iconst dX11_heardOfThing_0 ?_
  refine st_istore_n (L' := [_, _, _, _]) dX11_heardOfThing_1 (by decide) rfl rfl ?_
  refine st_iconst dX11_heardOfThing_2 ?_
  refine st_istore_n (L' := [_, _, _, _]) dX11_heardOfThing_3 (by decide) rfl rfl ?_
  have loop : ∀ (n k : Nat), k + n = (B 3 4).toNat → AW0 G d m_X11_heardOfThing 4 [some (.ref 112), some (I t), some (I (hsum (withF st rm (M 143) t) k)), some (I k)] [] M N (CV (PU (I (hearT (B 3 4).toNat (B 6 t) st rm (M 143) t)) M N)) := by
    intro n
    induction n with
    | zero =>
      intro k hk
      have hsr := hsum_rng (f := withF st rm (M 143) t) (c := 30) (n := (B 3 4).toNat) (fun o ho => by have := hv2 o ho; unfold withF; split <;> omega)
      refine st_iload_n dX11_heardOfThing_4 rfl ?_
      refine st_aload_n dX11_heardOfThing_5 rfl ?_
      refine st_getfr dX11_heardOfThing_6 f_X11_9 (by first | with_reducible assumption | rfl) (by rfl) ?_
      refine st_iconst dX11_heardOfThing_9 ?_
      refine st_ialdK (k' := 3) dX11_heardOfThing_10 (by first | with_reducible assumption | rfl) rfl (by omega) (hn := by first | decide | omega) ?_
      rw [t3]
      refine st_icmp_ge (tgt := 63) dX11_heardOfThing_11 (by omega) (by omega) rfl (fun h2 => ?_) (fun h2 => ?_)
      · refine st_iload_n dX11_heardOfThing_63 rfl ?_
        refine st_aload_n dX11_heardOfThing_64 rfl ?_
        refine st_getfr dX11_heardOfThing_65 f_X11_34 (by first | with_reducible assumption | rfl) (by rfl) ?_
        refine st_iload_n dX11_heardOfThing_68 rfl ?_
        first | refine st_ialdK (k' := _) dX11_heardOfThing_69 (by first | with_reducible assumption | rfl) rfl (by omega) (hn := by first | decide | omega) ?_ | refine st_iald dX11_heardOfThing_69 (by first | with_reducible assumption | rfl) (by omega) (by omega) (hn := by first | decide | omega) ?_
        rw [show k = (B 3 4).toNat by omega, tt t ht]
        refine st_icmp_le (tgt := 84) dX11_heardOfThing_70 (by omega) (by omega) rfl (fun h3 => ?_) (fun h3 => ?_)
        · refine st_iconst dX11_heardOfThing_84 ?_
          exact r_i dX11_heardOfThing_85 rfl ⟨by unfold hearT; rw [Int.max_def, if_pos (by omega)], rfl, rfl⟩
        · refine st_iload_n dX11_heardOfThing_73 rfl ?_
          refine st_aload_n dX11_heardOfThing_74 rfl ?_
          refine st_getfr dX11_heardOfThing_75 f_X11_34 (by first | with_reducible assumption | rfl) (by rfl) ?_
          refine st_iload_n dX11_heardOfThing_78 rfl ?_
          first | refine st_ialdK (k' := _) dX11_heardOfThing_79 (by first | with_reducible assumption | rfl) rfl (by omega) (hn := by first | decide | omega) ?_ | refine st_iald dX11_heardOfThing_79 (by first | with_reducible assumption | rfl) (by omega) (by omega) (hn := by first | decide | omega) ?_
          rw [tt t ht]
          refine st_isub dX11_heardOfThing_80 ?_
          refine st_goto (tgt := 85) dX11_heardOfThing_81 rfl ?_
          exact r_i dX11_heardOfThing_85 rfl ⟨by unfold hearT; rw [Int.max_def, if_neg (by omega)], rfl, rfl⟩
      · skip
        omega
    | succ n ih =>
      intro k hk
      have hkn : k < (B 3 4).toNat := by omega
      have hvk := hv2 k hkn
      have rk := rrm k
      have rq := rrm (7 + t)
      have sk := rst k
      have sq := rst (7 + t)
      have nx : ∀ (z : Int), z = withF st rm (M 143) t k → AW0 G d m_X11_heardOfThing 55 [some (.ref 112), some (I t), some (I (hsum (withF st rm (M 143) t) k)), some (I k)] [I z, I (hsum (withF st rm (M 143) t) k)] M N (CV (PU (I (hearT (B 3 4).toNat (B 6 t) st rm (M 143) t)) M N)) := by
        intro z hz
        refine st_iadd dX11_heardOfThing_55 ?_
        refine st_istore_n (L' := [_, _, _, _]) dX11_heardOfThing_56 (by decide) rfl rfl ?_
        refine st_iinc (L' := [_, _, _, _]) dX11_heardOfThing_57 rfl (by decide) rfl rfl ?_
        refine st_goto (tgt := 4) dX11_heardOfThing_60 rfl ?_
        exact AW.to (ih (k + 1) (by omega)) (h2 := by rw [hz]; simp [hsum])
      refine st_iload_n dX11_heardOfThing_4 rfl ?_
      refine st_aload_n dX11_heardOfThing_5 rfl ?_
      refine st_getfr dX11_heardOfThing_6 f_X11_9 (by first | with_reducible assumption | rfl) (by rfl) ?_
      refine st_iconst dX11_heardOfThing_9 ?_
      refine st_ialdK (k' := 3) dX11_heardOfThing_10 (by first | with_reducible assumption | rfl) rfl (by omega) (hn := by first | decide | omega) ?_
      rw [t3]
      refine st_icmp_ge (tgt := 63) dX11_heardOfThing_11 (by omega) (by omega) rfl (fun h2 => ?_) (fun h2 => ?_)
      · skip
        omega
      · refine st_iload_n dX11_heardOfThing_14 rfl ?_
        refine st_aload_n dX11_heardOfThing_15 rfl ?_
        refine st_getfr dX11_heardOfThing_16 f_X11_16 (by first | with_reducible assumption | rfl) (by rfl) ?_
        refine st_iload_n dX11_heardOfThing_19 rfl ?_
        first | refine st_ialdK (k' := _) dX11_heardOfThing_20 (by first | with_reducible assumption | rfl) rfl (by omega) (hn := by first | decide | omega) ?_ | refine st_iald dX11_heardOfThing_20 (by first | with_reducible assumption | rfl) (by omega) (by omega) (hn := by first | decide | omega) ?_
        rw [hrm k hkn]
        refine st_aload_n dX11_heardOfThing_21 rfl ?_
        refine st_getfr dX11_heardOfThing_22 f_X11_28 (by first | with_reducible assumption | rfl) (by rfl) ?_
        refine st_iload_n dX11_heardOfThing_25 rfl ?_
        first | refine st_ialdK (k' := _) dX11_heardOfThing_26 (by first | with_reducible assumption | rfl) rfl (by omega) (hn := by first | decide | omega) ?_ | refine st_iald dX11_heardOfThing_26 (by first | with_reducible assumption | rfl) (by omega) (by omega) (hn := by first | decide | omega) ?_
        rw [hrm2]
        refine st_icmp_ne (tgt := 54) dX11_heardOfThing_27 (by omega) (by omega) rfl (fun h3 => ?_) (fun h3 => ?_)
        · refine st_iconst dX11_heardOfThing_54 ?_
          exact nx 0 (by unfold withF; rw [if_neg (by omega)])
        · refine st_aload_n dX11_heardOfThing_30 rfl ?_
          refine st_getfr dX11_heardOfThing_31 f_X11_19 (by first | with_reducible assumption | rfl) (by rfl) ?_
          refine st_iload_n dX11_heardOfThing_34 rfl ?_
          first | refine st_ialdK (k' := _) dX11_heardOfThing_35 (by first | with_reducible assumption | rfl) rfl (by omega) (hn := by first | decide | omega) ?_ | refine st_iald dX11_heardOfThing_35 (by first | with_reducible assumption | rfl) (by omega) (by omega) (hn := by first | decide | omega) ?_
          rw [hst k hkn]
          refine st_aload_n dX11_heardOfThing_36 rfl ?_
          refine st_getfr dX11_heardOfThing_37 f_X11_31 (by first | with_reducible assumption | rfl) (by rfl) ?_
          refine st_iload_n dX11_heardOfThing_40 rfl ?_
          first | refine st_ialdK (k' := _) dX11_heardOfThing_41 (by first | with_reducible assumption | rfl) rfl (by omega) (hn := by first | decide | omega) ?_ | refine st_iald dX11_heardOfThing_41 (by first | with_reducible assumption | rfl) (by omega) (by omega) (hn := by first | decide | omega) ?_
          rw [hst2]
          refine st_icmp_ne (tgt := 54) dX11_heardOfThing_42 (by omega) (by omega) rfl (fun h4 => ?_) (fun h4 => ?_)
          · refine st_iconst dX11_heardOfThing_54 ?_
            exact nx 0 (by unfold withF; rw [if_neg (by omega)])
          · refine st_aload_n dX11_heardOfThing_45 rfl ?_
            refine st_getfr dX11_heardOfThing_46 f_X11_107 (by first | with_reducible assumption | rfl) (by rfl) ?_
            refine st_iload_n dX11_heardOfThing_49 rfl ?_
            first | refine st_ialdK (k' := _) dX11_heardOfThing_50 (by first | with_reducible assumption | rfl) rfl (by omega) (hn := by first | decide | omega) ?_ | refine st_iald dX11_heardOfThing_50 (by first | with_reducible assumption | rfl) (by omega) (by omega) (hn := by first | decide | omega) ?_
            refine st_goto (tgt := 55) dX11_heardOfThing_51 rfl ?_
            exact nx _ (by unfold withF; rw [if_pos (by omega)])
  exact loop _ 0 (Nat.zero_add _)


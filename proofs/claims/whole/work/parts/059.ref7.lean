/-! the reference: quiet -/
/-- what is kept of the sets so far: coins (-1: none), the set -/
def qlS (p : Int × Int) : Int := if p.1 = -1 then -1 else p.2
def qsS (p : Int × Int) : Int := if p.1 = -1 then 0 else p.1
theorem C_rquiet {G : q_G} {d : Nat} {B M : q_Mem} {N : q_MemL} {p what : Int} (hd : 3 ≤ d) (hN : RN B M) (hp : i32 p) (hw : i32 what) : AC0 G d m_X11_quiet [.ref 112, I p, I what] M N (CV (fun v M' N' => v = I (A_quiet B p what) ∧ N' = N ∧ Exc [143] M M')) := by
  obtain ⟨hB, hT, hP, hW, hb6⟩ := id hN
  obtain ⟨h0, h1, h2, h3, h4, h5, h6, h11, h12, h13, h15, h17, h18, hbg, hco, -⟩ := id hB
  have hco5 : ∀ k, 0 ≤ B 5 k ∧ B 5 k ≤ 99 := hco
  have hpp := hp
  have hww := hw
  unfold i32 at hpp hww
  have no : ¬ ((0 ≤ p ∧ p < B 3 4) ∧ 0 ≤ what ∧ what ≤ 1) → AW0 G d m_X11_quiet 18 [some (.ref 112), some (I p), some (I what), none, none, none, none, none, none, none] [] M N (CV (fun v M' N' => v = I (A_quiet B p what) ∧ N' = N ∧ Exc [143] M M')) := by
    intro h
    refine st_iconst dX11_quiet_18 ?_
    exact r_i dX11_quiet_19 rfl ⟨by rw [A_quiet, if_neg h], rfl, Exc.rf⟩
  refine AC.of (L0 := [_, _, _, none, none, none, none, none, none, none]) pn_X11 (Nat.le_of_ble_eq_true rfl) rfl ?_
  refine st_aload_n dX11_quiet_0 rfl ?_
  refine st_iload_n dX11_quiet_1 rfl ?_
  refine c_V1p (d' := d - 1) dX11_quiet_2 l_X11_408 k_X11_isPerson i_X11_isPerson (Or.inl ⟨_, _, _, _, _, (by first | with_reducible assumption | rfl), by rfl⟩) (by omega) (Nat.le_of_ble_eq_true rfl) (C_isPerson (by omega) hB hT hp) ?_
  refine b_eq (tgt := 18) dX11_quiet_5 rfl (fun h7 => ?_) (fun h7 => ?_)
  · skip
    exact no (fun z => h7 z.1)
  · refine st_iload_n dX11_quiet_8 rfl ?_
    refine st_i2lK dX11_quiet_9 (by omega) ?_
    refine st_lc0K dX11_quiet_10 ?_
    refine st_lc1K dX11_quiet_11 ?_
    refine c_S3p (d' := d - 1) dX11_quiet_12 l_X11_182 k_X11_in s_X11_in (by omega) (Nat.le_of_ble_eq_true rfl) (C_in (by omega) (by omega) (by omega)) ?_
    refine b_ne (tgt := 20) dX11_quiet_15 rfl (fun h8 => ?_) (fun h8 => ?_)
    · refine st_iconst dX11_quiet_20 ?_
      refine st_istore_n (L' := [_, _, _, _, _, _, _, _, _, _]) dX11_quiet_21 (by decide) rfl rfl ?_
      refine st_iconst dX11_quiet_22 ?_
      refine st_istore (L' := [_, _, _, _, _, _, _, _, _, _]) dX11_quiet_23 (by decide) rfl rfl ?_
      refine st_iconst dX11_quiet_25 ?_
      refine st_istore (L' := [_, _, _, _, _, _, _, _, _, _]) dX11_quiet_26 (by decide) rfl rfl ?_
      have e : A_quiet B p what = A_bought B p.toNat what := if_pos ⟨h7, h8⟩
      obtain ⟨q, rfl⟩ : ∃ q : Nat, p = q := ⟨p.toNat, by omega⟩
      rw [Int.toNat_natCast] at e
      have hql : q < (B 3 4).toNat := by omega
      have htold := told_of hB (Or.inl (by omega))
      rw [e]
      have hpr := priS_rng h4 hco5
      have hP7 : 2 ^ (B 3 4).toNat ≤ 2 ^ 7 := Nat.pow_le_pow_right (by omega) (by omega)
      have h128 : (2 : Nat) ^ 7 = 128 := rfl
      have hpw : pw (B 3 4).toNat = ((2 ^ (B 3 4).toNat : Nat) : Int) := rfl
      have hvb := nowV_rng hB (B 3 11) 0
      have hal := stof_rng (B 4) (nowV B 0 q) ((B 3 3).toNat - 1) 0
      have alo : stof (B 4) (nowV B 0 q) ((B 3 3).toNat - 1) 0 = aloS B q := by
        unfold aloS
        show stof (B 4) (toldV B 3 (B 3 11) 0 q) _ _ = _
        unfold toldV
        simp
      have hF := bgF_rng B q (aloS B q) hpr
      have outl : ∀ (m k : Nat) (M2 : q_Mem) (l6 l7 l8 l9 : Option Value), k + m = 2 ^ (B 3 4).toNat → Exc [143] M M2 → AW0 G d m_X11_quiet 28 [some (.ref 112), some (I q), some (I what), some (I (qlS (bgF B q (aloS B q) k))), some (I (qsS (bgF B q (aloS B q) k))), some (I k), l6, l7, l8, l9] [] M2 N (CV (fun v M' N' => v = I (A_bought B q what) ∧ N' = N ∧ Exc [143] M M')) := by
        intro m
        induction m with
        | zero =>
          intro k M2 l6 l7 l8 l9 hk hE
          have hN2 := hN.exc hE (by decide)
          have hkk : k = 2 ^ (B 3 4).toNat := by omega
          have hFk := hF k
          refine st_iload dX11_quiet_28 rfl ?_
          refine st_iconst dX11_quiet_30 ?_
          refine st_aload_n dX11_quiet_31 rfl ?_
          refine st_getfr dX11_quiet_32 f_X11_9 (by first | with_reducible assumption | rfl) (by rfl) ?_
          refine st_iconst dX11_quiet_35 ?_
          refine st_ialdK (k' := 3) dX11_quiet_36 (by first | with_reducible assumption | rfl) rfl (by omega) (hn := by first | decide | omega) ?_
          rw [hN2.2.1.1.2.2.2.1, show B 3 4 = (((B 3 4).toNat : Nat) : Int) by omega]
          refine st_ishl dX11_quiet_37 ?_
          refine AW.top (z_pw (by omega)) ?_
          rw [hpw]
          refine st_icmp_ge (tgt := 201) dX11_quiet_38 (by omega) (by omega) rfl (fun h => ?_) (fun h => ?_)
          · refine st_iload_n dX11_quiet_201 rfl ?_
            refine st_iconst dX11_quiet_202 ?_
            have rq : -1 ≤ qlS (bgF B q (aloS B q) k) ∧ qlS (bgF B q (aloS B q) k) < 1000 := by unfold qlS; split <;> omega
            unfold A_bought
            rw [← hkk]
            by_cases c : (bgF B q (aloS B q) k).1 = -1
            · rw [show qlS (bgF B q (aloS B q) k) = -1 from if_pos c, if_pos c]
              refine st_icmp_ne (tgt := 211) dX11_quiet_203 (by omega) (by omega) rfl (fun h2 => ?_) (fun h2 => ?_)
              · skip
                omega
              · refine st_bipush dX11_quiet_206 (by decide) ?_
                refine st_goto (tgt := 221) dX11_quiet_208 rfl ?_
                exact r_i dX11_quiet_221 rfl ⟨rfl, rfl, hE⟩
            · rw [show qlS (bgF B q (aloS B q) k) = (bgF B q (aloS B q) k).2 from if_neg c, if_neg c, show qsS (bgF B q (aloS B q) k) = (bgF B q (aloS B q) k).1 from if_neg c]
              refine st_icmp_ne (tgt := 211) dX11_quiet_203 (by omega) (by omega) rfl (fun h2 => ?_) (fun h2 => ?_)
              · refine st_iload_n dX11_quiet_211 rfl ?_
                refine st_if_ne (tgt := 219) dX11_quiet_212 (by omega) rfl (fun h3 => ?_) (fun h3 => ?_)
                · refine st_iload dX11_quiet_219 rfl ?_
                  rw [if_neg h3]
                  exact r_i dX11_quiet_221 rfl ⟨rfl, rfl, hE⟩
                · refine st_iload_n dX11_quiet_215 rfl ?_
                  refine st_goto (tgt := 221) dX11_quiet_216 rfl ?_
                  rw [if_pos h3]
                  exact r_i dX11_quiet_221 rfl ⟨rfl, rfl, hE⟩
              · skip
                omega
          · skip
            omega
        | succ m ih =>
          intro k M2 l6 l7 l8 l9 hk hE
          have hN2 := hN.exc hE (by decide)
          have hFk := hF k
          have hprk := hpr k
          have rq : -1 ≤ qlS (bgF B q (aloS B q) k) ∧ qlS (bgF B q (aloS B q) k) < 1000 := by unfold qlS; split <;> omega
          -- on with the next set
          have nxtk : ∀ (M3 : q_Mem) (x3 x4 : Int) (l6 l7 l8 l9 : Option Value), Exc [143] M M3 → x3 = qlS (bgF B q (aloS B q) (k + 1)) → x4 = qsS (bgF B q (aloS B q) (k + 1)) → AW0 G d m_X11_quiet 195 [some (.ref 112), some (I q), some (I what), some (I x3), some (I x4), some (I k), l6, l7, l8, l9] [] M3 N (CV (fun v M' N' => v = I (A_bought B q what) ∧ N' = N ∧ Exc [143] M M')) := by
            intro M3 x3 x4 l6 l7 l8 l9 hE3 e3 e4
            subst e3
            subst e4
            refine st_iinc (L' := [_, _, _, _, _, _, _, _, _, _]) dX11_quiet_195 rfl (by decide) rfl rfl ?_
            refine st_goto (tgt := 28) dX11_quiet_198 rfl ?_
            exact AW.to (ih (k + 1) M3 l6 l7 l8 l9 (by omega) hE3) (h2 := by simp)
          refine st_iload dX11_quiet_28 rfl ?_
          refine st_iconst dX11_quiet_30 ?_
          refine st_aload_n dX11_quiet_31 rfl ?_
          refine st_getfr dX11_quiet_32 f_X11_9 (by first | with_reducible assumption | rfl) (by rfl) ?_
          refine st_iconst dX11_quiet_35 ?_
          refine st_ialdK (k' := 3) dX11_quiet_36 (by first | with_reducible assumption | rfl) rfl (by omega) (hn := by first | decide | omega) ?_
          rw [hN2.2.1.1.2.2.2.1, show B 3 4 = (((B 3 4).toNat : Nat) : Int) by omega]
          refine st_ishl dX11_quiet_37 ?_
          refine AW.top (z_pw (by omega)) ?_
          rw [hpw]
          refine st_icmp_ge (tgt := 201) dX11_quiet_38 (by omega) (by omega) rfl (fun h => ?_) (fun h => ?_)
          · skip
            omega
          · refine st_aload_n dX11_quiet_41 rfl ?_
            refine c_V0v (d' := d - 1) dX11_quiet_42 l_X11_412 k_X11_laysNow i_X11_laysNow (Or.inl ⟨_, _, _, _, _, (by first | with_reducible assumption | rfl), by rfl⟩) (by omega) (Nat.le_of_ble_eq_true rfl) (C_laysNow (by omega) hB hN2.2.1 hN2.2.2.2.2 (by omega) htold) (fun M3 N3 hx => ?_)
            obtain ⟨rfl, hE3, hv3, -⟩ := hx
            have hE3b := hE.tr hE3
            have hN3 := hN.exc hE3b (by decide)
            refine st_aload_n dX11_quiet_45 rfl ?_
            refine st_aload_n dX11_quiet_46 rfl ?_
            refine st_getfr dX11_quiet_47 f_X11_107 (by first | with_reducible assumption | rfl) (by rfl) ?_
            refine st_iload_n dX11_quiet_50 rfl ?_
            first | refine st_ialdK (k' := _) dX11_quiet_51 (by first | with_reducible assumption | rfl) rfl (by omega) (hn := by first | decide | omega) ?_ | refine st_iald dX11_quiet_51 (by first | with_reducible assumption | rfl) (by omega) (by omega) (hn := by first | decide | omega) ?_
            rw [hv3 q hql]
            refine c_V1p (d' := d - 1) dX11_quiet_52 l_X11_402 k_X11_storeyOf i_X11_storeyOf (Or.inl ⟨_, _, _, _, _, (by first | with_reducible assumption | rfl), by rfl⟩) (by omega) (Nat.le_of_ble_eq_true rfl) (C_rStoreyOf (by omega) hB hN3.2.1 (by have := hvb q; unfold i32; omega)) ?_
            rw [alo]
            refine st_istore (L' := [_, _, _, _, _, _, _, _, _, _]) dX11_quiet_55 (by decide) rfl rfl ?_
            refine st_iconst dX11_quiet_57 ?_
            refine st_istore (L' := [_, _, _, _, _, _, _, _, _, _]) dX11_quiet_58 (by decide) rfl rfl ?_
            refine st_iconst dX11_quiet_60 ?_
            refine st_istore (L' := [_, _, _, _, _, _, _, _, _, _]) dX11_quiet_61 (by decide) rfl rfl ?_
            -- the price, and who is still
            have inn : ∀ (n o : Nat) (M4 : q_Mem) (l9 : Option Value), o + n = (B 3 4).toNat → Exc [143] M M4 → (∀ j, j < o → M4 143 j = nowV B k j) → (∀ j, o ≤ j → j < (B 3 4).toNat → M4 143 j = nowV B 0 j) → (∀ (M5 : q_Mem) (l8 l9 : Option Value), Exc [143] M M5 → (∀ j, j < (B 3 4).toNat → M5 143 j = nowV B k j) → AW0 G d m_X11_quiet 142 [some (.ref 112), some (I q), some (I what), some (I (qlS (bgF B q (aloS B q) k))), some (I (qsS (bgF B q (aloS B q) k))), some (I k), some (I (aloS B q)), some (I (priS B k)), l8, l9] [] M5 N3 (CV (fun v M' N' => v = I (A_bought B q what) ∧ N' = N3 ∧ Exc [143] M M'))) →
                AW0 G d m_X11_quiet 63 [some (.ref 112), some (I q), some (I what), some (I (qlS (bgF B q (aloS B q) k))), some (I (qsS (bgF B q (aloS B q) k))), some (I k), some (I (aloS B q)), some (I (hsum (priF B k) o)), some (I o), l9] [] M4 N3 (CV (fun v M' N' => v = I (A_bought B q what) ∧ N' = N3 ∧ Exc [143] M M')) := by
              intro n
              induction n with
              | zero =>
                intro o M4 l9 ho hE4 hv4 hv5 kk
                have hN4 := hN.exc hE4 (by decide)
                refine st_iload dX11_quiet_63 rfl ?_
                refine st_aload_n dX11_quiet_65 rfl ?_
                refine st_getfr dX11_quiet_66 f_X11_9 (by first | with_reducible assumption | rfl) (by rfl) ?_
                refine st_iconst dX11_quiet_69 ?_
                refine st_ialdK (k' := 3) dX11_quiet_70 (by first | with_reducible assumption | rfl) rfl (by omega) (hn := by first | decide | omega) ?_
                rw [hN4.2.1.1.2.2.2.1]
                refine st_icmp_ge (tgt := 142) dX11_quiet_71 (by omega) (by omega) rfl (fun h2 => ?_) (fun h2 => ?_)
                · skip
                  exact AW.to (kk M4 _ _ hE4 (fun j hj => hv4 j (by omega))) (h2 := by rw [show o = (B 3 4).toNat by omega]; rfl)
                · skip
                  omega
              | succ n ihn =>
                intro o M4 l9 ho hE4 hv4 hv5 kk
                have hN4 := hN.exc hE4 (by decide)
                have hol : o < (B 3 4).toNat := by omega
                have rb := bitI_rng (k : Int) o
                have hpo : hsum (priF B k) (o + 1) = hsum (priF B k) o + priF B k o := rfl
                have nxv : ∀ (z : Int), z = nowV B k o → AW0 G d m_X11_quiet 135 [some (.ref 112), some (I q), some (I what), some (I (qlS (bgF B q (aloS B q) k))), some (I (qsS (bgF B q (aloS B q) k))), some (I k), some (I (aloS B q)), some (I (hsum (priF B k) (o + 1))), some (I o), some (I (bitI k o))] [I z, I o, .ref 143] M4 N3 (CV (fun v M' N' => v = I (A_bought B q what) ∧ N' = N3 ∧ Exc [143] M M')) := by
                  intro z hz
                  first | refine st_iastK (k' := _) dX11_quiet_135 (by first | with_reducible assumption | rfl) rfl (by omega) (hn := by first | decide | omega) ?_ | refine st_iast dX11_quiet_135 (by first | with_reducible assumption | rfl) (by omega) (by omega) (hn := by first | decide | omega) ?_
                  refine st_iinc (L' := [_, _, _, _, _, _, _, _, _, _]) dX11_quiet_136 rfl (by decide) rfl rfl ?_
                  refine st_goto (tgt := 63) dX11_quiet_139 rfl ?_
                  refine AW.to (ihn (o + 1) (q_up M4 143 o z) (some (I (bitI k o))) (by omega) (hE4.tr (Exc.up (by decide))) (fun j hj => ?_) (fun j hj hj2 => ?_) kk) (h2 := by simp)
                  · by_cases e : j = o
                    · rw [e, hz]; simp [q_up]
                    · rw [← hv4 j (by omega)]; simp [q_up, e]
                  · rw [← hv5 j (by omega) hj2]; simp [q_up, show ¬ j = o by omega]
                refine st_iload dX11_quiet_63 rfl ?_
                refine st_aload_n dX11_quiet_65 rfl ?_
                refine st_getfr dX11_quiet_66 f_X11_9 (by first | with_reducible assumption | rfl) (by rfl) ?_
                refine st_iconst dX11_quiet_69 ?_
                refine st_ialdK (k' := 3) dX11_quiet_70 (by first | with_reducible assumption | rfl) rfl (by omega) (hn := by first | decide | omega) ?_
                rw [hN4.2.1.1.2.2.2.1]
                refine st_icmp_ge (tgt := 142) dX11_quiet_71 (by omega) (by omega) rfl (fun h2 => ?_) (fun h2 => ?_)
                · skip
                  omega
                · refine st_iload dX11_quiet_74 rfl ?_
                  refine st_iload dX11_quiet_76 rfl ?_
                  refine st_ishr dX11_quiet_78 ?_; refine st_iconst dX11_quiet_79 ?_; refine st_iand dX11_quiet_80 ?_; refine AW.top (z_bit (by omega) (by omega)) ?_
                  refine st_iconst dX11_quiet_81 ?_
                  refine st_icmp_ne (tgt := 89) dX11_quiet_82 (by omega) (by omega) rfl (fun h5 => ?_) (fun h5 => ?_)
                  · refine st_iconst dX11_quiet_89 ?_
                    refine st_istore (L' := [_, _, _, _, _, _, _, _, _, _]) dX11_quiet_90 (by decide) rfl rfl ?_
                    refine st_iload dX11_quiet_92 rfl ?_
                    refine st_iload dX11_quiet_94 rfl ?_
                    have c : ¬ (k : Int).toNat.testBit o = true := fun x => h5 (by unfold bitI; rw [if_pos x])
                    have b0 : bitI k o = 0 := by unfold bitI; rw [if_neg c]
                    refine st_if_eq (tgt := 109) dX11_quiet_96 (by omega) rfl (fun h6 => ?_) (fun h6 => ?_)
                    · refine st_iconst dX11_quiet_109 ?_
                      refine st_iadd dX11_quiet_110 ?_
                      refine st_istore (L' := [_, _, _, _, _, _, _, _, _, _]) dX11_quiet_111 (by decide) rfl rfl ?_
                      refine st_aload_n dX11_quiet_113 rfl ?_
                      refine st_getfr dX11_quiet_114 f_X11_107 (by first | with_reducible assumption | rfl) (by rfl) ?_
                      refine st_iload dX11_quiet_117 rfl ?_
                      refine st_iload dX11_quiet_119 rfl ?_
                      rw [b0] at nxv
                      refine st_if_eq (tgt := 128) dX11_quiet_121 (by omega) rfl (fun h9 => ?_) (fun h9 => ?_)
                      · refine st_aload_n dX11_quiet_128 rfl ?_
                        refine st_getfr dX11_quiet_129 f_X11_107 (by first | with_reducible assumption | rfl) (by rfl) ?_
                        refine st_iload dX11_quiet_132 rfl ?_
                        first | refine st_ialdK (k' := _) dX11_quiet_134 (by first | with_reducible assumption | rfl) rfl (by omega) (hn := by first | decide | omega) ?_ | refine st_iald dX11_quiet_134 (by first | with_reducible assumption | rfl) (by omega) (by omega) (hn := by first | decide | omega) ?_
                        rw [hv5 o (Nat.le_refl _) hol]
                        exact AW.to (nxv (nowV B 0 o) (by show nowV B 0 o = toldV B 3 (B 3 11) k o; rw [toldV_set, if_neg c])) (h2 := by rw [hpo, show priF B k o = 0 from if_neg c])
                      · skip
                        omega
                    · skip
                      omega
                  · refine st_iconst dX11_quiet_85 ?_
                    refine st_goto (tgt := 90) dX11_quiet_86 rfl ?_
                    refine st_istore (L' := [_, _, _, _, _, _, _, _, _, _]) dX11_quiet_90 (by decide) rfl rfl ?_
                    refine st_iload dX11_quiet_92 rfl ?_
                    refine st_iload dX11_quiet_94 rfl ?_
                    have c : (k : Int).toNat.testBit o = true := by
                      unfold bitI at h5
                      split at h5
                      · assumption
                      · omega
                    have b1 : bitI k o = 1 := by unfold bitI; rw [if_pos c]
                    refine st_if_eq (tgt := 109) dX11_quiet_96 (by omega) rfl (fun h6 => ?_) (fun h6 => ?_)
                    · skip
                      omega
                    · refine st_aload_n dX11_quiet_99 rfl ?_
                      refine st_getfr dX11_quiet_100 f_X11_25 (by first | with_reducible assumption | rfl) (by rfl) ?_
                      refine st_iload dX11_quiet_103 rfl ?_
                      first | refine st_ialdK (k' := _) dX11_quiet_105 (by first | with_reducible assumption | rfl) rfl (by omega) (hn := by first | decide | omega) ?_ | refine st_iald dX11_quiet_105 (by first | with_reducible assumption | rfl) (by omega) (by omega) (hn := by first | decide | omega) ?_
                      rw [(hN4.2.1.2.2.1 o hol).2]
                      refine st_goto (tgt := 110) dX11_quiet_106 rfl ?_
                      refine st_iadd dX11_quiet_110 ?_
                      refine st_istore (L' := [_, _, _, _, _, _, _, _, _, _]) dX11_quiet_111 (by decide) rfl rfl ?_
                      refine st_aload_n dX11_quiet_113 rfl ?_
                      refine st_getfr dX11_quiet_114 f_X11_107 (by first | with_reducible assumption | rfl) (by rfl) ?_
                      refine st_iload dX11_quiet_117 rfl ?_
                      refine st_iload dX11_quiet_119 rfl ?_
                      rw [b1] at nxv
                      refine st_if_eq (tgt := 128) dX11_quiet_121 (by omega) rfl (fun h9 => ?_) (fun h9 => ?_)
                      · skip
                        omega
                      · refine st_iconst dX11_quiet_124 ?_
                        refine st_goto (tgt := 135) dX11_quiet_125 rfl ?_
                        exact AW.to (nxv 0 (by show 0 = toldV B 3 (B 3 11) k o; rw [toldV_set, if_pos c])) (h2 := by rw [hpo, show priF B k o = B 5 o from if_pos c])
            refine AW.to (inn (B 3 4).toNat 0 M3 l9 (Nat.zero_add _) hE3b (fun j hj => absurd hj (by omega)) (fun j _ hj => hv3 j hj) (fun M5 l8 l9 hE5 hv5 => ?_))
            have hN5 := hN.exc hE5 (by decide)
            have rb := bitI_rng (k : Int) q
            have hbg1 : bgF B q (aloS B q) (k + 1) = if ¬ k.testBit q = true ∧ ((bgF B q (aloS B q) k).1 = -1 ∨ priS B k < (bgF B q (aloS B q) k).2) ∧ hrd B (nowV B k) q = aloS B q then ((k : Int), priS B k) else bgF B q (aloS B q) k := rfl
            have skip : ¬ (¬ k.testBit q = true ∧ ((bgF B q (aloS B q) k).1 = -1 ∨ priS B k < (bgF B q (aloS B q) k).2)) → AW0 G d m_X11_quiet 166 [some (.ref 112), some (I q), some (I what), some (I (qlS (bgF B q (aloS B q) k))), some (I (qsS (bgF B q (aloS B q) k))), some (I k), some (I (aloS B q)), some (I (priS B k)), l8, l9] [] M5 N3 (CV (fun v M' N' => v = I (A_bought B q what) ∧ N' = N3 ∧ Exc [143] M M')) := by
              intro hc
              refine st_iconst dX11_quiet_166 ?_
              refine st_istore (L' := [_, _, _, _, _, _, _, _, _, _]) dX11_quiet_167 (by decide) rfl rfl ?_
              refine st_iload dX11_quiet_169 rfl ?_
              refine st_if_eq (tgt := 195) dX11_quiet_171 (by omega) rfl (fun h2 => ?_) (fun h2 => ?_)
              · skip
                have e1 : bgF B q (aloS B q) (k + 1) = bgF B q (aloS B q) k := by rw [hbg1, if_neg (fun z => hc ⟨z.1, z.2.1⟩)]
                exact nxtk M5 _ _ _ _ _ _ hE5 (by rw [e1]) (by rw [e1])
              · skip
                omega
            have may : (¬ k.testBit q = true ∧ ((bgF B q (aloS B q) k).1 = -1 ∨ priS B k < (bgF B q (aloS B q) k).2)) → AW0 G d m_X11_quiet 162 [some (.ref 112), some (I q), some (I what), some (I (qlS (bgF B q (aloS B q) k))), some (I (qsS (bgF B q (aloS B q) k))), some (I k), some (I (aloS B q)), some (I (priS B k)), l8, l9] [] M5 N3 (CV (fun v M' N' => v = I (A_bought B q what) ∧ N' = N3 ∧ Exc [143] M M')) := by
              intro hc
              refine st_iconst dX11_quiet_162 ?_
              refine st_goto (tgt := 167) dX11_quiet_163 rfl ?_
              refine st_istore (L' := [_, _, _, _, _, _, _, _, _, _]) dX11_quiet_167 (by decide) rfl rfl ?_
              refine st_iload dX11_quiet_169 rfl ?_
              refine st_if_eq (tgt := 195) dX11_quiet_171 (by omega) rfl (fun h2 => ?_) (fun h2 => ?_)
              · skip
                omega
              · refine st_aload_n dX11_quiet_174 rfl ?_
                refine st_aload_n dX11_quiet_175 rfl ?_
                refine st_iload_n dX11_quiet_176 rfl ?_
                have hr3 := hearP_rng (n := (B 3 4).toNat) (df := B 3 6) (st := g8 (B 3 12)) (rm := g4 (B 3 13)) (v := nowV B k) (p := q) hql (by omega) (fun o _ => nowV_rng hB _ _ o)
                refine c_V1p (d' := d - 1) dX11_quiet_177 l_X11_399 k_X11_heardOf i_X11_heardOf (Or.inl ⟨_, _, _, _, _, (by first | with_reducible assumption | rfl), by rfl⟩) (by omega) (Nat.le_of_ble_eq_true rfl) (C_rHeardV (v := nowV B k) (by omega) hB hN5.2 hv5 (fun o _ => nowV_rng hB _ _ o) hql) ?_
                refine c_V1p (d' := d - 1) dX11_quiet_180 l_X11_402 k_X11_storeyOf i_X11_storeyOf (Or.inl ⟨_, _, _, _, _, (by first | with_reducible assumption | rfl), by rfl⟩) (by omega) (Nat.le_of_ble_eq_true rfl) (C_rStoreyOf (by omega) hB hN5.2.1 (by unfold i32; omega)) ?_
                rw [show stof (B 4) (hearP (B 3 4).toNat (B 3 6) (g8 (B 3 12)) (g4 (B 3 13)) (nowV B k) q) ((B 3 3).toNat - 1) 0 = hrd B (nowV B k) q from rfl]
                have hr1 := hrd_rng (Hok.rg hB).2.1 (nowV B k) q
                have hr2 : 0 ≤ aloS B q ∧ aloS B q < 100 := by rw [← alo]; omega
                refine st_iload dX11_quiet_183 rfl ?_
                refine st_icmp_ne (tgt := 195) dX11_quiet_185 (by omega) (by omega) rfl (fun h9 => ?_) (fun h9 => ?_)
                · skip
                  have e1 : bgF B q (aloS B q) (k + 1) = bgF B q (aloS B q) k := by rw [hbg1, if_neg (fun z => h9 z.2.2)]
                  exact nxtk M5 _ _ _ _ _ _ hE5 (by rw [e1]) (by rw [e1])
                · refine st_iload dX11_quiet_188 rfl ?_
                  refine st_istore_n (L' := [_, _, _, _, _, _, _, _, _, _]) dX11_quiet_190 (by decide) rfl rfl ?_
                  refine st_iload dX11_quiet_191 rfl ?_
                  refine st_istore (L' := [_, _, _, _, _, _, _, _, _, _]) dX11_quiet_193 (by decide) rfl rfl ?_
                  have e1 : bgF B q (aloS B q) (k + 1) = ((k : Int), priS B k) := by rw [hbg1, if_pos ⟨hc.1, hc.2, by omega⟩]
                  exact nxtk M5 _ _ _ _ _ _ hE5 (by rw [e1]; unfold qlS; rw [if_neg (by show ¬ (k : Int) = -1; omega)]) (by rw [e1]; unfold qsS; rw [if_neg (by show ¬ (k : Int) = -1; omega)])
            refine st_iload dX11_quiet_142 rfl ?_
            refine st_iload_n dX11_quiet_144 rfl ?_
            refine st_ishr dX11_quiet_145 ?_; refine st_iconst dX11_quiet_146 ?_; refine st_iand dX11_quiet_147 ?_; refine AW.top (z_bit (by omega) (by omega)) ?_
            refine st_if_ne (tgt := 166) dX11_quiet_148 (by omega) rfl (fun h2 => ?_) (fun h2 => ?_)
            · skip
              refine skip (fun z => h2 ?_)
              unfold bitI
              exact if_neg z.1
            · refine st_iload_n dX11_quiet_151 rfl ?_
              refine st_iconst dX11_quiet_152 ?_
              have c : ¬ k.testBit q = true := by
                intro x
                unfold bitI at h2
                rw [Int.toNat_natCast, if_pos x] at h2
                omega
              refine st_icmp_eq (tgt := 162) dX11_quiet_153 (by omega) (by omega) rfl (fun h5 => ?_) (fun h5 => ?_)
              · skip
                refine may ⟨c, Or.inl ?_⟩
                unfold qlS at h5
                split at h5
                · assumption
                · omega
              · refine st_iload dX11_quiet_156 rfl ?_
                refine st_iload_n dX11_quiet_158 rfl ?_
                have hq2 : ¬ (bgF B q (aloS B q) k).1 = -1 := fun x => h5 (by unfold qlS; rw [if_pos x])
                have hq3 : qlS (bgF B q (aloS B q) k) = (bgF B q (aloS B q) k).2 := if_neg hq2
                refine st_icmp_ge (tgt := 166) dX11_quiet_159 (by omega) (by omega) rfl (fun h6 => ?_) (fun h6 => ?_)
                · skip
                  exact skip (fun z => by rcases z.2 with z2 | z2; exact hq2 z2; omega)
                · skip
                  exact may ⟨c, Or.inr (by omega)⟩
      exact AW.to (outl _ 0 M none none none none (Nat.zero_add _) Exc.rf)
    · skip
      exact no (fun z => h8 z.2)


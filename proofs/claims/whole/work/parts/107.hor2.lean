/-! the reference reads a house: clauses -/
theorem C_isFull {G : q_G} {d : Nat} {B V : q_Mem} {N : q_MemL} {w c : Nat} (hR : HR B V) (hH : HP B) (hw : w ≤ 5) (hc : c ≤ 40) : AC0 G d m_X11_isFull [.ref 112, I w, I c] V N (CV (PU (Bz (hAm B w c = true)) V N)) := by
  obtain ⟨⟨r1, r2⟩, ⟨r3, r4⟩, ⟨r5, r6⟩, ⟨r7, r8⟩, ⟨r9, r10⟩, r11, r12⟩ := hH
  obtain ⟨⟨u0, u1, u2, u3, u4, u5⟩, us, uq, ut⟩ := hR
  have hi := hAm_iff (M := B) (w := w) (c := c)
  have yes2 : hAm B w c = true → AW0 G d m_X11_isFull 27 [some (.ref 112), some (I w), some (I c)] [] V N (CV (PU (Bz (hAm B w c = true)) V N)) := by
    intro hy
    refine st_iconst dX11_isFull_27 ?_
    refine r_z dX11_isFull_28 rfl (by omega) ⟨bz1 hy, rfl, rfl⟩
  have e29 : ¬ (40 ≤ c ∨ (((w : Int) = 0 ∧ ¬ c = 0) ∨ (¬ (w : Int) = 0 ∧ c = 0))) → AW0 G d m_X11_isFull 29 [some (.ref 112), some (I w), some (I c)] [] V N (CV (PU (Bz (hAm B w c = true)) V N)) := by
    intro h0
    have hwc : w = 0 ∨ w = 1 ∨ w = 2 ∨ w = 3 ∨ w = 4 ∨ w = 5 := by omega
    rcases hwc with rfl | rfl | rfl | rfl | rfl | rfl
    · refine st_iload_n dX11_isFull_29 rfl ?_
      refine st_tsOut (tgt := 110) dX11_isFull_30 (by omega) (by omega) rfl ?_
      refine st_iconst dX11_isFull_110 ?_
      refine r_z dX11_isFull_111 rfl (by omega) ⟨bz0 (fun z => by have := hi.1 z; omega), rfl, rfl⟩
    · refine st_iload_n dX11_isFull_29 rfl ?_
      refine st_tsIn (off := 30) (tgt := 60) dX11_isFull_30 (by decide) (by decide) (by decide) rfl rfl ?_
      refine st_aload_n dX11_isFull_60 rfl ?_
      refine st_getfr dX11_isFull_61 f_X11_46 (by first | with_reducible assumption | rfl) (by rfl) ?_
      refine st_iconst dX11_isFull_64 ?_
      refine st_ialdK (k' := 2) dX11_isFull_65 (by first | with_reducible assumption | rfl) rfl (by omega) (hn := by first | decide | omega) ?_
      rw [u2]
      refine st_bipush dX11_isFull_66 (by decide) ?_
      refine st_icmp_ne (tgt := 75) dX11_isFull_68 (by omega) (by omega) rfl (fun c1 => ?_) (fun c1 => ?_)
      · refine st_iconst dX11_isFull_75 ?_
        refine r_z dX11_isFull_76 rfl (by omega) ⟨bz0 (fun z => by have := hi.1 z; omega), rfl, rfl⟩
      · refine st_iconst dX11_isFull_71 ?_
        refine st_goto (tgt := 76) dX11_isFull_72 rfl ?_
        refine r_z dX11_isFull_76 rfl (by omega) ⟨bz1 (hi.2 (by omega)), rfl, rfl⟩
    · refine st_iload_n dX11_isFull_29 rfl ?_
      refine st_tsIn (off := 47) (tgt := 77) dX11_isFull_30 (by decide) (by decide) (by decide) rfl rfl ?_
      refine st_aload_n dX11_isFull_77 rfl ?_
      refine st_getfr dX11_isFull_78 f_X11_46 (by first | with_reducible assumption | rfl) (by rfl) ?_
      refine st_iconst dX11_isFull_81 ?_
      refine st_ialdK (k' := 3) dX11_isFull_82 (by first | with_reducible assumption | rfl) rfl (by omega) (hn := by first | decide | omega) ?_
      rw [u3]
      refine st_bipush dX11_isFull_83 (by decide) ?_
      refine st_icmp_ne (tgt := 92) dX11_isFull_85 (by omega) (by omega) rfl (fun c1 => ?_) (fun c1 => ?_)
      · refine st_iconst dX11_isFull_92 ?_
        refine r_z dX11_isFull_93 rfl (by omega) ⟨bz0 (fun z => by have := hi.1 z; omega), rfl, rfl⟩
      · refine st_iconst dX11_isFull_88 ?_
        refine st_goto (tgt := 93) dX11_isFull_89 rfl ?_
        refine r_z dX11_isFull_93 rfl (by omega) ⟨bz1 (hi.2 (by omega)), rfl, rfl⟩
    · refine st_iload_n dX11_isFull_29 rfl ?_
      refine st_tsIn (off := 80) (tgt := 110) dX11_isFull_30 (by decide) (by decide) (by decide) rfl rfl ?_
      refine st_iconst dX11_isFull_110 ?_
      refine r_z dX11_isFull_111 rfl (by omega) ⟨bz0 (fun z => by have := hi.1 z; omega), rfl, rfl⟩
    · refine st_iload_n dX11_isFull_29 rfl ?_
      refine st_tsIn (off := 64) (tgt := 94) dX11_isFull_30 (by decide) (by decide) (by decide) rfl rfl ?_
      refine st_aload_n dX11_isFull_94 rfl ?_
      refine st_getfr dX11_isFull_95 f_X11_46 (by first | with_reducible assumption | rfl) (by rfl) ?_
      refine st_iconst dX11_isFull_98 ?_
      refine st_ialdK (k' := 4) dX11_isFull_99 (by first | with_reducible assumption | rfl) rfl (by omega) (hn := by first | decide | omega) ?_
      rw [u4]
      refine st_iconst dX11_isFull_100 ?_
      refine st_icmp_ne (tgt := 108) dX11_isFull_101 (by omega) (by omega) rfl (fun c1 => ?_) (fun c1 => ?_)
      · refine st_iconst dX11_isFull_108 ?_
        refine r_z dX11_isFull_109 rfl (by omega) ⟨bz0 (fun z => by have := hi.1 z; omega), rfl, rfl⟩
      · refine st_iconst dX11_isFull_104 ?_
        refine st_goto (tgt := 109) dX11_isFull_105 rfl ?_
        refine r_z dX11_isFull_109 rfl (by omega) ⟨bz1 (hi.2 (by omega)), rfl, rfl⟩
    · refine st_iload_n dX11_isFull_29 rfl ?_
      refine st_tsOut (tgt := 110) dX11_isFull_30 (by omega) (by omega) rfl ?_
      refine st_iconst dX11_isFull_110 ?_
      refine r_z dX11_isFull_111 rfl (by omega) ⟨bz0 (fun z => by have := hi.1 z; omega), rfl, rfl⟩
  refine AC.of (L0 := [_, _, _]) pn_X11 (Nat.le_of_ble_eq_true rfl) rfl ?_
  refine st_iload_n dX11_isFull_0 rfl ?_
  refine st_bipush dX11_isFull_1 (by decide) ?_
  refine st_icmp_eq (tgt := 27) dX11_isFull_3 (by omega) (by omega) rfl (fun c0 => ?_) (fun c0 => ?_)
  · skip
    exact yes2 (hi.2 (by omega))
  · refine st_iload_n dX11_isFull_6 rfl ?_
    refine st_if_ne (tgt := 14) dX11_isFull_7 (by omega) rfl (fun c1 => ?_) (fun c1 => ?_)
    · refine st_iconst dX11_isFull_14 ?_
      refine st_iload_n dX11_isFull_15 rfl ?_
      refine st_if_ne (tgt := 23) dX11_isFull_16 (by omega) rfl (fun c2 => ?_) (fun c2 => ?_)
      · refine st_iconst dX11_isFull_23 ?_
        refine st_icmp_eq (tgt := 29) dX11_isFull_24 (by omega) (by omega) rfl (fun c3 => ?_) (fun c3 => ?_)
        · skip
          exact e29 (by omega)
        · skip
          exact yes2 (hi.2 (by omega))
      · refine st_iconst dX11_isFull_19 ?_
        refine st_goto (tgt := 24) dX11_isFull_20 rfl ?_
        refine st_icmp_eq (tgt := 29) dX11_isFull_24 (by omega) (by omega) rfl (fun c3 => ?_) (fun c3 => ?_)
        · skip
          omega
        · skip
          exact yes2 (hi.2 (by omega))
    · refine st_iconst dX11_isFull_10 ?_
      refine st_goto (tgt := 15) dX11_isFull_11 rfl ?_
      refine st_iload_n dX11_isFull_15 rfl ?_
      refine st_if_ne (tgt := 23) dX11_isFull_16 (by omega) rfl (fun c2 => ?_) (fun c2 => ?_)
      · refine st_iconst dX11_isFull_23 ?_
        refine st_icmp_eq (tgt := 29) dX11_isFull_24 (by omega) (by omega) rfl (fun c3 => ?_) (fun c3 => ?_)
        · skip
          omega
        · skip
          exact yes2 (hi.2 (by omega))
      · refine st_iconst dX11_isFull_19 ?_
        refine st_goto (tgt := 24) dX11_isFull_20 rfl ?_
        refine st_icmp_eq (tgt := 29) dX11_isFull_24 (by omega) (by omega) rfl (fun c3 => ?_) (fun c3 => ?_)
        · skip
          exact e29 (by omega)
        · skip
          exact yes2 (hi.2 (by omega))
theorem C_rpart {G : q_G} {d : Nat} {B V : q_Mem} {N : q_MemL} {n p w c : Nat} (hd : 5 ≤ d) (hB : TP B n p) (hV : RP1 V n p) (ht : tb B V n) (hI : HI c B) (hR : HR B V) (hw : w ≤ 5) (hA : ¬ hAm B w c = true) : AC0 G d m_X11_housePart [.ref 112, I w] V N (CN (fun V1 N1 => N1 = N ∧ hpQ [112, 125, 126, 127, 128, 129, 130, 131] n (hRest n w B) V V1)) := by
  have hA2 := mt (hAm_iff (M := B) (w := w) (c := c)).2 hA
  have hH := hI.hp
  have hH0 := hH
  have hR0 := hR
  obtain ⟨⟨r1, r2⟩, ⟨r3, r4⟩, ⟨r5, r6⟩, ⟨r7, r8⟩, ⟨r9, r10⟩, r11, r12⟩ := hH
  obtain ⟨⟨u0, u1, u2, u3, u4, u5⟩, us, uq, ut⟩ := hR
  obtain ⟨-, -, z0, z1, -, ⟨-, zb, -⟩, ⟨-, zk⟩, -⟩ := hI
  have hwc : w = 0 ∨ w = 1 ∨ w = 2 ∨ w = 3 ∨ w = 4 ∨ w = 5 := by omega
  rcases hwc with rfl | rfl | rfl | rfl | rfl | rfl
  · have hc0 : c = 0 := by omega
    have z0' := z0 hc0
    unfold hRest
    rw [if_pos (by decide)]
    refine AC.of (L0 := [_, _, none, none]) pn_X11 (Nat.le_of_ble_eq_true rfl) rfl ?_
    refine st_iload_n dX11_housePart_0 rfl ?_
    refine st_tsIn (off := 35) (tgt := 36) dX11_housePart_1 (by decide) (by decide) (by decide) rfl rfl ?_
    refine st_aload_n dX11_housePart_36 rfl ?_
    refine st_getfr dX11_housePart_37 f_X11_46 (by first | with_reducible assumption | rfl) (by rfl) ?_
    refine st_iconst dX11_housePart_40 ?_
    refine st_aload_n dX11_housePart_41 rfl ?_
    refine st_iconst dX11_housePart_42 ?_
    refine st_iconst dX11_housePart_43 ?_
    refine c_V2i (d' := d - 1) dX11_housePart_44 l_X11_324 k_X11_amount i_X11_amount (Or.inl ⟨_, _, _, _, _, (by first | with_reducible assumption | rfl), by rfl⟩) (by omega) (Nat.le_of_ble_eq_true rfl) (C_ram (by omega) hB hV ht (by unfold i32; omega) (by unfold i32; omega)) (fun x V2 N2 hx => ?_)
    obtain ⟨rfl, hx⟩ := hx
    rcases hx with ⟨v, B2, hr, rfl, rfl⟩ | ⟨F, z, hr, rfl, hz, k1, k2, k3⟩
    · obtain ⟨k1, ⟨p2, k2⟩, k3, -⟩ := rd_ok hB hr
      rw [hr]
      have hB3 : TP (q_up B2 10 1 v) n p2 := k2.exc (Exc.up (L := [10]) (by simp)) (by simp)
      have hV3 : RP1 (q_up (q_up V 112 21 (B2 1 2)) 125 0 v) n p2 := (hV.upB k2).exc (Exc.up (L := [125]) (by simp)) (by simp)
      have ht3 : tb (q_up B2 10 1 v) (q_up (q_up V 112 21 (B2 1 2)) 125 0 v) n := ((ht.exc (Exc.up (L := [112]) (by simp)) (by simp)).exc (Exc.up (L := [125]) (by simp)) (by simp)).excB ((k1.sub (L' := [1, 10]) (by simp)).tr (Exc.up (by simp))) (by simp)
      first | refine st_iastK (k' := _) dX11_housePart_47 (by first | with_reducible assumption | rfl) rfl (by omega) (hn := by first | decide | omega) ?_ | refine st_iast dX11_housePart_47 (by first | with_reducible assumption | rfl) (by omega) (by omega) (hn := by first | decide | omega) ?_
      refine st_aload_n dX11_housePart_48 rfl ?_
      refine st_getfr dX11_housePart_49 f_X11_46 (by first | with_reducible assumption | rfl) (by rfl) ?_
      refine st_iconst dX11_housePart_52 ?_
      refine st_aload_n dX11_housePart_53 rfl ?_
      refine st_iconst dX11_housePart_54 ?_
      refine st_bipush dX11_housePart_55 (by decide) ?_
      refine c_V2i (d' := d - 1) dX11_housePart_57 l_X11_324 k_X11_amount i_X11_amount (Or.inl ⟨_, _, _, _, _, (by first | with_reducible assumption | rfl), by rfl⟩) (by omega) (Nat.le_of_ble_eq_true rfl) (C_ram (by omega) hB3 hV3 ht3 (by unfold i32; omega) (by unfold i32; omega)) (fun x V4 N4 hx => ?_)
      obtain ⟨rfl, hx⟩ := hx
      rcases hx with ⟨v2, B4, hr2, rfl, rfl⟩ | ⟨F, z, hr2, rfl, hz, j1, j2, j3⟩
      · obtain ⟨j1, ⟨p3, j2⟩, j3, -⟩ := rd_ok hB3 hr2
        dsimp only
        rw [hr2]
        first | refine st_iastK (k' := _) dX11_housePart_60 (by first | with_reducible assumption | rfl) rfl (by omega) (hn := by first | decide | omega) ?_ | refine st_iast dX11_housePart_60 (by first | with_reducible assumption | rfl) (by omega) (by omega) (hn := by first | decide | omega) ?_
        refine st_goto (tgt := 230) dX11_housePart_61 rfl ?_
        refine r_v dX11_housePart_230 rfl ⟨rfl, ?_, ?_, Or.inl ⟨_, p3, rfl, ?_, (j2.exc (Exc.up (L := [10]) (by simp)) (by simp)).exc (Exc.up (L := [10]) (by simp)) (by simp), (hV3.upB j2).exc (Exc.up (L := [125]) (by simp)) (by simp)⟩⟩
        · exact ((Exc.up (by simp)).tr (Exc.up (by simp))).tr ((Exc.up (by simp)).tr (Exc.up (by simp)))
        · exact ((fx.up (by simp)).tr (fx.up (by simp))).tr ((fx.up (by simp)).tr (fx.up (by simp)))
        · have e10 : B2 10 = B 10 := k1 10 (by simp)
          have e4 : B4 10 = q_up B2 10 1 v 10 := j1 10 (by simp)
          have e11 : B4 11 = B 11 := by rw [j1 11 (by simp), q_up_ne (by decide), k1 11 (by simp)]
          refine ⟨⟨?_, ?_, ?_, ?_, ?_, ?_⟩, ?_, ?_, ?_⟩
          · simp [q_up, e4]
          · simp [q_up]
          · simp [q_up]
            omega
          · simp [q_up, e4, e10]
            omega
          · simp [q_up, e4, e10]
            omega
          · simp [q_up, e4, e10]
            omega
          · intro s hs
            simp [q_up] at hs
            subst hs
            rw [show q_up (q_up B4 10 2 v2) 10 3 1 11 = B4 11 by rw [q_up_ne (by decide), q_up_ne (by decide)], e11]
            exact zb.symm
          · intro q hq
            simp [q_up, e4, e10] at hq
            omega
          · intro t ht
            simp [q_up, e4, e10] at ht
            omega
      · dsimp only
        rw [hr2]
        first | refine st_iastK (k' := _) dX11_housePart_60 (by first | with_reducible assumption | rfl) rfl (by omega) (hn := by first | decide | omega) ?_ | refine st_iast dX11_housePart_60 (by first | with_reducible assumption | rfl) (by omega) (by omega) (hn := by first | decide | omega) ?_
        refine st_goto (tgt := 230) dX11_housePart_61 rfl ?_
        refine r_v dX11_housePart_230 rfl ⟨rfl, ?_, ?_, Or.inr ⟨F, rfl, j3.exc (Exc.up (L := [125]) (by simp)) (by simp)⟩⟩
        · exact ((Exc.up (by simp)).tr (Exc.up (by simp))).tr ((j1.sub (by simp)).tr (Exc.up (by simp)))
        · exact ((fx.up (by simp)).tr (fx.up (by simp))).tr (j2.tr (fx.up (by simp)))
    · rw [hr]
      first | refine st_iastK (k' := _) dX11_housePart_47 (by first | with_reducible assumption | rfl) rfl (by omega) (hn := by first | decide | omega) ?_ | refine st_iast dX11_housePart_47 (by first | with_reducible assumption | rfl) (by omega) (by omega) (hn := by first | decide | omega) ?_
      refine st_aload_n dX11_housePart_48 rfl ?_
      refine st_getfr dX11_housePart_49 f_X11_46 (by first | with_reducible assumption | rfl) (by rfl) ?_
      refine st_iconst dX11_housePart_52 ?_
      refine st_aload_n dX11_housePart_53 rfl ?_
      refine st_iconst dX11_housePart_54 ?_
      refine st_bipush dX11_housePart_55 (by decide) ?_
      refine c_V2i (d' := d - 1) dX11_housePart_57 l_X11_324 k_X11_amount i_X11_amount (Or.inl ⟨_, _, _, _, _, (by first | with_reducible assumption | rfl), by rfl⟩) (by omega) (Nat.le_of_ble_eq_true rfl) (C_ramE (by omega) (k3.exc (Exc.up (L := [125]) (by simp)) (by simp))) (fun x V4 N4 hx => ?_)
      obtain ⟨rfl, rfl, j1, j2, j3⟩ := hx
      first | refine st_iastK (k' := _) dX11_housePart_60 (by first | with_reducible assumption | rfl) rfl (by omega) (hn := by first | decide | omega) ?_ | refine st_iast dX11_housePart_60 (by first | with_reducible assumption | rfl) (by omega) (by omega) (hn := by first | decide | omega) ?_
      refine st_goto (tgt := 230) dX11_housePart_61 rfl ?_
      refine r_v dX11_housePart_230 rfl ⟨rfl, ?_, ?_, Or.inr ⟨F, rfl, j3.exc (Exc.up (L := [125]) (by simp)) (by simp)⟩⟩
      · exact ((k1.sub (by simp)).tr (Exc.up (by simp))).tr ((j1.sub (by simp)).tr (Exc.up (by simp)))
      · exact (k2.tr (fx.up (by simp))).tr (j2.tr (fx.up (by simp)))
  · have hc0 : ¬ c = 0 := by omega
    have z1' := z1 hc0
    obtain ⟨s, hs⟩ : ∃ s : Nat, B 10 3 = ((s + 1 : Nat) : Int) := ⟨(B 10 3 - 1).toNat, by omega⟩
    have us' : V 125 2 = (s : Int) := by rw [u2]; omega
    unfold hRest
    rw [if_neg (by decide), if_pos (by decide)]
    refine AC.of (L0 := [_, _, none, none]) pn_X11 (Nat.le_of_ble_eq_true rfl) rfl ?_
    refine st_iload_n dX11_housePart_0 rfl ?_
    refine st_tsIn (off := 63) (tgt := 64) dX11_housePart_1 (by decide) (by decide) (by decide) rfl rfl ?_
    refine st_aload_n dX11_housePart_64 rfl ?_
    refine st_getfr dX11_housePart_65 f_X11_49 (by first | with_reducible assumption | rfl) (by rfl) ?_
    refine st_aload_n dX11_housePart_68 rfl ?_
    refine st_getfr dX11_housePart_69 f_X11_46 (by first | with_reducible assumption | rfl) (by rfl) ?_
    refine st_iconst dX11_housePart_72 ?_
    refine st_ialdK (k' := 2) dX11_housePart_73 (by first | with_reducible assumption | rfl) rfl (by omega) (hn := by first | decide | omega) ?_
    rw [us']
    refine st_aload_n dX11_housePart_74 rfl ?_
    refine st_iconst dX11_housePart_75 ?_
    refine st_bipush dX11_housePart_76 (by decide) ?_
    refine c_V2i (d' := d - 1) dX11_housePart_78 l_X11_324 k_X11_amount i_X11_amount (Or.inl ⟨_, _, _, _, _, (by first | with_reducible assumption | rfl), by rfl⟩) (by omega) (Nat.le_of_ble_eq_true rfl) (C_ram (by omega) hB hV ht (by unfold i32; omega) (by unfold i32; omega)) (fun x V2 N2 hx => ?_)
    obtain ⟨rfl, hx⟩ := hx
    rcases hx with ⟨v, B2, hr, rfl, rfl⟩ | ⟨F, z, hr, rfl, hz, k1, k2, k3⟩
    · obtain ⟨k1, ⟨p2, k2⟩, k3, -⟩ := rd_ok hB hr
      rw [hr]
      first | refine st_iastK (k' := _) dX11_housePart_81 (by first | with_reducible assumption | rfl) rfl (by omega) (hn := by first | decide | omega) ?_ | refine st_iast dX11_housePart_81 (by first | with_reducible assumption | rfl) (by omega) (by omega) (hn := by first | decide | omega) ?_
      refine st_aload_n dX11_housePart_82 rfl ?_
      refine st_getfr dX11_housePart_83 f_X11_46 (by first | with_reducible assumption | rfl) (by rfl) ?_
      refine st_iconst dX11_housePart_86 ?_
      refine st_dup2 dX11_housePart_87 rfl rfl ?_
      first | refine st_ialdK (k' := _) dX11_housePart_88 (by first | with_reducible assumption | rfl) rfl (by omega) (hn := by first | decide | omega) ?_ | refine st_iald dX11_housePart_88 (by first | with_reducible assumption | rfl) (by omega) (by omega) (hn := by first | decide | omega) ?_
      rw [show q_up (q_up V 112 21 (B2 1 2)) 126 s v 125 (Int.toNat 2) = (s : Int) by show q_up (q_up V 112 21 (B2 1 2)) 126 s v 125 2 = _; rw [q_up_ne (by decide), q_up_ne (by decide), us']]
      refine st_iconst dX11_housePart_89 ?_
      refine st_iadd dX11_housePart_90 ?_
      first | refine st_iastK (k' := _) dX11_housePart_91 (by first | with_reducible assumption | rfl) rfl (by omega) (hn := by first | decide | omega) ?_ | refine st_iast dX11_housePart_91 (by first | with_reducible assumption | rfl) (by omega) (by omega) (hn := by first | decide | omega) ?_
      refine st_goto (tgt := 230) dX11_housePart_92 rfl ?_
      refine r_v dX11_housePart_230 rfl ⟨rfl, ?_, ?_, Or.inl ⟨_, p2, rfl, ?_, (k2.exc (Exc.up (L := [11]) (by simp)) (by simp)).exc (Exc.up (L := [10]) (by simp)) (by simp), ((hV.upB k2).exc (Exc.up (L := [126]) (by simp)) (by simp)).exc (Exc.up (L := [125]) (by simp)) (by simp)⟩⟩
      · exact (Exc.up (by simp)).tr ((Exc.up (by simp)).tr (Exc.up (by simp)))
      · exact (fx.up (by simp)).tr ((fx.up (by simp)).tr (fx.up (by simp)))
      · have e10 : B2 10 = B 10 := k1 10 (by simp)
        have e11 : B2 11 = B 11 := k1 11 (by simp)
        rw [hs, Int.toNat_natCast]
        have c2 : ∀ i, ¬ i = 3 → q_up (q_up B2 11 (s + 1) (B 11 (s + 1 - 1) + v)) 10 3 (((s + 1 : Nat) : Int) + 1) 10 i = B 10 i := fun i hi => by simp [q_up, hi, e10]
        have c3 : ∀ a, ¬ a = 10 → ¬ a = 11 → ¬ a = 1 → q_up (q_up B2 11 (s + 1) (B 11 (s + 1 - 1) + v)) 10 3 (((s + 1 : Nat) : Int) + 1) a = B a := fun a h1 h2 h3 => by rw [q_up_ne h1, q_up_ne h2, k1 a (by simp [h3])]
        refine ⟨⟨?_, ?_, ?_, ?_, ?_, ?_⟩, ?_, ?_, ?_⟩
        · rw [c2 1 (by decide)]
          simp [q_up, u0]
        · rw [c2 2 (by decide)]
          simp [q_up, u1]
        · simp [q_up]
          omega
        · rw [c2 4 (by decide)]
          simp [q_up, u3]
        · rw [c2 5 (by decide)]
          simp [q_up, u4]
        · rw [c2 6 (by decide)]
          simp [q_up, u5]
        · intro j hj
          simp [q_up] at hj
          rw [q_up_ne (by decide), q_upR, q_up_ne (by decide), q_up_ne (by decide), q_upR, e11]
          by_cases e : j = s + 1
          · subst e
            simp only [upR, if_pos]
            have hold := us s (by omega)
            rw [show s + 1 - 1 = s by omega, ← hold]
            show hsum _ s + (if s = s then v else V 126 s) = _
            rw [if_pos rfl]
            rw [hsum_congr (f := upR (V 126) s v) (g := V 126) (n := s) (fun q hq => if_neg (by omega))]
          · simp only [upR]
            rw [if_neg e, ← us j (by omega)]
            exact hsum_congr (fun q hq => if_neg (by omega))
        · rw [c2 4 (by decide), c2 13 (by decide), c2 2 (by decide), c3 12 (by decide) (by decide) (by decide), c3 14 (by decide) (by decide) (by decide)]
          intro q hq
          rw [q_up_ne (by decide), q_up_ne (by decide), q_up_ne (by decide), q_up_ne (by decide), q_up_ne (by decide), q_up_ne (by decide), q_up_ne (by decide), q_up_ne (by decide), q_up_ne (by decide)]
          exact uq q hq
        · rw [c2 5 (by decide), c2 13 (by decide), c3 13 (by decide) (by decide) (by decide)]
          intro t ht'
          rw [q_up_ne (by decide), q_up_ne (by decide), q_up_ne (by decide), q_up_ne (by decide), q_up_ne (by decide), q_up_ne (by decide)]
          exact ut t ht'
    · rw [hr]
      first | refine st_iastK (k' := _) dX11_housePart_81 (by first | with_reducible assumption | rfl) rfl (by omega) (hn := by first | decide | omega) ?_ | refine st_iast dX11_housePart_81 (by first | with_reducible assumption | rfl) (by omega) (by omega) (hn := by first | decide | omega) ?_
      refine st_aload_n dX11_housePart_82 rfl ?_
      refine st_getfr dX11_housePart_83 f_X11_46 (by first | with_reducible assumption | rfl) (by rfl) ?_
      refine st_iconst dX11_housePart_86 ?_
      refine st_dup2 dX11_housePart_87 rfl rfl ?_
      first | refine st_ialdK (k' := _) dX11_housePart_88 (by first | with_reducible assumption | rfl) rfl (by omega) (hn := by first | decide | omega) ?_ | refine st_iald dX11_housePart_88 (by first | with_reducible assumption | rfl) (by omega) (by omega) (hn := by first | decide | omega) ?_
      rw [show q_up V2 126 s z 125 (Int.toNat 2) = (s : Int) by show q_up V2 126 s z 125 2 = _; rw [q_up_ne (by decide), k1 125 (by simp), us']]
      refine st_iconst dX11_housePart_89 ?_
      refine st_iadd dX11_housePart_90 ?_
      first | refine st_iastK (k' := _) dX11_housePart_91 (by first | with_reducible assumption | rfl) rfl (by omega) (hn := by first | decide | omega) ?_ | refine st_iast dX11_housePart_91 (by first | with_reducible assumption | rfl) (by omega) (by omega) (hn := by first | decide | omega) ?_
      refine st_goto (tgt := 230) dX11_housePart_92 rfl ?_
      refine r_v dX11_housePart_230 rfl ⟨rfl, ?_, ?_, Or.inr ⟨F, rfl, (k3.exc (Exc.up (L := [126]) (by simp)) (by simp)).exc (Exc.up (L := [125]) (by simp)) (by simp)⟩⟩
      · exact (k1.sub (by simp)).tr ((Exc.up (by simp)).tr (Exc.up (by simp)))
      · exact k2.tr ((fx.up (by simp)).tr (fx.up (by simp)))
  · refine AC.of (L0 := [_, _, none, none]) pn_X11 (Nat.le_of_ble_eq_true rfl) rfl ?_
    refine st_iload_n dX11_housePart_0 rfl ?_
    refine st_tsIn (off := 94) (tgt := 95) dX11_housePart_1 (by decide) (by decide) (by decide) rfl rfl ?_
    refine st_aload_n dX11_housePart_95 rfl ?_
    refine c_V0v (d' := d - 1) dX11_housePart_96 l_X11_328 k_X11_readsPerson i_X11_readsPerson (Or.inl ⟨_, _, _, _, _, (by first | with_reducible assumption | rfl), by rfl⟩) (by omega) (Nat.le_of_ble_eq_true rfl) (C_rtold (by omega) hB hV ht hH0 hR0 (by omega) zk) (fun V2 N2 hx => ?_)
    obtain ⟨rfl, h1, h2, h3⟩ := hx
    refine st_goto (tgt := 230) dX11_housePart_99 rfl ?_
    exact r_v dX11_housePart_230 rfl ⟨rfl, h1.sub (by simp), h2, h3⟩
  · unfold hRest
    rw [if_neg (by decide), if_neg (by decide), if_neg (by decide), if_pos (by decide)]
    refine AC.of (L0 := [_, _, none, none]) pn_X11 (Nat.le_of_ble_eq_true rfl) rfl ?_
    refine st_iload_n dX11_housePart_0 rfl ?_
    refine st_tsIn (off := 101) (tgt := 102) dX11_housePart_1 (by decide) (by decide) (by decide) rfl rfl ?_
    refine st_aload_n dX11_housePart_102 rfl ?_
    refine st_iconst dX11_housePart_103 ?_
    refine st_aload_n dX11_housePart_104 rfl ?_
    refine st_getfr dX11_housePart_105 f_X11_46 (by first | with_reducible assumption | rfl) (by rfl) ?_
    refine st_iconst dX11_housePart_108 ?_
    refine st_ialdK (k' := 3) dX11_housePart_109 (by first | with_reducible assumption | rfl) rfl (by omega) (hn := by first | decide | omega) ?_
    rw [u3]
    refine st_iconst dX11_housePart_110 ?_
    refine st_isub dX11_housePart_111 ?_
    refine c_V2i (d' := d - 1) dX11_housePart_112 l_X11_324 k_X11_amount i_X11_amount (Or.inl ⟨_, _, _, _, _, (by first | with_reducible assumption | rfl), by rfl⟩) (by omega) (Nat.le_of_ble_eq_true rfl) (C_ram (by omega) hB hV ht (by unfold i32; omega) (by unfold i32; omega)) (fun x V2 N2 hx => ?_)
    obtain ⟨rfl, hx⟩ := hx
    rcases hx with ⟨v, B2, hr, rfl, rfl⟩ | ⟨F, z, hr, rfl, hz, k1, k2, k3⟩
    · obtain ⟨k1, ⟨p2, k2⟩, k3, -⟩ := rd_ok hB hr
      rw [hr]
      obtain ⟨vn, rfl⟩ : ∃ vn : Nat, v = (vn : Int) := ⟨v.toNat, by omega⟩
      refine st_istore_n (L' := [_, _, _, _]) dX11_housePart_115 (by decide) rfl rfl ?_
      refine st_aload_n dX11_housePart_116 rfl ?_
      refine st_getfr dX11_housePart_117 f_X11_46 (by first | with_reducible assumption | rfl) (by rfl) ?_
      refine st_iconst dX11_housePart_120 ?_
      refine st_dup2 dX11_housePart_121 rfl rfl ?_
      first | refine st_ialdK (k' := _) dX11_housePart_122 (by first | with_reducible assumption | rfl) rfl (by omega) (hn := by first | decide | omega) ?_ | refine st_iald dX11_housePart_122 (by first | with_reducible assumption | rfl) (by omega) (by omega) (hn := by first | decide | omega) ?_
      rw [show q_up V 112 21 (B2 1 2) 125 (Int.toNat 5) = B 10 6 by show q_up V 112 21 (B2 1 2) 125 5 = _; rw [q_up_ne (by decide), u5]]
      refine st_aload_n dX11_housePart_123 rfl ?_
      refine st_getfi dX11_housePart_124 f_X11_220 (by first | with_reducible assumption | rfl) (by rfl) ?_
      rw [show q_up V 112 21 (B2 1 2) 112 22 = 0 by simp [q_up, hV.2.2.2.2]]
      refine st_if_ne (tgt := 136) dX11_housePart_127 (by omega) rfl (fun c1 => ?_) (fun c1 => ?_)
      · skip
        exact absurd rfl c1
      · refine st_iconst dX11_housePart_130 ?_
        refine st_iload_n dX11_housePart_131 rfl ?_
        refine st_ishl dX11_housePart_132 ?_
        refine st_goto (tgt := 137) dX11_housePart_133 rfl ?_
        refine st_ior dX11_housePart_137 ?_
        refine AW.top (z_set r11.1 (by omega)) ?_
        first | refine st_iastK (k' := _) dX11_housePart_138 (by first | with_reducible assumption | rfl) rfl (by omega) (hn := by first | decide | omega) ?_ | refine st_iast dX11_housePart_138 (by first | with_reducible assumption | rfl) (by omega) (by omega) (hn := by first | decide | omega) ?_
        refine st_goto (tgt := 230) dX11_housePart_139 rfl ?_
        refine r_v dX11_housePart_230 rfl ⟨rfl, ?_, ?_, Or.inl ⟨_, p2, rfl, ?_, k2.exc (Exc.up (L := [10]) (by simp)) (by simp), (hV.upB k2).exc (Exc.up (L := [125]) (by simp)) (by simp)⟩⟩
        · exact (Exc.up (by simp)).tr (Exc.up (by simp))
        · exact (fx.up (by simp)).tr (fx.up (by simp))
        · have e10 : B2 10 = B 10 := k1 10 (by simp)
          rw [Int.toNat_natCast]
          refine ⟨⟨?_, ?_, ?_, ?_, ?_, ?_⟩, ?_, ?_, ?_⟩
          · simp [q_up, e10, u0]
          · simp [q_up, e10, u1]
          · simp [q_up, e10, u2]
          · simp [q_up, e10, u3]
          · simp [q_up, e10, u4]
          · simp [q_up]
          · intro j hj
            rw [show q_up B2 10 6 (orb (B 10 6) vn) 10 3 = B 10 3 by simp [q_up, e10]] at hj
            rw [q_up_ne (by decide), q_up_ne (by decide), q_up_ne (by decide), k1 11 (by simp)]
            exact us j hj
          · rw [show q_up B2 10 6 (orb (B 10 6) vn) 10 4 = B 10 4 by simp [q_up, e10], show q_up B2 10 6 (orb (B 10 6) vn) 10 13 = B 10 13 by simp [q_up, e10], show q_up B2 10 6 (orb (B 10 6) vn) 10 2 = B 10 2 by simp [q_up, e10], show q_up B2 10 6 (orb (B 10 6) vn) 12 = B2 12 from q_up_ne (by decide), k1 12 (by simp), show q_up B2 10 6 (orb (B 10 6) vn) 14 = B2 14 from q_up_ne (by decide), k1 14 (by simp)]
            intro q hq
            rw [q_up_ne (by decide), q_up_ne (by decide), q_up_ne (by decide), q_up_ne (by decide), q_up_ne (by decide), q_up_ne (by decide)]
            exact uq q hq
          · rw [show q_up B2 10 6 (orb (B 10 6) vn) 10 5 = B 10 5 by simp [q_up, e10], show q_up B2 10 6 (orb (B 10 6) vn) 10 13 = B 10 13 by simp [q_up, e10], show q_up B2 10 6 (orb (B 10 6) vn) 13 = B2 13 from q_up_ne (by decide), k1 13 (by simp)]
            intro t ht'
            rw [q_up_ne (by decide), q_up_ne (by decide), q_up_ne (by decide), q_up_ne (by decide)]
            exact ut t ht'
    · rw [hr]
      refine st_istore_n (L' := [_, _, _, _]) dX11_housePart_115 (by decide) rfl rfl ?_
      refine st_aload_n dX11_housePart_116 rfl ?_
      refine st_getfr dX11_housePart_117 f_X11_46 (by first | with_reducible assumption | rfl) (by rfl) ?_
      refine st_iconst dX11_housePart_120 ?_
      refine st_dup2 dX11_housePart_121 rfl rfl ?_
      first | refine st_ialdK (k' := _) dX11_housePart_122 (by first | with_reducible assumption | rfl) rfl (by omega) (hn := by first | decide | omega) ?_ | refine st_iald dX11_housePart_122 (by first | with_reducible assumption | rfl) (by omega) (by omega) (hn := by first | decide | omega) ?_
      rw [show V2 125 (Int.toNat 5) = B 10 6 by show V2 125 5 = _; rw [k1 125 (by simp), u5]]
      refine st_aload_n dX11_housePart_123 rfl ?_
      refine st_getfi dX11_housePart_124 f_X11_220 (by first | with_reducible assumption | rfl) (by rfl) ?_
      have hF2 := k3.2.2.2.2.2
      rw [k3.2.2.2.1]
      refine st_if_ne (tgt := 136) dX11_housePart_127 (by omega) rfl (fun c1 => ?_) (fun c1 => ?_)
      · refine st_iconst dX11_housePart_136 ?_
        refine st_ior dX11_housePart_137 ?_
        refine AW.top (z_or0 r11.1) ?_
        first | refine st_iastK (k' := _) dX11_housePart_138 (by first | with_reducible assumption | rfl) rfl (by omega) (hn := by first | decide | omega) ?_ | refine st_iast dX11_housePart_138 (by first | with_reducible assumption | rfl) (by omega) (by omega) (hn := by first | decide | omega) ?_
        refine st_goto (tgt := 230) dX11_housePart_139 rfl ?_
        refine r_v dX11_housePart_230 rfl ⟨rfl, (k1.sub (by simp)).tr (Exc.up (by simp)), k2.tr (fx.up (by simp)), Or.inr ⟨F, rfl, k3.exc (Exc.up (L := [125]) (by simp)) (by simp)⟩⟩
      · skip
        exact absurd c1 k3.2.2.2.2.1
  · have hc0 : ¬ c = 0 := by omega
    obtain ⟨t, ht'⟩ : ∃ t : Nat, B 10 5 = (t : Int) := ⟨(B 10 5).toNat, by omega⟩
    unfold hRest
    rw [if_neg (by decide), if_neg (by decide), if_neg (by decide), if_neg (by decide), if_pos (by decide)]
    refine AC.of (L0 := [_, _, none, none]) pn_X11 (Nat.le_of_ble_eq_true rfl) rfl ?_
    refine st_iload_n dX11_housePart_0 rfl ?_
    refine st_tsIn (off := 141) (tgt := 142) dX11_housePart_1 (by decide) (by decide) (by decide) rfl rfl ?_
    refine st_aload_n dX11_housePart_142 rfl ?_
    refine st_getfr dX11_housePart_143 f_X11_46 (by first | with_reducible assumption | rfl) (by rfl) ?_
    refine st_iconst dX11_housePart_146 ?_
    refine st_ialdK (k' := 4) dX11_housePart_147 (by first | with_reducible assumption | rfl) rfl (by omega) (hn := by first | decide | omega) ?_
    rw [u4, ht']
    refine st_istore_n (L' := [_, _, _, _]) dX11_housePart_148 (by decide) rfl rfl ?_
    refine st_aload_n dX11_housePart_149 rfl ?_
    refine st_getfr dX11_housePart_150 f_X11_61 (by first | with_reducible assumption | rfl) (by rfl) ?_
    refine st_iload_n dX11_housePart_153 rfl ?_
    refine st_aload_n dX11_housePart_154 rfl ?_
    refine st_iconst dX11_housePart_155 ?_
    refine st_aload_n dX11_housePart_156 rfl ?_
    refine st_getfr dX11_housePart_157 f_X11_46 (by first | with_reducible assumption | rfl) (by rfl) ?_
    refine st_iconst dX11_housePart_160 ?_
    refine st_ialdK (k' := 0) dX11_housePart_161 (by first | with_reducible assumption | rfl) rfl (by omega) (hn := by first | decide | omega) ?_
    rw [u0]
    refine st_iconst dX11_housePart_162 ?_
    refine st_isub dX11_housePart_163 ?_
    refine c_V2i (d' := d - 1) dX11_housePart_164 l_X11_324 k_X11_amount i_X11_amount (Or.inl ⟨_, _, _, _, _, (by first | with_reducible assumption | rfl), by rfl⟩) (by omega) (Nat.le_of_ble_eq_true rfl) (C_ram (by omega) hB hV ht (by unfold i32; omega) (by unfold i32; omega)) (fun x V2 N2 hx => ?_)
    obtain ⟨rfl, hx⟩ := hx
    rcases hx with ⟨v, B2, hr, rfl, rfl⟩ | ⟨F, z, hr, rfl, hz, k1, k2, k3⟩
    · obtain ⟨k1, ⟨p2, k2⟩, k3, -⟩ := rd_ok hB hr
      rw [hr]
      have hB3 : TP (q_up B2 10 13 (w4 (B 10 13) (7 + t) v)) n p2 := k2.exc (Exc.up (L := [10]) (by simp)) (by simp)
      have hV3 : RP1 (q_up (q_up V 112 21 (B2 1 2)) 130 t v) n p2 := (hV.upB k2).exc (Exc.up (L := [130]) (by simp)) (by simp)
      have ht3 : tb (q_up B2 10 13 (w4 (B 10 13) (7 + t) v)) (q_up (q_up V 112 21 (B2 1 2)) 130 t v) n := ((ht.exc (Exc.up (L := [112]) (by simp)) (by simp)).exc (Exc.up (L := [130]) (by simp)) (by simp)).excB ((k1.sub (L' := [1, 10]) (by simp)).tr (Exc.up (by simp))) (by simp)
      first | refine st_iastK (k' := _) dX11_housePart_167 (by first | with_reducible assumption | rfl) rfl (by omega) (hn := by first | decide | omega) ?_ | refine st_iast dX11_housePart_167 (by first | with_reducible assumption | rfl) (by omega) (by omega) (hn := by first | decide | omega) ?_
      refine st_aload_n dX11_housePart_168 rfl ?_
      refine st_getfr dX11_housePart_169 f_X11_64 (by first | with_reducible assumption | rfl) (by rfl) ?_
      refine st_iload_n dX11_housePart_172 rfl ?_
      refine st_aload_n dX11_housePart_173 rfl ?_
      refine st_iconst dX11_housePart_174 ?_
      refine st_bipush dX11_housePart_175 (by decide) ?_
      refine c_V2i (d' := d - 1) dX11_housePart_177 l_X11_324 k_X11_amount i_X11_amount (Or.inl ⟨_, _, _, _, _, (by first | with_reducible assumption | rfl), by rfl⟩) (by omega) (Nat.le_of_ble_eq_true rfl) (C_ram (by omega) hB3 hV3 ht3 (by unfold i32; omega) (by unfold i32; omega)) (fun x V4 N4 hx => ?_)
      obtain ⟨rfl, hx⟩ := hx
      rcases hx with ⟨v2, B4, hr2, rfl, rfl⟩ | ⟨F, z, hr2, rfl, hz, j1, j2, j3⟩
      · obtain ⟨j1, ⟨p3, j2⟩, j3, -⟩ := rd_ok hB3 hr2
        dsimp only
        rw [Int.toNat_natCast, hr2]
        dsimp only
        first | refine st_iastK (k' := _) dX11_housePart_180 (by first | with_reducible assumption | rfl) rfl (by omega) (hn := by first | decide | omega) ?_ | refine st_iast dX11_housePart_180 (by first | with_reducible assumption | rfl) (by omega) (by omega) (hn := by first | decide | omega) ?_
        refine st_aload_n dX11_housePart_181 rfl ?_
        refine st_getfr dX11_housePart_182 f_X11_46 (by first | with_reducible assumption | rfl) (by rfl) ?_
        refine st_iconst dX11_housePart_185 ?_
        refine st_dup2 dX11_housePart_186 rfl rfl ?_
        first | refine st_ialdK (k' := _) dX11_housePart_187 (by first | with_reducible assumption | rfl) rfl (by omega) (hn := by first | decide | omega) ?_ | refine st_iald dX11_housePart_187 (by first | with_reducible assumption | rfl) (by omega) (by omega) (hn := by first | decide | omega) ?_
        rw [show q_up (q_up (q_up (q_up V 112 21 (B2 1 2)) 130 t v) 112 21 (B4 1 2)) 131 t v2 125 (Int.toNat 4) = (t : Int) by show q_up (q_up (q_up (q_up V 112 21 (B2 1 2)) 130 t v) 112 21 (B4 1 2)) 131 t v2 125 4 = _; rw [q_up_ne (by decide), q_up_ne (by decide), q_up_ne (by decide), q_up_ne (by decide), u4, ht']]
        refine st_iconst dX11_housePart_188 ?_
        refine st_iadd dX11_housePart_189 ?_
        first | refine st_iastK (k' := _) dX11_housePart_190 (by first | with_reducible assumption | rfl) rfl (by omega) (hn := by first | decide | omega) ?_ | refine st_iast dX11_housePart_190 (by first | with_reducible assumption | rfl) (by omega) (by omega) (hn := by first | decide | omega) ?_
        refine st_goto (tgt := 230) dX11_housePart_191 rfl ?_
        refine r_v dX11_housePart_230 rfl ⟨rfl, ?_, ?_, Or.inl ⟨_, p3, rfl, ?_, (j2.exc (Exc.up (L := [13]) (by simp)) (by simp)).exc (Exc.up (L := [10]) (by simp)) (by simp), ((hV3.upB j2).exc (Exc.up (L := [131]) (by simp)) (by simp)).exc (Exc.up (L := [125]) (by simp)) (by simp)⟩⟩
        · exact ((Exc.up (by simp)).tr (Exc.up (by simp))).tr ((Exc.up (by simp)).tr ((Exc.up (by simp)).tr (Exc.up (by simp))))
        · exact ((fx.up (by simp)).tr (fx.up (by simp))).tr ((fx.up (by simp)).tr ((fx.up (by simp)).tr (fx.up (by simp))))
        · have e10 : B4 10 = upR (B 10) 13 (w4 (B 10 13) (7 + t) v) := by rw [j1 10 (by simp), q_upR, k1 10 (by simp)]
          have eo : ∀ a, ¬ a = 1 → ¬ a = 10 → B4 a = B a := fun a h1 h2 => by rw [j1 a (by simp [h1]), q_up_ne h2, k1 a (by simp [h1])]
          have c5 : q_up (q_up B4 13 t v2) 10 5 ((t : Int) + 1) 10 5 = ((t + 1 : Nat) : Int) := by simp [q_up]
          have c13 : q_up (q_up B4 13 t v2) 10 5 ((t : Int) + 1) 10 13 = w4 (B 10 13) (7 + t) v := by simp [q_up, e10, upR]
          have c2 : ∀ i, ¬ i = 5 → ¬ i = 13 → q_up (q_up B4 13 t v2) 10 5 ((t : Int) + 1) 10 i = B 10 i := fun i hi h2 => by simp [q_up, hi, e10, upR, h2]
          have hw := fun j => g4_w4 (s := B 10 13) (v := v) (k := 7 + t) (j := j) (by omega) (by omega) (by omega)
          refine ⟨⟨?_, ?_, ?_, ?_, ?_, ?_⟩, ?_, ?_, ?_⟩
          · rw [c2 1 (by decide) (by decide)]
            simp [q_up, u0]
          · rw [c2 2 (by decide) (by decide)]
            simp [q_up, u1]
          · rw [c2 3 (by decide) (by decide)]
            simp [q_up, u2]
          · rw [c2 4 (by decide) (by decide)]
            simp [q_up, u3]
          · rw [c5]
            simp [q_up]
          · rw [c2 6 (by decide) (by decide)]
            simp [q_up, u5]
          · intro j hj
            rw [c2 3 (by decide) (by decide)] at hj
            rw [q_up_ne (by decide), q_up_ne (by decide), q_up_ne (by decide), q_up_ne (by decide), q_up_ne (by decide), q_up_ne (by decide), q_up_ne (by decide), eo 11 (by decide) (by decide)]
            exact us j hj
          · have cB : ∀ a, ¬ a = 1 → ¬ a = 10 → ¬ a = 13 → q_up (q_up B4 13 t v2) 10 5 ((t : Int) + 1) a = B a := fun a h1 h2 h3 => by rw [q_up_ne h2, q_up_ne h3, eo a h1 h2]
            rw [c2 4 (by decide) (by decide), c13, c2 2 (by decide) (by decide), cB 12 (by decide) (by decide) (by decide), cB 14 (by decide) (by decide) (by decide)]
            have cV : ∀ a, ¬ a = 112 → ¬ a = 130 → ¬ a = 131 → ¬ a = 125 → q_up (q_up (q_up (q_up (q_up V 112 21 (B2 1 2)) 130 t v) 112 21 (B4 1 2)) 131 t v2) 125 (Int.toNat 4) ((t : Int) + 1) a = V a := fun a h1 h2 h3 h4 => by rw [q_up_ne h4, q_up_ne h3, q_up_ne h1, q_up_ne h2, q_up_ne h1]
            rw [cV 127 (by decide) (by decide) (by decide) (by decide), cV 128 (by decide) (by decide) (by decide) (by decide), cV 129 (by decide) (by decide) (by decide) (by decide)]
            intro q hq
            rw [hw, if_neg (by omega)]
            exact uq q hq
          · have d13 : q_up (q_up B4 13 t v2) 10 5 ((t : Int) + 1) 13 = upR (B 13) t v2 := by rw [q_up_ne (by decide), q_upR, eo 13 (by decide) (by decide)]
            have d130 : q_up (q_up (q_up (q_up (q_up V 112 21 (B2 1 2)) 130 t v) 112 21 (B4 1 2)) 131 t v2) 125 (Int.toNat 4) ((t : Int) + 1) 130 = upR (V 130) t v := by rw [q_up_ne (by decide), q_up_ne (by decide), q_up_ne (by decide), q_upR, q_up_ne (by decide)]
            have d131 : q_up (q_up (q_up (q_up (q_up V 112 21 (B2 1 2)) 130 t v) 112 21 (B4 1 2)) 131 t v2) 125 (Int.toNat 4) ((t : Int) + 1) 131 = upR (V 131) t v2 := by rw [q_up_ne (by decide), q_upR, q_up_ne (by decide), q_up_ne (by decide), q_up_ne (by decide)]
            rw [c5, c13, d13, d130, d131]
            intro a ha
            rw [hw]
            simp only [upR]
            by_cases e : a = t
            · subst e
              rw [if_pos rfl, if_pos rfl, if_pos rfl, if_pos rfl]
              exact ⟨rfl, rfl⟩
            · rw [if_neg e, if_neg e, if_neg (by omega), if_neg e]
              exact ut a (by omega)
      · dsimp only
        rw [Int.toNat_natCast, hr2]
        dsimp only
        first | refine st_iastK (k' := _) dX11_housePart_180 (by first | with_reducible assumption | rfl) rfl (by omega) (hn := by first | decide | omega) ?_ | refine st_iast dX11_housePart_180 (by first | with_reducible assumption | rfl) (by omega) (by omega) (hn := by first | decide | omega) ?_
        refine st_aload_n dX11_housePart_181 rfl ?_
        refine st_getfr dX11_housePart_182 f_X11_46 (by first | with_reducible assumption | rfl) (by rfl) ?_
        refine st_iconst dX11_housePart_185 ?_
        refine st_dup2 dX11_housePart_186 rfl rfl ?_
        first | refine st_ialdK (k' := _) dX11_housePart_187 (by first | with_reducible assumption | rfl) rfl (by omega) (hn := by first | decide | omega) ?_ | refine st_iald dX11_housePart_187 (by first | with_reducible assumption | rfl) (by omega) (by omega) (hn := by first | decide | omega) ?_
        rw [show q_up V4 131 t z 125 (Int.toNat 4) = (t : Int) by show q_up V4 131 t z 125 4 = _; rw [q_up_ne (by decide), j1 125 (by simp), q_up_ne (by decide), q_up_ne (by decide), u4, ht']]
        refine st_iconst dX11_housePart_188 ?_
        refine st_iadd dX11_housePart_189 ?_
        first | refine st_iastK (k' := _) dX11_housePart_190 (by first | with_reducible assumption | rfl) rfl (by omega) (hn := by first | decide | omega) ?_ | refine st_iast dX11_housePart_190 (by first | with_reducible assumption | rfl) (by omega) (by omega) (hn := by first | decide | omega) ?_
        refine st_goto (tgt := 230) dX11_housePart_191 rfl ?_
        refine r_v dX11_housePart_230 rfl ⟨rfl, ?_, ?_, Or.inr ⟨F, rfl, (j3.exc (Exc.up (L := [131]) (by simp)) (by simp)).exc (Exc.up (L := [125]) (by simp)) (by simp)⟩⟩
        · exact ((Exc.up (by simp)).tr (Exc.up (by simp))).tr ((j1.sub (by simp)).tr ((Exc.up (by simp)).tr (Exc.up (by simp))))
        · exact ((fx.up (by simp)).tr (fx.up (by simp))).tr (j2.tr ((fx.up (by simp)).tr (fx.up (by simp))))
    · rw [hr]
      first | refine st_iastK (k' := _) dX11_housePart_167 (by first | with_reducible assumption | rfl) rfl (by omega) (hn := by first | decide | omega) ?_ | refine st_iast dX11_housePart_167 (by first | with_reducible assumption | rfl) (by omega) (by omega) (hn := by first | decide | omega) ?_
      refine st_aload_n dX11_housePart_168 rfl ?_
      refine st_getfr dX11_housePart_169 f_X11_64 (by first | with_reducible assumption | rfl) (by rfl) ?_
      refine st_iload_n dX11_housePart_172 rfl ?_
      refine st_aload_n dX11_housePart_173 rfl ?_
      refine st_iconst dX11_housePart_174 ?_
      refine st_bipush dX11_housePart_175 (by decide) ?_
      refine c_V2i (d' := d - 1) dX11_housePart_177 l_X11_324 k_X11_amount i_X11_amount (Or.inl ⟨_, _, _, _, _, (by first | with_reducible assumption | rfl), by rfl⟩) (by omega) (Nat.le_of_ble_eq_true rfl) (C_ramE (by omega) (k3.exc (Exc.up (L := [130]) (by simp)) (by simp))) (fun x V4 N4 hx => ?_)
      obtain ⟨rfl, rfl, j1, j2, j3⟩ := hx
      first | refine st_iastK (k' := _) dX11_housePart_180 (by first | with_reducible assumption | rfl) rfl (by omega) (hn := by first | decide | omega) ?_ | refine st_iast dX11_housePart_180 (by first | with_reducible assumption | rfl) (by omega) (by omega) (hn := by first | decide | omega) ?_
      refine st_aload_n dX11_housePart_181 rfl ?_
      refine st_getfr dX11_housePart_182 f_X11_46 (by first | with_reducible assumption | rfl) (by rfl) ?_
      refine st_iconst dX11_housePart_185 ?_
      refine st_dup2 dX11_housePart_186 rfl rfl ?_
      first | refine st_ialdK (k' := _) dX11_housePart_187 (by first | with_reducible assumption | rfl) rfl (by omega) (hn := by first | decide | omega) ?_ | refine st_iald dX11_housePart_187 (by first | with_reducible assumption | rfl) (by omega) (by omega) (hn := by first | decide | omega) ?_
      rw [show q_up V4 131 t 0 125 (Int.toNat 4) = (t : Int) by show q_up V4 131 t 0 125 4 = _; rw [q_up_ne (by decide), j1 125 (by simp), q_up_ne (by decide), k1 125 (by simp), u4, ht']]
      refine st_iconst dX11_housePart_188 ?_
      refine st_iadd dX11_housePart_189 ?_
      first | refine st_iastK (k' := _) dX11_housePart_190 (by first | with_reducible assumption | rfl) rfl (by omega) (hn := by first | decide | omega) ?_ | refine st_iast dX11_housePart_190 (by first | with_reducible assumption | rfl) (by omega) (by omega) (hn := by first | decide | omega) ?_
      refine st_goto (tgt := 230) dX11_housePart_191 rfl ?_
      refine r_v dX11_housePart_230 rfl ⟨rfl, ?_, ?_, Or.inr ⟨F, rfl, (j3.exc (Exc.up (L := [131]) (by simp)) (by simp)).exc (Exc.up (L := [125]) (by simp)) (by simp)⟩⟩
      · exact ((k1.sub (by simp)).tr (Exc.up (by simp))).tr ((j1.sub (by simp)).tr ((Exc.up (by simp)).tr (Exc.up (by simp))))
      · exact (k2.tr (fx.up (by simp))).tr (j2.tr ((fx.up (by simp)).tr (fx.up (by simp))))
  · unfold hRest
    rw [if_neg (by decide), if_neg (by decide), if_neg (by decide), if_neg (by decide), if_neg (by decide)]
    refine AC.of (L0 := [_, _, none, none]) pn_X11 (Nat.le_of_ble_eq_true rfl) rfl ?_
    refine st_iload_n dX11_housePart_0 rfl ?_
    refine st_tsOut (tgt := 194) dX11_housePart_1 (by omega) (by omega) rfl ?_
    refine st_aload_n dX11_housePart_194 rfl ?_
    refine st_iconst dX11_housePart_195 ?_
    refine st_aload_n dX11_housePart_196 rfl ?_
    refine st_getfr dX11_housePart_197 f_X11_46 (by first | with_reducible assumption | rfl) (by rfl) ?_
    refine st_iconst dX11_housePart_200 ?_
    refine st_ialdK (k' := 3) dX11_housePart_201 (by first | with_reducible assumption | rfl) rfl (by omega) (hn := by first | decide | omega) ?_
    rw [u3]
    refine st_iconst dX11_housePart_202 ?_
    refine st_isub dX11_housePart_203 ?_
    refine c_V2i (d' := d - 1) dX11_housePart_204 l_X11_324 k_X11_amount i_X11_amount (Or.inl ⟨_, _, _, _, _, (by first | with_reducible assumption | rfl), by rfl⟩) (by omega) (Nat.le_of_ble_eq_true rfl) (C_ram (by omega) hB hV ht (by unfold i32; omega) (by unfold i32; omega)) (fun x V2 N2 hx => ?_)
    obtain ⟨rfl, hx⟩ := hx
    rcases hx with ⟨v, B2, hr, rfl, rfl⟩ | ⟨F, z, hr, rfl, hz, k1, k2, k3⟩
    · obtain ⟨k1, ⟨p2, k2⟩, k3, -⟩ := rd_ok hB hr
      rw [hr]
      obtain ⟨vn, rfl⟩ : ∃ vn : Nat, v = (vn : Int) := ⟨v.toNat, by omega⟩
      have hV3 : RP1 (q_up V 112 21 (B2 1 2)) n p2 := hV.upB k2
      have ht3 : tb B2 (q_up V 112 21 (B2 1 2)) n := (ht.exc (Exc.up (L := [112]) (by simp)) (by simp)).excB k1 (by simp)
      refine st_istore_n (L' := [_, _, _, _]) dX11_housePart_207 (by decide) rfl rfl ?_
      refine st_aload_n dX11_housePart_208 rfl ?_
      refine st_iconst dX11_housePart_209 ?_
      refine st_bipush dX11_housePart_210 (by decide) ?_
      refine c_V2i (d' := d - 1) dX11_housePart_212 l_X11_324 k_X11_amount i_X11_amount (Or.inl ⟨_, _, _, _, _, (by first | with_reducible assumption | rfl), by rfl⟩) (by omega) (Nat.le_of_ble_eq_true rfl) (C_ram (by omega) k2 hV3 ht3 (by unfold i32; omega) (by unfold i32; omega)) (fun x V4 N4 hx => ?_)
      obtain ⟨rfl, hx⟩ := hx
      rcases hx with ⟨v2, B4, hr2, rfl, rfl⟩ | ⟨F, z, hr2, rfl, hz, j1, j2, j3⟩
      · obtain ⟨j1, ⟨p3, j2⟩, j3, -⟩ := rd_ok k2 hr2
        dsimp only
        rw [hr2, Int.toNat_natCast]
        refine st_istore_n (L' := [_, _, _, _]) dX11_housePart_215 (by decide) rfl rfl ?_
        refine st_aload_n dX11_housePart_216 rfl ?_
        refine st_getfi dX11_housePart_217 f_X11_220 (by first | with_reducible assumption | rfl) (by rfl) ?_
        rw [show q_up (q_up V 112 21 (B2 1 2)) 112 21 (B4 1 2) 112 22 = 0 by simp [q_up, hV.2.2.2.2]]
        refine st_if_ne (tgt := 230) dX11_housePart_220 (by omega) rfl (fun c1 => ?_) (fun c1 => ?_)
        · skip
          exact absurd rfl c1
        · refine st_aload_n dX11_housePart_223 rfl ?_
          refine st_getfr dX11_housePart_224 f_X11_58 (by first | with_reducible assumption | rfl) (by rfl) ?_
          refine st_iload_n dX11_housePart_227 rfl ?_
          refine st_iload_n dX11_housePart_228 rfl ?_
          first | refine st_iastK (k' := _) dX11_housePart_229 (by first | with_reducible assumption | rfl) rfl (by omega) (hn := by first | decide | omega) ?_ | refine st_iast dX11_housePart_229 (by first | with_reducible assumption | rfl) (by omega) (by omega) (hn := by first | decide | omega) ?_
          refine r_v dX11_housePart_230 rfl ⟨rfl, ?_, ?_, Or.inl ⟨_, p3, rfl, ?_, j2.exc (Exc.up (L := [12]) (by simp)) (by simp), (hV3.upB j2).exc (Exc.up (L := [129]) (by simp)) (by simp)⟩⟩
          · exact (Exc.up (by simp)).tr ((Exc.up (by simp)).tr (Exc.up (by simp)))
          · exact (fx.up (by simp)).tr ((fx.up (by simp)).tr (fx.up (by simp)))
          · have eo : ∀ a, ¬ a = 1 → B4 a = B a := fun a h1 => by rw [j1 a (by simp [h1]), k1 a (by simp [h1])]
            have c2 : ∀ a, ¬ a = 1 → ¬ a = 12 → q_up B4 12 vn v2 a = B a := fun a h1 h2 => by rw [q_up_ne h2, eo a h1]
            have cV : ∀ a, ¬ a = 112 → ¬ a = 129 → q_up (q_up (q_up V 112 21 (B2 1 2)) 112 21 (B4 1 2)) 129 vn v2 a = V a := fun a h1 h2 => by rw [q_up_ne h2, q_up_ne h1, q_up_ne h1]
            unfold HR
            rw [c2 10 (by decide) (by decide), c2 11 (by decide) (by decide), c2 13 (by decide) (by decide), c2 14 (by decide) (by decide), cV 125 (by decide) (by decide), cV 126 (by decide) (by decide), cV 127 (by decide) (by decide), cV 128 (by decide) (by decide), cV 130 (by decide) (by decide), cV 131 (by decide) (by decide), q_upR, q_upR, q_up_ne (by decide), q_up_ne (by decide), eo 12 (by decide)]
            refine ⟨⟨u0, u1, u2, u3, u4, u5⟩, us, fun q hq => ⟨(uq q hq).1, ?_, (uq q hq).2.2⟩, ut⟩
            simp only [upR]
            by_cases e : q = vn
            · rw [if_pos e, if_pos e]
            · rw [if_neg e, if_neg e]
              exact (uq q hq).2.1
      · dsimp only
        rw [hr2]
        refine st_istore_n (L' := [_, _, _, _]) dX11_housePart_215 (by decide) rfl rfl ?_
        refine st_aload_n dX11_housePart_216 rfl ?_
        refine st_getfi dX11_housePart_217 f_X11_220 (by first | with_reducible assumption | rfl) (by rfl) ?_
        have hF2 := j3.2.2.2.2.2
        rw [j3.2.2.2.1]
        refine st_if_ne (tgt := 230) dX11_housePart_220 (by omega) rfl (fun c1 => ?_) (fun c1 => ?_)
        · skip
          refine r_v dX11_housePart_230 rfl ⟨rfl, (Exc.up (by simp)).tr (j1.sub (by simp)), (fx.up (by simp)).tr j2, Or.inr ⟨F, rfl, j3⟩⟩
        · skip
          exact absurd c1 j3.2.2.2.2.1
    · rw [hr]
      refine st_istore_n (L' := [_, _, _, _]) dX11_housePart_207 (by decide) rfl rfl ?_
      refine st_aload_n dX11_housePart_208 rfl ?_
      refine st_iconst dX11_housePart_209 ?_
      refine st_bipush dX11_housePart_210 (by decide) ?_
      refine c_V2i (d' := d - 1) dX11_housePart_212 l_X11_324 k_X11_amount i_X11_amount (Or.inl ⟨_, _, _, _, _, (by first | with_reducible assumption | rfl), by rfl⟩) (by omega) (Nat.le_of_ble_eq_true rfl) (C_ramE (by omega) k3) (fun x V4 N4 hx => ?_)
      obtain ⟨rfl, rfl, j1, j2, j3⟩ := hx
      refine st_istore_n (L' := [_, _, _, _]) dX11_housePart_215 (by decide) rfl rfl ?_
      refine st_aload_n dX11_housePart_216 rfl ?_
      refine st_getfi dX11_housePart_217 f_X11_220 (by first | with_reducible assumption | rfl) (by rfl) ?_
      have hF2 := j3.2.2.2.2.2
      rw [j3.2.2.2.1]
      refine st_if_ne (tgt := 230) dX11_housePart_220 (by omega) rfl (fun c1 => ?_) (fun c1 => ?_)
      · skip
        refine r_v dX11_housePart_230 rfl ⟨rfl, (k1.sub (by simp)).tr (j1.sub (by simp)), k2.tr j2, Or.inr ⟨F, rfl, j3⟩⟩
      · skip
        exact absurd c1 j3.2.2.2.2.1


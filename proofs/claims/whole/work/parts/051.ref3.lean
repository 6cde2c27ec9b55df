/-! the reference: a beat -/
def reX : List Nat := [113, 116, 120, 144]
theorem C_rBeats {G : q_G} {d : Nat} {B M : q_Mem} {N : q_MemL} {w b : Int} (hd : 2 ≤ d) (hB : NowOk B) (hS : RS B M w b) (hv2 : Sok M 143 (B 3 4).toNat) : AC0 G d m_X11_beats [.ref 112] M N (CN (fun M' N' => N' = N ∧ Exc reX M M' ∧ (∀ j, ¬ j = 6 → M' 113 j = M 113 j) ∧ (∀ j, (B 3 4).toNat ≤ j → M' 116 j = M 116 j) ∧ (∀ j, (B 3 5).toNat ≤ j → M' 120 j = M 120 j) ∧ RS B M' (nxt B 3 w (M 143)) (b + 1))) := by
  obtain ⟨h0, h1, h2, h3, h4, h5, h6, h11, h12, h13, h15, h17, h18, hb, hc, hw, hv, hp, he, ht1, ht0⟩ := id hB
  obtain ⟨hT, hP, hW, hb6⟩ := id hS
  have st : ∀ M1, Exc [144] M M1 → RS B M1 w b := fun M1 hE => hS.exc hE (by decide)
  have tT : ∀ M1, Exc [144] M M1 → M1 113 3 = B 3 4 ∧ M1 113 4 = B 3 5 := fun M1 hE => ⟨(st M1 hE).1.1.2.2.2.1, (st M1 hE).1.1.2.2.2.2.1⟩
  have nx : ∀ k, k < 10 → g8 (nxt B 3 w (M 143)) k = homeAft B 3 w (M 143) k := fun k hk => nxt_g8 h3 hk
  have hwT : ∀ k, 0 ≤ B 6 k ∧ B 6 k ≤ 60 := hw
  -- the people's next storeys
  have lp : ∀ (Q : q_Q0) (n k : Nat) (M1 : q_Mem), k + n = (B 3 4).toNat → Exc [144] M M1 → (∀ j, j < k → M1 144 j = homeAft B 3 w (M 143) j) → (∀ M2 l, Exc [144] M M2 → (∀ j, j < (B 3 4).toNat → M2 144 j = homeAft B 3 w (M 143) j) → AW0 G d m_X11_beats 33 [some (.ref 112), l] [] M2 N Q) → AW0 G d m_X11_beats 2 [some (.ref 112), some (I k)] [] M1 N Q := by
    intro Q n
    induction n with
    | zero =>
      intro k M1 hk hE hn kk
      refine st_iload_n dX11_beats_2 rfl ?_
      refine st_aload_n dX11_beats_3 rfl ?_
      refine st_getfr dX11_beats_4 f_X11_9 (by first | with_reducible assumption | rfl) (by rfl) ?_
      refine st_iconst dX11_beats_7 ?_
      refine st_ialdK (k' := 3) dX11_beats_8 (by first | with_reducible assumption | rfl) rfl (by omega) (hn := by first | decide | omega) ?_
      rw [(tT M1 hE).1]
      refine st_icmp_ge (tgt := 33) dX11_beats_9 (by omega) (by omega) rfl (fun h => ?_) (fun h => ?_)
      · skip
        exact kk M1 _ hE (fun j hj => hn j (by omega))
      · skip
        omega
    | succ n ih =>
      intro k M1 hk hE hn kk
      have s1 := st M1 hE
      have e143 := hE 143 (by decide)
      refine st_iload_n dX11_beats_2 rfl ?_
      refine st_aload_n dX11_beats_3 rfl ?_
      refine st_getfr dX11_beats_4 f_X11_9 (by first | with_reducible assumption | rfl) (by rfl) ?_
      refine st_iconst dX11_beats_7 ?_
      refine st_ialdK (k' := 3) dX11_beats_8 (by first | with_reducible assumption | rfl) rfl (by omega) (hn := by first | decide | omega) ?_
      rw [(tT M1 hE).1]
      refine st_icmp_ge (tgt := 33) dX11_beats_9 (by omega) (by omega) rfl (fun h => ?_) (fun h => ?_)
      · skip
        omega
      · refine st_aload_n dX11_beats_12 rfl ?_
        refine st_getfr dX11_beats_13 f_X11_110 (by first | with_reducible assumption | rfl) (by rfl) ?_
        refine st_iload_n dX11_beats_16 rfl ?_
        refine st_aload_n dX11_beats_17 rfl ?_
        refine st_aload_n dX11_beats_18 rfl ?_
        refine st_iload_n dX11_beats_19 rfl ?_
        have hr := hearP_rng (n := (B 3 4).toNat) (df := B 3 6) (st := g8 w) (rm := g4 (B 3 13)) (v := M 143) (p := k) (by omega) (by omega) hv2
        refine c_V1p (d' := d - 1) dX11_beats_20 l_X11_399 k_X11_heardOf i_X11_heardOf (Or.inl ⟨_, _, _, _, _, (by first | with_reducible assumption | rfl), by rfl⟩) (by omega) (Nat.le_of_ble_eq_true rfl) (C_rHeardOf (st := g8 w) (rm := g4 (B 3 13)) (q := k) (by omega) hB s1.1 s1.2.2.1.1 s1.2.1.1 (g8_lt _) (g4_lt _) (by unfold Sok; rw [e143]; exact hv2) (by omega)) ?_
        rw [e143]
        refine c_V1p (d' := d - 1) dX11_beats_23 l_X11_402 k_X11_storeyOf i_X11_storeyOf (Or.inl ⟨_, _, _, _, _, (by first | with_reducible assumption | rfl), by rfl⟩) (by omega) (Nat.le_of_ble_eq_true rfl) (C_rStoreyOf (by omega) hB s1.1 (by unfold i32; omega)) ?_
        rw [show stof (B 4) (hearP (B 3 4).toNat (B 3 6) (g8 w) (g4 (B 3 13)) (M 143) k) ((B 3 3).toNat - 1) 0 = homeAft B 3 w (M 143) k from (if_pos (by omega) : homeAft B 3 w (M 143) k = _).symm]
        first | refine st_iastK (k' := _) dX11_beats_26 (by first | with_reducible assumption | rfl) rfl (by omega) (hn := by first | decide | omega) ?_ | refine st_iast dX11_beats_26 (by first | with_reducible assumption | rfl) (by omega) (by omega) (hn := by first | decide | omega) ?_
        refine st_iinc (L' := [_, _]) dX11_beats_27 rfl (by decide) rfl rfl ?_
        refine st_goto (tgt := 2) dX11_beats_30 rfl ?_
        refine AW.to (ih (k + 1) (q_up M1 144 k (homeAft B 3 w (M 143) k)) (by omega) (hE.tr (Exc.up (by decide))) (fun j hj => ?_) kk) (h2 := by simp)
        by_cases e : j = k
        · rw [e]
          simp [q_up]
        · rw [← hn j (by omega)]; simp [q_up, e]
  have lt : ∀ (Q : q_Q0) (n k : Nat) (M1 : q_Mem), k + n = (B 3 5).toNat → Exc [144] M M1 → (∀ j, j < (B 3 4).toNat → M1 144 j = homeAft B 3 w (M 143) j) → (∀ j, j < k → M1 144 (7 + j) = homeAft B 3 w (M 143) (7 + j)) → (∀ M2 l, Exc [144] M M2 → (∀ j, j < (B 3 4).toNat → M2 144 j = homeAft B 3 w (M 143) j) → (∀ j, j < (B 3 5).toNat → M2 144 (7 + j) = homeAft B 3 w (M 143) (7 + j)) → AW0 G d m_X11_beats 69 [some (.ref 112), l] [] M2 N Q) → AW0 G d m_X11_beats 35 [some (.ref 112), some (I k)] [] M1 N Q := by
    intro Q n
    induction n with
    | zero =>
      intro k M1 hk hE hn hn2 kk
      refine st_iload_n dX11_beats_35 rfl ?_
      refine st_aload_n dX11_beats_36 rfl ?_
      refine st_getfr dX11_beats_37 f_X11_9 (by first | with_reducible assumption | rfl) (by rfl) ?_
      refine st_iconst dX11_beats_40 ?_
      refine st_ialdK (k' := 4) dX11_beats_41 (by first | with_reducible assumption | rfl) rfl (by omega) (hn := by first | decide | omega) ?_
      rw [(tT M1 hE).2]
      refine st_icmp_ge (tgt := 69) dX11_beats_42 (by omega) (by omega) rfl (fun h => ?_) (fun h => ?_)
      · skip
        exact kk M1 _ hE hn (fun j hj => hn2 j (by omega))
      · skip
        omega
    | succ n ih =>
      intro k M1 hk hE hn hn2 kk
      have s1 := st M1 hE
      have e143 := hE 143 (by decide)
      refine st_iload_n dX11_beats_35 rfl ?_
      refine st_aload_n dX11_beats_36 rfl ?_
      refine st_getfr dX11_beats_37 f_X11_9 (by first | with_reducible assumption | rfl) (by rfl) ?_
      refine st_iconst dX11_beats_40 ?_
      refine st_ialdK (k' := 4) dX11_beats_41 (by first | with_reducible assumption | rfl) rfl (by omega) (hn := by first | decide | omega) ?_
      rw [(tT M1 hE).2]
      refine st_icmp_ge (tgt := 69) dX11_beats_42 (by omega) (by omega) rfl (fun h => ?_) (fun h => ?_)
      · skip
        omega
      · refine st_aload_n dX11_beats_45 rfl ?_
        refine st_getfr dX11_beats_46 f_X11_110 (by first | with_reducible assumption | rfl) (by rfl) ?_
        refine st_bipush dX11_beats_49 (by decide) ?_
        refine st_iload_n dX11_beats_51 rfl ?_
        refine st_iadd dX11_beats_52 ?_
        rw [show (7 : Int) + (k : Int) = ((7 + k : Nat) : Int) by omega]
        refine st_aload_n dX11_beats_53 rfl ?_
        refine st_aload_n dX11_beats_54 rfl ?_
        refine st_iload_n dX11_beats_55 rfl ?_
        have hwk := hwT k
        have hr := hearT_rng (n := (B 3 4).toNat) (w := B 6 k) (st := g8 w) (rm := g4 (B 3 13)) (v := M 143) (t := k) (by omega) (by omega) hv2
        refine c_V1p (d' := d - 1) dX11_beats_56 l_X11_405 k_X11_heardOfThing i_X11_heardOfThing (Or.inl ⟨_, _, _, _, _, (by first | with_reducible assumption | rfl), by rfl⟩) (by omega) (Nat.le_of_ble_eq_true rfl) (C_rHeardOfThing (st := g8 w) (rm := g4 (B 3 13)) (t := k) hB s1.1 s1.2.2.1.1 s1.2.1.1 (s1.2.2.1.2 k (by omega)) (s1.2.1.2 k (by omega)) (g8_lt _) (g4_lt _) (by unfold Sok; rw [e143]; exact hv2) (by omega)) ?_
        rw [e143]
        refine c_V1p (d' := d - 1) dX11_beats_59 l_X11_402 k_X11_storeyOf i_X11_storeyOf (Or.inl ⟨_, _, _, _, _, (by first | with_reducible assumption | rfl), by rfl⟩) (by omega) (Nat.le_of_ble_eq_true rfl) (C_rStoreyOf (by omega) hB s1.1 (by unfold i32; omega)) ?_
        have hst : homeAft B 3 w (M 143) (7 + k) = stof (B 4) (hearT (B 3 4).toNat (B 6 k) (g8 w) (g4 (B 3 13)) (M 143) k) ((B 3 3).toNat - 1) 0 := by
          unfold homeAft aftD
          rw [if_neg (by omega), if_pos (by omega), show 7 + k - 7 = k by omega]
        rw [← hst]
        first | refine st_iastK (k' := _) dX11_beats_62 (by first | with_reducible assumption | rfl) rfl (by omega) (hn := by first | decide | omega) ?_ | refine st_iast dX11_beats_62 (by first | with_reducible assumption | rfl) (by omega) (by omega) (hn := by first | decide | omega) ?_
        refine st_iinc (L' := [_, _]) dX11_beats_63 rfl (by decide) rfl rfl ?_
        refine st_goto (tgt := 35) dX11_beats_66 rfl ?_
        refine AW.to (ih (k + 1) (q_up M1 144 (7 + k) (homeAft B 3 w (M 143) (7 + k))) (by omega) (hE.tr (Exc.up (by decide))) (fun j hj => ?_) (fun j hj => ?_) kk) (h2 := by simp)
        · rw [← hn j hj]; simp [q_up, show ¬ j = 7 + k by omega]
        · by_cases e : j = k
          · rw [e]
            simp [q_up]
          · rw [← hn2 j (by omega)]; simp [q_up, e]
  have ls : ∀ (Q : q_Q0) (M0 : q_Mem) (hE0 : Exc [144] M M0) (hn : ∀ j, j < (B 3 4).toNat → M0 144 j = homeAft B 3 w (M 143) j) (n k : Nat) (M1 : q_Mem), k + n = (B 3 4).toNat → Exc [116] M0 M1 → (∀ j, j < k → M1 116 j = homeAft B 3 w (M 143) j) → (∀ j, k ≤ j → M1 116 j = M 116 j) → (∀ M2 l, Exc [116] M0 M2 → (∀ j, j < (B 3 4).toNat → M2 116 j = homeAft B 3 w (M 143) j) → (∀ j, (B 3 4).toNat ≤ j → M2 116 j = M 116 j) → AW0 G d m_X11_beats 99 [some (.ref 112), l] [] M2 N Q) → AW0 G d m_X11_beats 71 [some (.ref 112), some (I k)] [] M1 N Q := by
    intro Q M0 hE0 hn n
    induction n with
    | zero =>
      intro k M1 hk hE hm hm2 kk
      refine st_iload_n dX11_beats_71 rfl ?_
      refine st_aload_n dX11_beats_72 rfl ?_
      refine st_getfr dX11_beats_73 f_X11_9 (by first | with_reducible assumption | rfl) (by rfl) ?_
      refine st_iconst dX11_beats_76 ?_
      refine st_ialdK (k' := 3) dX11_beats_77 (by first | with_reducible assumption | rfl) rfl (by omega) (hn := by first | decide | omega) ?_
      rw [hE 113 (by decide), (tT M0 hE0).1]
      refine st_icmp_ge (tgt := 99) dX11_beats_78 (by omega) (by omega) rfl (fun h => ?_) (fun h => ?_)
      · skip
        exact kk M1 _ hE (fun j hj => hm j (by omega)) (fun j hj => hm2 j (by omega))
      · skip
        omega
    | succ n ih =>
      intro k M1 hk hE hm hm2 kk
      refine st_iload_n dX11_beats_71 rfl ?_
      refine st_aload_n dX11_beats_72 rfl ?_
      refine st_getfr dX11_beats_73 f_X11_9 (by first | with_reducible assumption | rfl) (by rfl) ?_
      refine st_iconst dX11_beats_76 ?_
      refine st_ialdK (k' := 3) dX11_beats_77 (by first | with_reducible assumption | rfl) rfl (by omega) (hn := by first | decide | omega) ?_
      rw [hE 113 (by decide), (tT M0 hE0).1]
      refine st_icmp_ge (tgt := 99) dX11_beats_78 (by omega) (by omega) rfl (fun h => ?_) (fun h => ?_)
      · skip
        omega
      · refine st_aload_n dX11_beats_81 rfl ?_
        refine st_getfr dX11_beats_82 f_X11_19 (by first | with_reducible assumption | rfl) (by rfl) ?_
        refine st_iload_n dX11_beats_85 rfl ?_
        refine st_aload_n dX11_beats_86 rfl ?_
        refine st_getfr dX11_beats_87 f_X11_110 (by first | with_reducible assumption | rfl) (by rfl) ?_
        refine st_iload_n dX11_beats_90 rfl ?_
        first | refine st_ialdK (k' := _) dX11_beats_91 (by first | with_reducible assumption | rfl) rfl (by omega) (hn := by first | decide | omega) ?_ | refine st_iald dX11_beats_91 (by first | with_reducible assumption | rfl) (by omega) (by omega) (hn := by first | decide | omega) ?_
        rw [hE 144 (by decide), hn k (by omega)]
        first | refine st_iastK (k' := _) dX11_beats_92 (by first | with_reducible assumption | rfl) rfl (by omega) (hn := by first | decide | omega) ?_ | refine st_iast dX11_beats_92 (by first | with_reducible assumption | rfl) (by omega) (by omega) (hn := by first | decide | omega) ?_
        refine st_iinc (L' := [_, _]) dX11_beats_93 rfl (by decide) rfl rfl ?_
        refine st_goto (tgt := 71) dX11_beats_96 rfl ?_
        refine AW.to (ih (k + 1) (q_up M1 116 k (homeAft B 3 w (M 143) k)) (by omega) (hE.tr (Exc.up (by decide))) (fun j hj => ?_) (fun j hj => ?_) kk) (h2 := by simp)
        · by_cases e : j = k
          · rw [e]; simp [q_up]
          · rw [← hm j (by omega)]; simp [q_up, e]
        · rw [← hm2 j (by omega)]; simp [q_up, show ¬ j = k by omega]
  have lu : ∀ (Q : q_Q0) (M0 : q_Mem) (h4 : M0 113 4 = B 3 5) (hn : ∀ j, j < (B 3 5).toNat → M0 144 (7 + j) = homeAft B 3 w (M 143) (7 + j)) (n k : Nat) (M1 : q_Mem), k + n = (B 3 5).toNat → Exc [120] M0 M1 → (∀ j, j < k → M1 120 j = homeAft B 3 w (M 143) (7 + j)) → (∀ j, k ≤ j → M1 120 j = M 120 j) → (∀ M2 l, Exc [120] M0 M2 → (∀ j, j < (B 3 5).toNat → M2 120 j = homeAft B 3 w (M 143) (7 + j)) → (∀ j, (B 3 5).toNat ≤ j → M2 120 j = M 120 j) → AW0 G d m_X11_beats 132 [some (.ref 112), l] [] M2 N Q) → AW0 G d m_X11_beats 101 [some (.ref 112), some (I k)] [] M1 N Q := by
    intro Q M0 h4 hn n
    induction n with
    | zero =>
      intro k M1 hk hE hm hm2 kk
      refine st_iload_n dX11_beats_101 rfl ?_
      refine st_aload_n dX11_beats_102 rfl ?_
      refine st_getfr dX11_beats_103 f_X11_9 (by first | with_reducible assumption | rfl) (by rfl) ?_
      refine st_iconst dX11_beats_106 ?_
      refine st_ialdK (k' := 4) dX11_beats_107 (by first | with_reducible assumption | rfl) rfl (by omega) (hn := by first | decide | omega) ?_
      rw [hE 113 (by decide), h4]
      refine st_icmp_ge (tgt := 132) dX11_beats_108 (by omega) (by omega) rfl (fun h => ?_) (fun h => ?_)
      · skip
        exact kk M1 _ hE (fun j hj => hm j (by omega)) (fun j hj => hm2 j (by omega))
      · skip
        omega
    | succ n ih =>
      intro k M1 hk hE hm hm2 kk
      refine st_iload_n dX11_beats_101 rfl ?_
      refine st_aload_n dX11_beats_102 rfl ?_
      refine st_getfr dX11_beats_103 f_X11_9 (by first | with_reducible assumption | rfl) (by rfl) ?_
      refine st_iconst dX11_beats_106 ?_
      refine st_ialdK (k' := 4) dX11_beats_107 (by first | with_reducible assumption | rfl) rfl (by omega) (hn := by first | decide | omega) ?_
      rw [hE 113 (by decide), h4]
      refine st_icmp_ge (tgt := 132) dX11_beats_108 (by omega) (by omega) rfl (fun h => ?_) (fun h => ?_)
      · skip
        omega
      · refine st_aload_n dX11_beats_111 rfl ?_
        refine st_getfr dX11_beats_112 f_X11_31 (by first | with_reducible assumption | rfl) (by rfl) ?_
        refine st_iload_n dX11_beats_115 rfl ?_
        refine st_aload_n dX11_beats_116 rfl ?_
        refine st_getfr dX11_beats_117 f_X11_110 (by first | with_reducible assumption | rfl) (by rfl) ?_
        refine st_bipush dX11_beats_120 (by decide) ?_
        refine st_iload_n dX11_beats_122 rfl ?_
        refine st_iadd dX11_beats_123 ?_
        rw [show (7 : Int) + (k : Int) = ((7 + k : Nat) : Int) by omega]
        first | refine st_ialdK (k' := _) dX11_beats_124 (by first | with_reducible assumption | rfl) rfl (by omega) (hn := by first | decide | omega) ?_ | refine st_iald dX11_beats_124 (by first | with_reducible assumption | rfl) (by omega) (by omega) (hn := by first | decide | omega) ?_
        rw [hE 144 (by decide), hn k (by omega)]
        first | refine st_iastK (k' := _) dX11_beats_125 (by first | with_reducible assumption | rfl) rfl (by omega) (hn := by first | decide | omega) ?_ | refine st_iast dX11_beats_125 (by first | with_reducible assumption | rfl) (by omega) (by omega) (hn := by first | decide | omega) ?_
        refine st_iinc (L' := [_, _]) dX11_beats_126 rfl (by decide) rfl rfl ?_
        refine st_goto (tgt := 101) dX11_beats_129 rfl ?_
        refine AW.to (ih (k + 1) (q_up M1 120 k (homeAft B 3 w (M 143) (7 + k))) (by omega) (hE.tr (Exc.up (by decide))) (fun j hj => ?_) (fun j hj => ?_) kk) (h2 := by simp)
        · by_cases e : j = k
          · rw [e]; simp [q_up]
          · rw [← hm j (by omega)]; simp [q_up, e]
        · rw [← hm2 j (by omega)]; simp [q_up, show ¬ j = k by omega]
  refine AC.of (L0 := [_, none]) pn_X11 (Nat.le_of_ble_eq_true rfl) rfl ?_
  refine st_iconst dX11_beats_0 ?_
  refine st_istore_n (L' := [_, _]) dX11_beats_1 (by decide) rfl rfl ?_
  refine AW.to (lp _ (B 3 4).toNat 0 M (by omega) Exc.rf (fun j hj => by omega) (fun M2 l hE2 hn2 => ?_))
  refine st_iconst dX11_beats_33 ?_
  refine st_istore_n (L' := [_, _]) dX11_beats_34 (by decide) rfl rfl ?_
  refine AW.to (lt _ (B 3 5).toNat 0 M2 (by omega) hE2 hn2 (fun j hj => by omega) (fun M3 l hE3 hn3 ho3 => ?_))
  refine st_iconst dX11_beats_69 ?_
  refine st_istore_n (L' := [_, _]) dX11_beats_70 (by decide) rfl rfl ?_
  refine AW.to (ls _ M3 hE3 hn3 (B 3 4).toNat 0 M3 (by omega) Exc.rf (fun j hj => by omega) (fun j _ => by rw [hE3 116 (by decide)]) (fun M4 l hE4 hn4 hn4b => ?_))
  refine st_iconst dX11_beats_99 ?_
  refine st_istore_n (L' := [_, _]) dX11_beats_100 (by decide) rfl rfl ?_
  refine AW.to (lu _ M4 (by rw [hE4 113 (by decide)]; exact (tT M3 hE3).2) (fun j hj => by rw [hE4 144 (by decide)]; exact ho3 j hj) (B 3 5).toNat 0 M4 (by omega) Exc.rf (fun j hj => by omega) (fun j _ => by rw [hE4 120 (by decide), hE3 120 (by decide)]) (fun M5 l hE5 hn5 hn5b => ?_))
  refine st_aload_n dX11_beats_132 rfl ?_
  refine st_getfr dX11_beats_133 f_X11_9 (by first | with_reducible assumption | rfl) (by rfl) ?_
  refine st_bipush dX11_beats_136 (by decide) ?_
  refine st_dup2 dX11_beats_138 rfl rfl ?_
  refine st_ialdK (k' := 6) dX11_beats_139 (by first | assumption | rfl) rfl (by omega) (hn := by first | decide | omega) ?_
  refine st_iconst dX11_beats_140 ?_
  refine st_iadd dX11_beats_141 ?_
  refine st_iastK (k' := 6) dX11_beats_142 (by first | assumption | rfl) rfl (by omega) (hn := by first | decide | omega) ?_
  have e6 : M5 113 6 = b := by rw [hE5 113 (by decide), hE4 113 (by decide), hE3 113 (by decide)]; exact hb6
  have e113 : M5 113 = M 113 := by rw [hE5 113 (by decide), hE4 113 (by decide), hE3 113 (by decide)]
  rw [e6]
  have hE : Exc reX M (q_up M5 113 6 (b + 1)) := (((hE3.sub (by decide)).tr (hE4.sub (by decide))).tr (hE5.sub (by decide))).tr (Exc.up (by decide))
  have hj : ∀ j, ¬ j = 6 → q_up M5 113 6 (b + 1) 113 j = M 113 j := fun j hj => by rw [← e113]; simp [q_up, hj]
  refine r_v dX11_beats_143 rfl ⟨rfl, hE, hj, fun j hj2 => ?_, fun j hj2 => ?_, hT.exc hE (fun j h _ => hj j h) (by decide), hP.exc hE (by decide) (by decide), ⟨fun q hq => ?_, fun t ht => ?_⟩, by simp [q_up]⟩
  · rw [q_up_ne (by decide), hE5 116 (by decide)]; exact hn4b j hj2
  · rw [q_up_ne (by decide)]; exact hn5b j hj2
  · rw [q_up_ne (by decide), hE5 116 (by decide), hn4 q hq, nx q (by omega)]
  · rw [q_up_ne (by decide), hn5 t ht, nx (7 + t) (by omega)]


/-! the system's beats by a rule: a stroll -/
def wayL (B : q_Mem) (o : Nat) (w : Nat → Int64) : Int64 := if firC B o w 1 (B o 6).toNat 0 = -1 then 0 else sumV B o w (firC B o w 1 (B o 6).toNat 0).toNat
def wayI (x : Int64) : Int := if x = 1 then 1 else if x = -1 then -1 else 0
/-- where all are when one has strolled -/
def strF (B : q_Mem) (o : Nat) (H : q_Mem) (v : Nat → Int) (p : Nat) : Int := if ¬ wayI (wayL B o (wdL H v p)) = 0 ∧ 0 ≤ g4 (H 3 13) p + wayI (wayL B o (wdL H v p)) ∧ g4 (H 3 13) p + wayI (wayL B o (wdL H v p)) < H 3 1 then w4 (H 3 13) p (g4 (H 3 13) p + wayI (wayL B o (wdL H v p))) else H 3 13
def EvY (M : q_Mem) (N : q_MemL) (M1 : q_Mem) (N1 : q_MemL) : Prop := Exc [86] M M1 ∧ (∀ j, ¬ j = 5 → M1 86 j = M 86 j) ∧ ∀ a, ¬ a = 89 → ¬ a = 90 → N1 a = N a
theorem EvX.y {M : q_Mem} {N N0 : q_MemL} {M1 : q_Mem} {N1 : q_MemL} (h : EvX M N M1 N1) (h2 : ∀ a, ¬ a = 89 → N a = N0 a) : EvY M N0 M1 N1 := ⟨h.1, h.2.1, fun a a1 a2 => (h.2.2 a a2).trans (h2 a a1)⟩
theorem EvY.up {M : q_Mem} {N : q_MemL} {M1 : q_Mem} {N1 : q_MemL} {a i : Nat} {z : Int} (h : EvY M N M1 N1) (ha : ¬ a = 86) : EvY (q_up M a i z) N (q_up M1 a i z) N1 := by
  refine ⟨fun b hb => ?_, fun j hj => ?_, h.2.2⟩
  · funext j
    have := congrFun (h.1 b hb) j
    unfold q_up
    rw [this]
  · rw [q_up_ne (fun z => ha z.symm), q_up_ne (fun z => ha z.symm)]
    exact h.2.1 j hj
theorem EvY.tr {M M1 M2 : q_Mem} {N N1 N2 : q_MemL} (h : EvY M N M1 N1) (h2 : EvY M1 N1 M2 N2) : EvY M N M2 N2 := ⟨h.1.tr h2.1, fun j hj => (h2.2.1 j hj).trans (h.2.1 j hj), fun a a1 a2 => (h2.2.2 a a1 a2).trans (h.2.2 a a1 a2)⟩
theorem EvY.rf {M : q_Mem} {N : q_MemL} : EvY M N M N := ⟨Exc.rf, fun _ _ => rfl, fun _ _ _ => rfl⟩
theorem C_stroll {G : q_G} {d : Nat} {B M : q_Mem} {N : q_MemL} {o p : Nat} (hd : 5 ≤ d) (ho : isRu o) (hr : ruRow B M o) (hC : RuC B o) (hM : NowOk M) (hp : p < (M 3 4).toNat) (hv : ∀ q, q < (M 3 4).toNat → 0 ≤ M 87 q ∧ M 87 q ≤ 30) : AC0 G d m_X6_stroll [.ref 86, .ref o, I p] M N (CN (fun M' N' => EvY (q_up M 3 13 (strF B o M (M 87) p)) N M' N')) := by
  have hH : isHome 3 := Or.inl rfl
  have hrg := Hok.rg hM
  obtain ⟨h0, h1, h2, h3, h4, h5, h6, h11, h12, h13, -⟩ := id hM
  have g4p := g4_lt (M 3 13) p
  have no : strF B o M (M 87) p = M 3 13 → ∀ {M1 : q_Mem} {N1 : q_MemL}, EvY M N M1 N1 → EvY (q_up M 3 13 (strF B o M (M 87) p)) N M1 N1 := by
    intro h M1 N1 hE
    rw [h, q_up_id rfl]
    exact hE
  -- behind the sum
  have tl : ∀ (x : Int64) (l3 : Option Value) (M1 : q_Mem) (N1 : q_MemL), x = wayL B o (wdL M (M 87) p) → EvY M N M1 N1 → AW0 G d m_X6_stroll 29 [some (.ref 86), some (.ref o), some (I p), l3, some (.long x), none, none] [] M1 N1 (CN (fun M' N' => EvY (q_up M 3 13 (strF B o M (M 87) p)) N M' N')) := by
    intro x l3 M1 N1 hx hE
    have e3 : M1 3 = M 3 := hE.1 3 (by decide)
    have t46 : ∀ (wy : Int), wayI x = wy → wy = 1 ∨ wy = -1 → AW0 G d m_X6_stroll 46 [some (.ref 86), some (.ref o), some (I p), l3, some (J wy), none, none] [] M1 N1 (CN (fun M' N' => EvY (q_up M 3 13 (strF B o M (M 87) p)) N M' N')) := by
      intro wy hwy hw1
      rw [hx] at hwy
      refine st_aload_n dX6_stroll_46 rfl ?_
      refine st_getfr dX6_stroll_47 f_X6_29 (by first | with_reducible assumption | rfl) (by rfl) ?_
      refine st_getfi dX6_stroll_50 f_X6_87 (by first | with_reducible assumption | rfl) (by rfl) ?_
      rw [e3]
      refine st_iload_n dX6_stroll_53 rfl ?_
      refine c_S2p (d' := d - 1) dX6_stroll_54 l_X6_90 k_X10_roomIn s_X10_roomIn (by omega) (Nat.le_of_ble_eq_true rfl) (C_roomIn (by omega) (by omega)) ?_
      refine st_lload dX6_stroll_57 rfl ?_
      refine st_l2iJ dX6_stroll_59 ?_
      refine st_iadd dX6_stroll_60 ?_
      refine st_istore (L' := [_, _, _, _, _, _, _]) dX6_stroll_61 (by decide) rfl rfl ?_
      refine st_aload_n dX6_stroll_63 rfl ?_
      refine st_getfr dX6_stroll_64 f_X6_29 (by first | with_reducible assumption | rfl) (by rfl) ?_
      refine st_iload dX6_stroll_67 rfl ?_
      refine c_V1p (d' := d - 1) dX6_stroll_69 l_X6_94 k_X2_hasRoom i_X2_hasRoom (Or.inl ⟨_, _, _, _, _, (by first | with_reducible assumption | rfl), by rfl⟩) (by omega) (Nat.le_of_ble_eq_true rfl) (C_hasRoom hH (by rw [e3]; omega) (by omega)) ?_
      rw [e3]
      refine b_eq (tgt := 95) dX6_stroll_72 rfl (fun c => ?_) (fun c => ?_)
      · skip
        refine r_v dX6_stroll_95 rfl (no ?_ hE)
        unfold strF
        rw [if_neg ?_]
        rw [hwy]
        exact fun z => c z.2
      · refine st_aload_n dX6_stroll_75 rfl ?_
        refine st_getfr dX6_stroll_76 f_X6_29 (by first | with_reducible assumption | rfl) (by rfl) ?_
        refine st_aload_n dX6_stroll_79 rfl ?_
        refine st_getfr dX6_stroll_80 f_X6_29 (by first | with_reducible assumption | rfl) (by rfl) ?_
        refine st_getfi dX6_stroll_83 f_X6_87 (by first | with_reducible assumption | rfl) (by rfl) ?_
        rw [e3]
        refine st_iload_n dX6_stroll_86 rfl ?_
        refine st_iload dX6_stroll_87 rfl ?_
        refine c_S3p (d' := d - 1) dX6_stroll_89 l_X6_98 k_X10_withRoom s_X10_withRoom (by omega) (Nat.le_of_ble_eq_true rfl) (C_withRoom (by omega) (by omega) (by omega)) ?_
        refine st_putfi dX6_stroll_92 w_X6_87 (by first | with_reducible assumption | rfl) (by rfl) rfl rfl ?_
        have hz : w4 (M 3 13) p (g4 (M 3 13) p + wy) = strF B o M (M 87) p := by
          unfold strF
          rw [hwy, if_pos ⟨by omega, c⟩]
        rw [hz]
        refine r_v dX6_stroll_95 rfl (hE.up (by decide))
    have hc1 := cmpL_rng x (-1)
    have hc2 := cmpL_rng x 1
    have hcq : ∀ (x y : Int64), cmpL x y = 0 → x = y := by
      intro x y h
      unfold cmpL at h
      by_cases c1 : x > y
      · rw [if_pos c1] at h; omega
      · rw [if_neg c1] at h
        by_cases c2 : x = y
        · exact c2
        · rw [if_neg c2] at h; omega
    refine st_lload dX6_stroll_29 rfl ?_
    refine st_ldc2 dX6_stroll_31 l_X6_85 ?_
    refine AW.topv (show _ = Value.long (-1) from rfl) ?_
    refine st_lcmpL dX6_stroll_34 ?_
    refine st_if_eq (tgt := 46) dX6_stroll_35 (by omega) rfl (fun c => ?_) (fun c => ?_)
    · skip
      have e := hcq _ _ c
      subst e
      exact t46 (-1) (by decide) (Or.inr rfl)
    · refine st_lload dX6_stroll_38 rfl ?_
      refine st_lc1K dX6_stroll_40 ?_
      refine AW.topv (show _ = Value.long 1 from rfl) ?_
      refine st_lcmpL dX6_stroll_41 ?_
      refine st_if_eq (tgt := 46) dX6_stroll_42 (by omega) rfl (fun c2 => ?_) (fun c2 => ?_)
      · skip
        have e := hcq _ _ c2
        subst e
        exact t46 1 (by decide) (Or.inl rfl)
      · skip
        refine r_v dX6_stroll_45 rfl (no ?_ hE)
        unfold strF
        rw [← hx, if_neg ?_]
        intro z
        refine z.1 ?_
        unfold wayI
        rw [if_neg (fun z => c2 (by rw [z]; exact cmpL_rf 1)), if_neg (fun z => c (by rw [z]; exact cmpL_rf (-1)))]
  refine AC.of (L0 := [_, _, _, none, none, none, none]) pn_X6 (Nat.le_of_ble_eq_true rfl) rfl ?_
  refine st_aload_n dX6_stroll_0 rfl ?_
  refine st_iload_n dX6_stroll_1 rfl ?_
  refine c_V1v (d' := d - 1) dX6_stroll_2 l_X6_50 k_X6_look i_X6_look (Or.inl ⟨_, _, _, _, _, (by first | with_reducible assumption | rfl), by rfl⟩) (by omega) (Nat.le_of_ble_eq_true rfl) (C_look (by omega) hM hp hv) (fun M1 N1 hx => ?_)
  obtain ⟨rfl, hN, hw⟩ := hx
  refine st_aload_n dX6_stroll_5 rfl ?_
  refine st_aload_n dX6_stroll_6 rfl ?_
  refine st_iconst dX6_stroll_7 ?_
  refine c_V2i (d' := d - 1) dX6_stroll_8 l_X6_54 k_X6_firstClause i_X6_firstClause (Or.inl ⟨_, _, _, _, _, (by first | with_reducible assumption | rfl), by rfl⟩) (by omega) (Nat.le_of_ble_eq_true rfl) (C_firstClause (w := wdL M1 (M1 87) p) (by omega) ho hr hC (Or.inr rfl) hw) (fun x M2 N2 hx => ?_)
  obtain ⟨rfl, hE⟩ := hx
  have hfc := firC_cs B o (wdL M1 (M1 87) p) 1 (B o 6).toNat 0
  have hrf : -2147483648 ≤ firC B o (wdL M1 (M1 87) p) 1 (B o 6).toNat 0 ∧ firC B o (wdL M1 (M1 87) p) 1 (B o 6).toNat 0 < 2147483648 := by
    have := hC.1
    rcases hfc with h | ⟨q, h, q1, q2⟩ <;> omega
  refine st_istore_n (L' := [_, _, _, _, _, _, _]) dX6_stroll_11 (by decide) rfl rfl ?_
  refine st_iload_n dX6_stroll_12 rfl ?_
  refine st_iconst dX6_stroll_13 ?_
  refine st_icmp_ne (tgt := 21) dX6_stroll_14 (by omega) (by omega) rfl (fun c => ?_) (fun c => ?_)
  · skip
    rcases hfc with h | ⟨q, h, q1, q2⟩
    · exact absurd h c
    · rw [h]
      refine st_aload_n dX6_stroll_21 rfl ?_
      refine st_aload_n dX6_stroll_22 rfl ?_
      refine st_iload_n dX6_stroll_23 rfl ?_
      refine c_V2i (d' := d - 1) dX6_stroll_24 l_X6_64 k_X6_sumOf i_X6_sumOf (Or.inl ⟨_, _, _, _, _, (by first | with_reducible assumption | rfl), by rfl⟩) (by omega) (Nat.le_of_ble_eq_true rfl) (C_sumOf (w := wdL M1 (M1 87) p) (by omega) ho (hE.ru ho hr) hC (by omega) (fun j hj => by rw [hE.2.2 89 (by decide)]; exact hw j hj)) (fun x M3 N3 hx => ?_)
      obtain ⟨rfl, hE3⟩ := hx
      refine st_lstore (L' := [_, _, _, _, _, _, _]) dX6_stroll_27 (by decide) rfl rfl ?_
      refine tl _ _ _ _ ?_ ((hE.tr hE3).y hN)
      unfold wayL
      rw [if_neg c, h, Int.toNat_natCast]
  · refine st_lc0K dX6_stroll_17 ?_
    refine st_goto (tgt := 27) dX6_stroll_18 rfl ?_
    refine AW.topv (show _ = Value.long 0 from rfl) ?_
    refine st_lstore (L' := [_, _, _, _, _, _, _]) dX6_stroll_27 (by decide) rfl rfl ?_
    refine tl _ _ _ _ ?_ (hE.y hN)
    unfold wayL
    rw [if_pos c]


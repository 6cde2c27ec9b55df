/-! the system's beats by a rule: a beat -/
theorem NowOk.ex {M M1 : q_Mem} (h : NowOk M) (e : ∀ a, 3 ≤ a → a < 10 → M1 a = M a) : NowOk M1 := by
  unfold NowOk Hok at *
  simp only [show (3 + 1 : Nat) = 4 from rfl, show (3 + 2 : Nat) = 5 from rfl, show (3 + 3 : Nat) = 6 from rfl, show (3 + 4 : Nat) = 7 from rfl, show (3 + 5 : Nat) = 8 from rfl, show (3 + 6 : Nat) = 9 from rfl] at *
  rw [e 3 (by decide) (by decide), e 4 (by decide) (by decide), e 5 (by decide) (by decide), e 6 (by decide) (by decide), e 7 (by decide) (by decide), e 8 (by decide) (by decide), e 9 (by decide) (by decide)]
  exact h
theorem wdL_congr {H H1 : q_Mem} {v v1 : Nat → Int} {p : Nat} (h3 : H1 3 = H 3) (hp : p < (H 3 4).toNat) (hv : ∀ q, q < (H 3 4).toNat → v1 q = v q) : wdL H1 v1 p = wdL H v p := by
  funext j
  unfold wdL wdI
  rw [h3, hv p hp, hearP_congr (v := v1) (v' := v) hp (fun _ _ => rfl) (fun _ _ => rfl) hv]
theorem strF_congr {R H H1 : q_Mem} {v v1 : Nat → Int} {o p : Nat} (h3 : H1 3 = H 3) (hp : p < (H 3 4).toNat) (hv : ∀ q, q < (H 3 4).toNat → v1 q = v q) : strF R o H1 v1 p = strF R o H v p := by
  unfold strF
  rw [wdL_congr h3 hp hv, h3]
/-- where all are when so many have strolled -/
def stP (R : q_Mem) (o : Nat) (B : q_Mem) (v : Nat → Int) : Nat → Int
  | 0 => B 3 13
  | n + 1 => strF R o (q_up B 3 13 (stP R o B v n)) v n
theorem strF_rng {R H : q_Mem} {v : Nat → Int} {o p : Nat} (h : 0 ≤ H 3 13 ∧ H 3 13 < 1048576) (h1 : H 3 1 ≤ 4) (hp : p < 10) : 0 ≤ strF R o H v p ∧ strF R o H v p < 1048576 := by
  unfold strF
  split
  · exact w4_lt h hp (by omega)
  · exact h
theorem stP_rng {R B : q_Mem} {v : Nat → Int} {o : Nat} (hB : NowOk B) : ∀ n, n ≤ 7 → 0 ≤ stP R o B v n ∧ stP R o B v n < 1048576
  | 0, _ => hB.2.2.2.2.2.2.2.2.2.1
  | n + 1, hn => strF_rng (by have := stP_rng (R := R) (v := v) (o := o) hB n (by omega); simpa [q_up] using this) (by have := hB.2.1; simp [q_up]; omega) (by omega)
def clampL (x : Int64) : Int64 := if (if x < 30 then x else 30) < 0 then 0 else if x < 30 then x else 30
def clampI (x : Int64) : Int := (clampL x).toInt
theorem clampI_rng (x : Int64) : 0 ≤ clampI x ∧ clampI x ≤ 30 := by
  unfold clampI clampL
  have e0 : (0 : Int64).toInt = 0 := rfl
  have e30 : (30 : Int64).toInt = 30 := rfl
  by_cases c : x < 30
  · rw [if_pos c]
    have c' := Int64.lt_iff_toInt_lt.1 c
    by_cases c2 : x < 0
    · rw [if_pos c2]; omega
    · rw [if_neg c2]
      have : ¬ x.toInt < (0 : Int64).toInt := fun z => c2 (Int64.lt_iff_toInt_lt.2 z)
      omega
  · rw [if_neg c, if_neg (by decide)]
    omega
/-- what one sings by a rule -/
def sngF (R : q_Mem) (o : Nat) (w : Nat → Int64) (v : Int) : Int := if firC R o w 0 (R o 6).toNat 0 = -1 then v else clampI (sumV R o w (firC R o w 0 (R o 6).toNat 0).toNat)
/-- the home behind the strolls -/
def strM (R : q_Mem) (o : Nat) (B : q_Mem) : q_Mem := q_up B 3 13 (stP R o B (nowV B 0) (B 3 4).toNat)
def sngV (R : q_Mem) (o : Nat) (B : q_Mem) : Nat → Int := fun q => sngF R o (wdL (strM R o B) (nowV B 0) q) (nowV B 0 q)
/-- a beat by a rule -/
def ruM (R : q_Mem) (o : Nat) (B : q_Mem) : q_Mem := q_up (q_up (strM R o B) 3 12 (nxt (strM R o B) 3 (B 3 12) (sngV R o B))) 3 11 (B 3 11 + 1)
theorem sngV_rng {R B : q_Mem} {o : Nat} (hB : NowOk B) (q : Nat) : 0 ≤ sngV R o B q ∧ sngV R o B q ≤ 30 := by
  unfold sngV sngF
  split
  · exact nowV_rng hB _ _ q
  · exact clampI_rng _
theorem NowOk.str {R B : q_Mem} {o : Nat} (hB : NowOk B) : NowOk (strM R o B) := hB.f13 (stP_rng hB _ (by have := hB.2.2.2.2.1; omega))
theorem NowOk.ru {R B : q_Mem} {o : Nat} (hB : NowOk B) (h : B 3 11 + 1 ≤ 9999) : NowOk (ruM R o B) := (hB.str.f12 (nxt_rng hB.str.2.2.2.1)).f11 (by have := hB.2.2.2.2.2.2.2.1; omega)
theorem C_goOn {G : q_G} {d : Nat} {R M : q_Mem} {N : q_MemL} {o : Nat} (hd : 6 ≤ d) (ho : isRu o) (hr : ruRow R M o) (hC : RuC R o) (hM : NowOk M) : AC0 G d m_X6_goOn [.ref 86, .ref o] M N (CN (fun M' N' => Exc [86, 87, 88] (ruM R o M) M' ∧ (∀ j, ¬ j = 5 → M' 86 j = M 86 j) ∧ ∀ a, ¬ a = 89 → ¬ a = 90 → N' a = N a)) := by
  have hH : isHome 3 := Or.inl rfl
  have hrg := Hok.rg hM
  have hor : 47 ≤ o ∧ o ≤ 77 := by unfold isRu at ho; omega
  obtain ⟨h0, h1, h2, h3, h4, h5, h6, h11, h12, h13, -⟩ := id hM
  have hnv := nowV_rng hM (M 3 11) 0
  refine AC.of (L0 := [_, _, none, none, none]) pn_X6 (Nat.le_of_ble_eq_true rfl) rfl ?_
  refine st_aload_n dX6_goOn_0 rfl ?_
  refine st_getfr dX6_goOn_1 f_X6_29 (by first | with_reducible assumption | rfl) (by rfl) ?_
  refine st_aload_n dX6_goOn_4 rfl ?_
  refine st_getfr dX6_goOn_5 f_X6_29 (by first | with_reducible assumption | rfl) (by rfl) ?_
  refine st_getfi dX6_goOn_8 f_X6_33 (by first | with_reducible assumption | rfl) (by rfl) ?_
  refine st_iconst dX6_goOn_11 ?_
  refine st_aload_n dX6_goOn_12 rfl ?_
  refine st_getfr dX6_goOn_13 f_X6_9 (by first | with_reducible assumption | rfl) (by rfl) ?_
  refine c_V3v (d' := d - 1) dX6_goOn_16 l_X6_39 k_X2_tell i_X2_tell (Or.inl ⟨_, _, _, _, _, (by first | with_reducible assumption | rfl), by rfl⟩) (by omega) (Nat.le_of_ble_eq_true rfl) (C_tellV hH (by omega) hrg sh_87 (by decide) (by decide) (by omega) (by omega)) (fun M0 N0 hx0 => ?_)
  obtain ⟨rfl, hE0, hv0, -⟩ := hx0
  have e03 : M0 3 = M 3 := hE0 3 (by decide)
  refine st_iconst dX6_goOn_19 ?_
  refine st_istore_n (L' := [_, _, _, _, _]) dX6_goOn_20 (by decide) rfl rfl ?_
  -- the singing
  have two : ∀ (m q : Nat) (M1 : q_Mem) (N1 : q_MemL) (l3 l4 : Option Value), q + m = (M 3 4).toNat → Exc [86, 87, 88] (strM R o M) M1 → (∀ j, ¬ j = 5 → M1 86 j = M 86 j) → (∀ a, ¬ a = 89 → ¬ a = 90 → N1 a = N0 a) → (∀ j, j < (M 3 4).toNat → M1 87 j = nowV M 0 j) → (∀ j, j < q → M1 88 j = sngV R o M j) → AW0 G d m_X6_goOn 46 [some (.ref 86), some (.ref o), some (I q), l3, l4] [] M1 N1 (CN (fun M' N' => Exc [86, 87, 88] (ruM R o M) M' ∧ (∀ j, ¬ j = 5 → M' 86 j = M 86 j) ∧ ∀ a, ¬ a = 89 → ¬ a = 90 → N' a = N0 a)) := by
    intro m
    induction m with
    | zero =>
      intro q M1 N1 l3 l4 hq hE h86 hN hv hs
      have e3 : M1 3 = strM R o M 3 := hE 3 (by decide)
      have f : ∀ j, ¬ j = 13 → M1 3 j = M 3 j := fun j hj => by rw [e3]; unfold strM; simp [q_up, hj]
      have hM1 : NowOk M1 := hM.str.ex (fun a a1 a2 => hE a (by simp; omega))
      have hrg1 := Hok.rg hM1
      refine st_iload_n dX6_goOn_46 rfl ?_
      refine st_aload_n dX6_goOn_47 rfl ?_
      refine st_getfr dX6_goOn_48 f_X6_29 (by first | with_reducible assumption | rfl) (by rfl) ?_
      refine st_getfi dX6_goOn_51 f_X6_43 (by first | with_reducible assumption | rfl) (by rfl) ?_
      rw [f 4 (by decide)]
      refine st_icmp_ge (tgt := 120) dX6_goOn_54 (by omega) (by omega) rfl (fun c => ?_) (fun c => ?_)
      · refine st_aload_n dX6_goOn_120 rfl ?_
        refine st_getfr dX6_goOn_121 f_X6_29 (by first | with_reducible assumption | rfl) (by rfl) ?_
        refine st_aload_n dX6_goOn_124 rfl ?_
        refine st_getfr dX6_goOn_125 f_X6_15 (by first | with_reducible assumption | rfl) (by rfl) ?_
        refine c_V1v (d' := d - 1) dX6_goOn_128 l_X6_81 k_X2_move i_X2_move (Or.inl ⟨_, _, _, _, _, (by first | with_reducible assumption | rfl), by rfl⟩) (by omega) (Nat.le_of_ble_eq_true rfl) (C_move hH (by omega) hrg1 sh_88 (by decide) (by rw [f 12 (by decide)]; omega) (fun j hj => by rw [f 4 (by decide)] at hj; rw [hs j (by omega)]; exact sngV_rng hM j)) (fun M2 N2 hx => ?_)
        obtain ⟨rfl, z, hz, hg, rfl⟩ := hx
        have hz2 := nxt_eq (by rw [f 3 (by decide)]; exact h3) hz hg
        rw [nxt_congr (M' := strM R o M) (v' := sngV R o M) e3.symm (hE 4 (by decide)).symm (hE 6 (by decide)).symm (fun j hj => by rw [f 4 (by decide)] at hj; exact hs j (by omega)), f 12 (by decide)] at hz2
        refine r_v dX6_goOn_131 rfl ⟨fun a ha => ?_, fun j hj => ?_, hN⟩
        · rw [hz2, f 11 (by decide)]
          funext j
          have := congrFun (hE a ha) j
          unfold ruM q_up at *
          rw [this]
        · rw [q_up_ne (by decide), q_up_ne (by decide)]
          exact h86 j hj
      · skip
        omega
    | succ m ih =>
      intro q M1 N1 l3 l4 hq hE h86 hN hv hs
      have e3 : M1 3 = strM R o M 3 := hE 3 (by decide)
      have f : ∀ j, ¬ j = 13 → M1 3 j = M 3 j := fun j hj => by rw [e3]; unfold strM; simp [q_up, hj]
      have hM1 : NowOk M1 := hM.str.ex (fun a a1 a2 => hE a (by simp; omega))
      have hr1 : ruRow R M1 o := fun a a1 a2 => by
        rw [hE a (by simp; omega)]
        unfold strM
        rw [q_up_ne (by omega)]
        exact hr a a1 a2
      have hwd : wdL M1 (M1 87) q = wdL (strM R o M) (nowV M 0) q := wdL_congr e3 (by rw [← e3, f 4 (by decide)]; omega) (fun j hj => hv j (by rw [← e3, f 4 (by decide)] at hj; exact hj))
      have tl : ∀ (x : Int) (M2 : q_Mem) (N2 : q_MemL) (l3 l4 : Option Value), x = sngV R o M q → Exc [86] M1 M2 → (∀ j, ¬ j = 5 → M2 86 j = M 86 j) → (∀ a, ¬ a = 89 → ¬ a = 90 → N2 a = N0 a) → AW0 G d m_X6_goOn 111 [some (.ref 86), some (.ref o), some (I q), l3, l4] [I x, I q, .ref 88] M2 N2 (CN (fun M' N' => Exc [86, 87, 88] (ruM R o M) M' ∧ (∀ j, ¬ j = 5 → M' 86 j = M 86 j) ∧ ∀ a, ¬ a = 89 → ¬ a = 90 → N' a = N0 a)) := by
        intro x M2 N2 l3 l4 hx hE2 h862 hN2
        refine c_S3v (d' := d - 1) dX6_goOn_111 l_X6_77 k_X10_put s_X10_put (by omega) (Nat.le_of_ble_eq_true rfl) (C_putI sh_88 (by decide) (by omega)) (fun M3 N3 hx3 => ?_)
        obtain ⟨rfl, hN3⟩ := hx3
        rw [← hN3] at hN2
        rw [Int.toNat_natCast]
        refine st_iinc (L' := [_, _, _, _, _]) dX6_goOn_114 rfl (by decide) rfl rfl ?_
        refine st_goto (tgt := 46) dX6_goOn_117 rfl ?_
        refine AW.to (ih (q + 1) (q_up M2 88 q x) N3 l3 l4 (by omega) ((hE.tr (hE2.sub (by decide))).tr (Exc.up (by decide))) (fun j hj => by rw [q_up_ne (by decide)]; exact h862 j hj) hN2 (fun j hj => by rw [q_up_ne (by decide), hE2 87 (by decide)]; exact hv j hj) (fun j hj => ?_)) (h2 := by simp)
        by_cases c : j = q
        · rw [c, ← hx]; simp [q_up]
        · rw [← hs j (by omega), ← hE2 88 (by decide)]; simp [q_up, c]
      refine st_iload_n dX6_goOn_46 rfl ?_
      refine st_aload_n dX6_goOn_47 rfl ?_
      refine st_getfr dX6_goOn_48 f_X6_29 (by first | with_reducible assumption | rfl) (by rfl) ?_
      refine st_getfi dX6_goOn_51 f_X6_43 (by first | with_reducible assumption | rfl) (by rfl) ?_
      rw [f 4 (by decide)]
      refine st_icmp_ge (tgt := 120) dX6_goOn_54 (by omega) (by omega) rfl (fun c => ?_) (fun c => ?_)
      · skip
        omega
      · refine st_aload_n dX6_goOn_57 rfl ?_
        refine st_iload_n dX6_goOn_58 rfl ?_
        refine c_V1v (d' := d - 1) dX6_goOn_59 l_X6_50 k_X6_look i_X6_look (Or.inl ⟨_, _, _, _, _, (by first | with_reducible assumption | rfl), by rfl⟩) (by omega) (Nat.le_of_ble_eq_true rfl) (C_look (by omega) hM1 (by rw [f 4 (by decide)]; omega) (fun j hj => by rw [f 4 (by decide)] at hj; rw [hv j hj]; exact hnv j)) (fun M2 N2 hx => ?_)
        obtain ⟨rfl, hN2, hw⟩ := hx
        rw [hwd] at hw
        refine st_aload_n dX6_goOn_62 rfl ?_
        refine st_aload_n dX6_goOn_63 rfl ?_
        refine st_iconst dX6_goOn_64 ?_
        refine c_V2i (d' := d - 1) dX6_goOn_65 l_X6_54 k_X6_firstClause i_X6_firstClause (Or.inl ⟨_, _, _, _, _, (by first | with_reducible assumption | rfl), by rfl⟩) (by omega) (Nat.le_of_ble_eq_true rfl) (C_firstClause (w := wdL (strM R o M) (nowV M 0) q) (by omega) ho hr1 hC (Or.inl rfl) hw) (fun x M3 N3 hx => ?_)
        obtain ⟨rfl, hE3⟩ := hx
        have hY := hE3.y hN2
        have hfc := firC_cs R o (wdL (strM R o M) (nowV M 0) q) 0 (R o 6).toNat 0
        have hrf : -2147483648 ≤ firC R o (wdL (strM R o M) (nowV M 0) q) 0 (R o 6).toNat 0 ∧ firC R o (wdL (strM R o M) (nowV M 0) q) 0 (R o 6).toNat 0 < 2147483648 := by
          have := hC.1
          rcases hfc with h | ⟨q, h, q1, q2⟩ <;> omega
        have hsg : sngV R o M q = sngF R o (wdL (strM R o M) (nowV M 0) q) (nowV M 0 q) := rfl
        unfold sngF at hsg
        refine st_istore_n (L' := [_, _, _, _, _]) dX6_goOn_68 (by decide) rfl rfl ?_
        refine st_aload_n dX6_goOn_69 rfl ?_
        refine st_getfr dX6_goOn_70 f_X6_9 (by first | with_reducible assumption | rfl) (by rfl) ?_
        refine st_iload_n dX6_goOn_73 rfl ?_
        refine c_S2p (d' := d - 1) dX6_goOn_74 l_X6_58 k_X10_cell s_X10_cell (by omega) (Nat.le_of_ble_eq_true rfl) (C_cellI sh_87 (by decide) (by omega)) ?_
        rw [Int.toNat_natCast, hE3.1 87 (by decide), hv q (by omega)]
        have hvq := hnv q
        refine st_istore (L' := [_, _, _, _, _]) dX6_goOn_77 (by decide) rfl rfl ?_
        refine st_aload_n dX6_goOn_79 rfl ?_
        refine st_getfr dX6_goOn_80 f_X6_15 (by first | with_reducible assumption | rfl) (by rfl) ?_
        refine st_iload_n dX6_goOn_83 rfl ?_
        refine st_iload_n dX6_goOn_84 rfl ?_
        refine st_iconst dX6_goOn_85 ?_
        refine st_icmp_ne (tgt := 94) dX6_goOn_86 (by omega) (by omega) rfl (fun c2 => ?_) (fun c2 => ?_)
        · skip
          rcases hfc with h | ⟨q', h, q1, q2⟩
          · exact absurd h c2
          · rw [if_neg c2] at hsg
            rw [h] at hsg
            rw [Int.toNat_natCast] at hsg
            rw [h]
            refine st_lc0K dX6_goOn_94 ?_
            refine AW.topv (show _ = Value.long 0 from rfl) ?_
            refine st_ldc2 dX6_goOn_95 l_X6_62 ?_
            refine AW.topv (show _ = Value.long 30 from rfl) ?_
            refine st_aload_n dX6_goOn_98 rfl ?_
            refine st_aload_n dX6_goOn_99 rfl ?_
            refine st_iload_n dX6_goOn_100 rfl ?_
            refine c_V2i (d' := d - 1) dX6_goOn_101 l_X6_64 k_X6_sumOf i_X6_sumOf (Or.inl ⟨_, _, _, _, _, (by first | with_reducible assumption | rfl), by rfl⟩) (by omega) (Nat.le_of_ble_eq_true rfl) (C_sumOf (w := wdL (strM R o M) (nowV M 0) q) (by omega) ho (hE3.ru ho hr1) hC (by omega) (fun j hj => by rw [hE3.2.2 89 (by decide)]; exact hw j hj)) (fun x M4 N4 hx => ?_)
            obtain ⟨rfl, hE4⟩ := hx
            have hY4 := (hE3.tr hE4).y hN2
            refine st_mminl dX6_goOn_104 lm_X6_68 (by omega) (Nat.le_of_ble_eq_true rfl) rfl ?_
            refine st_mmaxl dX6_goOn_107 lm_X6_74 (by omega) (Nat.le_of_ble_eq_true rfl) rfl ?_
            refine AW.topv (show _ = J (clampI (sumV R o (wdL (strM R o M) (nowV M 0) q) q')) from ?_) ?_
            · rw [show clampI (sumV R o (wdL (strM R o M) (nowV M 0) q) q') = (clampL (sumV R o (wdL (strM R o M) (nowV M 0) q) q')).toInt from rfl]
              show _ = Value.long (Int64.ofInt _)
              rw [Int64.ofInt_toInt]
              rfl
            refine st_l2iJ dX6_goOn_110 ?_
            exact tl _ _ _ _ _ hsg.symm (hE3.1.tr hE4.1) (fun j hj => by rw [hE4.2.1 j hj, hE3.2.1 j hj]; exact h86 j hj) (fun a a1 a2 => (hY4.2.2 a a1 a2).trans (hN a a1 a2))
        · refine st_iload dX6_goOn_89 rfl ?_
          refine st_goto (tgt := 111) dX6_goOn_91 rfl ?_
          rw [if_pos c2] at hsg
          exact tl _ _ _ _ _ hsg.symm hE3.1 (fun j hj => by rw [hE3.2.1 j hj]; exact h86 j hj) (fun a a1 a2 => (hY.2.2 a a1 a2).trans (hN a a1 a2))
  -- the strolls
  have one : ∀ (m q : Nat) (M1 : q_Mem) (N1 : q_MemL), q + m = (M 3 4).toNat → EvY (q_up M0 3 13 (stP R o M (nowV M 0) q)) N0 M1 N1 → AW0 G d m_X6_goOn 21 [some (.ref 86), some (.ref o), some (I q), none, none] [] M1 N1 (CN (fun M' N' => Exc [86, 87, 88] (ruM R o M) M' ∧ (∀ j, ¬ j = 5 → M' 86 j = M 86 j) ∧ ∀ a, ¬ a = 89 → ¬ a = 90 → N' a = N0 a)) := by
    intro m
    induction m with
    | zero =>
      intro q M1 N1 hq hE
      have hqn : q = (M 3 4).toNat := by omega
      subst hqn
      have e3 : ∀ j, ¬ j = 13 → M1 3 j = M 3 j := fun j hj => by rw [hE.1 3 (by decide), ← e03]; simp [q_up, hj]
      refine st_iload_n dX6_goOn_21 rfl ?_
      refine st_aload_n dX6_goOn_22 rfl ?_
      refine st_getfr dX6_goOn_23 f_X6_29 (by first | with_reducible assumption | rfl) (by rfl) ?_
      refine st_getfi dX6_goOn_26 f_X6_43 (by first | with_reducible assumption | rfl) (by rfl) ?_
      rw [e3 4 (by decide)]
      refine st_icmp_ge (tgt := 44) dX6_goOn_29 (by omega) (by omega) rfl (fun c => ?_) (fun c => ?_)
      · refine st_iconst dX6_goOn_44 ?_
        refine st_istore_n (L' := [_, _, _, _, _]) dX6_goOn_45 (by decide) rfl rfl ?_
        refine AW.to (two (M 3 4).toNat 0 M1 N1 none none (by omega) (fun a ha => ?_) (fun j hj => ?_) (fun a a1 a2 => hE.2.2 a a1 a2) (fun j hj => ?_) (fun j hj => by omega)) (h2 := rfl)
        · rw [hE.1 a (by simp at ha; simp; omega)]
          funext j
          have := congrFun (hE0 a (by simp at ha; simp; omega)) j
          unfold strM q_up
          rw [this]
        · rw [hE.2.1 j hj, q_up_ne (by decide), hE0 86 (by decide)]
        · rw [hE.1 87 (by decide), q_up_ne (by decide)]
          exact hv0 j hj
      · skip
        omega
    | succ m ih =>
      intro q M1 N1 hq hE
      have e3f : M1 3 = q_up M 3 13 (stP R o M (nowV M 0) q) 3 := by
        rw [hE.1 3 (by decide)]
        funext j
        unfold q_up
        rw [e03]
      have e3 : ∀ j, ¬ j = 13 → M1 3 j = M 3 j := fun j hj => by rw [e3f]; simp [q_up, hj]
      have hB1 : NowOk (q_up M 3 13 (stP R o M (nowV M 0) q)) := hM.f13 (stP_rng hM q (by omega))
      have hM1 : NowOk M1 := hB1.ex (fun a a1 a2 => by
        by_cases c : a = 3
        · rw [c]; exact e3f
        · rw [hE.1 a (by simp; omega), q_up_ne c, q_up_ne c, hE0 a (by simp; omega)])
      have hr1 : ruRow R M1 o := fun a a1 a2 => by
        rw [hE.1 a (by simp; omega), q_up_ne (by omega), hE0 a (by simp; omega)]
        exact hr a a1 a2
      have e87 : ∀ j, j < (M 3 4).toNat → M1 87 j = nowV M 0 j := fun j hj => by
        rw [hE.1 87 (by decide), q_up_ne (by decide)]
        exact hv0 j hj
      have e4q : (q_up M 3 13 (stP R o M (nowV M 0) q) 3 4).toNat = (M 3 4).toNat := by simp [q_up]
      have hst : strF R o M1 (M1 87) q = stP R o M (nowV M 0) (q + 1) := strF_congr e3f (by rw [e4q]; omega) (fun j hj => by rw [e4q] at hj; exact e87 j hj)
      refine st_iload_n dX6_goOn_21 rfl ?_
      refine st_aload_n dX6_goOn_22 rfl ?_
      refine st_getfr dX6_goOn_23 f_X6_29 (by first | with_reducible assumption | rfl) (by rfl) ?_
      refine st_getfi dX6_goOn_26 f_X6_43 (by first | with_reducible assumption | rfl) (by rfl) ?_
      rw [e3 4 (by decide)]
      refine st_icmp_ge (tgt := 44) dX6_goOn_29 (by omega) (by omega) rfl (fun c => ?_) (fun c => ?_)
      · skip
        omega
      · refine st_aload_n dX6_goOn_32 rfl ?_
        refine st_aload_n dX6_goOn_33 rfl ?_
        refine st_iload_n dX6_goOn_34 rfl ?_
        refine c_V2v (d' := d - 1) dX6_goOn_35 l_X6_46 k_X6_stroll i_X6_stroll (Or.inl ⟨_, _, _, _, _, (by first | with_reducible assumption | rfl), by rfl⟩) (by omega) (Nat.le_of_ble_eq_true rfl) (C_stroll (B := R) (by omega) ho hr1 hC hM1 (by rw [e3 4 (by decide)]; omega) (fun j hj => by rw [e3 4 (by decide)] at hj; rw [e87 j hj]; exact hnv j)) (fun M2 N2 hx => ?_)
        rw [hst] at hx
        refine st_iinc (L' := [_, _, _, _, _]) dX6_goOn_38 rfl (by decide) rfl rfl ?_
        refine st_goto (tgt := 21) dX6_goOn_41 rfl ?_
        refine AW.to (ih (q + 1) M2 N2 (by omega) ?_) (h2 := by simp)
        have h1 := (hE.up (a := 3) (i := 13) (z := stP R o M (nowV M 0) (q + 1)) (by decide)).tr hx
        rw [show q_up (q_up M0 3 13 (stP R o M (nowV M 0) q)) 3 13 (stP R o M (nowV M 0) (q + 1)) = q_up M0 3 13 (stP R o M (nowV M 0) (q + 1)) by funext a j; simp [q_up]; split <;> rfl] at h1
        exact h1
  refine AW.to (one (M 3 4).toNat 0 M0 N0 (by omega) ?_) (h2 := rfl)
  rw [show stP R o M (nowV M 0) 0 = M0 3 13 by rw [e03]; rfl, q_up_id rfl]
  exact EvY.rf


/-! what can be undone, on both sides -/
def snapR (B V : q_Mem) (p : Nat) (b w pl : Int) (vo : Nat → Int) : Prop := V 145 p = b ∧ (∀ q, q < (B 3 4).toNat → V 145 (p + 1 + q) = g4 pl q) ∧ (∀ q, q < (B 3 4).toNat → V 145 (p + 8 + q) = g8 w q) ∧ (∀ t, t < (B 3 5).toNat → V 145 (p + 15 + t) = g4 pl (7 + t)) ∧ (∀ t, t < (B 3 5).toNat → V 145 (p + 18 + t) = g8 w (7 + t)) ∧ ∀ q h, q < (B 3 4).toNat → h < (B 3 2).toNat → V 145 (p + 21 + (6 * q + h)) = vo (q * 6 + h)
def PastOk (B : q_Mem) : Prop := ∀ k, k < (B 3 15).toNat → (0 ≤ B 8 (5 * k) ∧ B 8 (5 * k) ≤ 9999) ∧ ((0 ≤ B 8 (5 * k + 1) ∧ B 8 (5 * k + 1) < 1073741824) ∧ Zd (B 3 4).toNat (B 3 5).toNat (B 8 (5 * k + 1))) ∧ (0 ≤ B 8 (5 * k + 2) ∧ B 8 (5 * k + 2) < 1048576) ∧ (-1 ≤ B 8 (5 * k + 3) ∧ B 8 (5 * k + 3) < 42) ∧ 0 ≤ B 8 (5 * k + 4) ∧ B 8 (5 * k + 4) ≤ 30
def HisR (B V : q_Mem) : Prop := V 112 45 = B 3 15 ∧ ∃ vo : Nat → Nat → Int, (∀ j, j < 42 → vo (B 3 15).toNat j = B 7 j) ∧ (∀ k, k < (B 3 15).toNat → ∀ j : Nat, j < 42 → vo k j = if (j : Int) = B 8 (5 * k + 3) then B 8 (5 * k + 4) else vo (k + 1) j) ∧ ∀ k, k < (B 3 15).toNat → snapR B V (63 * k) (B 8 (5 * k)) (B 8 (5 * k + 1)) (B 8 (5 * k + 2)) (vo k)
/-- the system's home against the reference's state, all of it -/
def FullR (B V : q_Mem) : Prop := RN B V ∧ V 113 8 = B 3 18 ∧ Zd (B 3 4).toNat (B 3 5).toNat (B 3 12) ∧ (2 ≤ B 3 3 → 1 ≤ B 4 1) ∧ PastOk B ∧ HisR B V
theorem snapR.congr {B V V1 : q_Mem} {p p1 : Nat} {b w pl : Int} {vo : Nat → Int} (hB : NowOk B) (h : snapR B V p b w pl vo) (e : ∀ i, i < 63 → V1 145 (p1 + i) = V 145 (p + i)) : snapR B V1 p1 b w pl vo := by
  obtain ⟨a0, a1, a2, a3, a4, a5⟩ := h
  obtain ⟨h0, h1, h2, h3, h4, h5, -⟩ := hB
  refine ⟨by rw [← a0]; exact e 0 (by omega), fun q hq => ?_, fun q hq => ?_, fun t ht => ?_, fun t ht => ?_, fun q h hq hh => ?_⟩
  · rw [← a1 q hq, show p1 + 1 + q = p1 + (1 + q) by omega, show p + 1 + q = p + (1 + q) by omega]; exact e _ (by omega)
  · rw [← a2 q hq, show p1 + 8 + q = p1 + (8 + q) by omega, show p + 8 + q = p + (8 + q) by omega]; exact e _ (by omega)
  · rw [← a3 t ht, show p1 + 15 + t = p1 + (15 + t) by omega, show p + 15 + t = p + (15 + t) by omega]; exact e _ (by omega)
  · rw [← a4 t ht, show p1 + 18 + t = p1 + (18 + t) by omega, show p + 18 + t = p + (18 + t) by omega]; exact e _ (by omega)
  · rw [← a5 q h hq hh, show p1 + 21 + (6 * q + h) = p1 + (21 + (6 * q + h)) by omega, show p + 21 + (6 * q + h) = p + (21 + (6 * q + h)) by omega]; exact e _ (by omega)
theorem snapR.homes {B B1 V : q_Mem} {p : Nat} {b w pl : Int} {vo : Nat → Int} (h : snapR B V p b w pl vo) (e : B1 3 4 = B 3 4 ∧ B1 3 5 = B 3 5 ∧ B1 3 2 = B 3 2) : snapR B1 V p b w pl vo := by
  unfold snapR at *
  rw [e.1, e.2.1, e.2.2]
  exact h
/-- so many stay when one more is kept -/
def keN (B : q_Mem) : Nat := if B 3 15 = 20 then 19 else (B 3 15).toNat
def keS (B : q_Mem) : Nat := if B 3 15 = 20 then 1 else 0
theorem keN_S {B : q_Mem} (hB : NowOk B) : keN B + keS B = (B 3 15).toNat ∧ keN B < 20 := by
  obtain ⟨h0, h1, h2, h3, h4, h5, h6, h11, h12, h13, h15, -⟩ := hB
  unfold keN keS
  split <;> omega
theorem his_keep {B V B1 V1 : q_Mem} {vp : Int} (h : FullR B V) (hvp : -1 ≤ vp ∧ vp < 42) (e15 : B1 3 15 = (keN B : Int) + 1) (e8 : ∀ k, k < keN B → ∀ i, i < 5 → B1 8 (5 * k + i) = B 8 (5 * (k + keS B) + i)) (r0 : B1 8 (5 * keN B) = B 3 11) (r1 : B1 8 (5 * keN B + 1) = B 3 12) (r2 : B1 8 (5 * keN B + 2) = B 3 13) (r3 : B1 8 (5 * keN B + 3) = vp) (r4 : B1 8 (5 * keN B + 4) = if 0 ≤ vp then B 7 vp.toNat else 0)
    (hv : ∀ j : Nat, j < 42 → ¬ (j : Int) = vp → B1 7 j = B 7 j) (hs : B1 3 4 = B 3 4 ∧ B1 3 5 = B 3 5 ∧ B1 3 2 = B 3 2) (v45 : V1 112 45 = (keN B : Int) + 1) (v145 : ∀ k, k < keN B → ∀ i, i < 63 → V1 145 (63 * k + i) = V 145 (63 * (k + keS B) + i)) (vn : ∀ i, i < 63 → V1 145 (63 * keN B + i) = linA V i) : HisR B1 V1 ∧ PastOk B1 := by
  obtain ⟨hN, h8, hz, hri, hpo, h45, vo, vo1, vo2, vo3⟩ := h
  have hB := hN.1
  have hks := keN_S hB
  obtain ⟨h0, h1, h2, h3, h4, h5, h6, h11, h12, h13, h15, h17, h18, hbg, hc, hw, hvv, -⟩ := id hB
  obtain ⟨hT, hP, hW, hb6⟩ := id hN.2
  have hvv7 : ∀ k, 0 ≤ B 7 k ∧ B 7 k ≤ 30 := hvv
  have e15n : (B1 3 15).toNat = keN B + 1 := by rw [e15]; omega
  refine ⟨⟨by rw [v45, e15], fun k j => if k = keN B + 1 then B1 7 j else vo (k + keS B) j, fun j hj => ?_, fun k hk j hj => ?_, fun k hk => ?_⟩, fun k hk => ?_⟩
  · show (if (B1 3 15).toNat = keN B + 1 then B1 7 j else vo ((B1 3 15).toNat + keS B) j) = _
    rw [if_pos e15n]
  · rw [e15n] at hk
    show (if k = keN B + 1 then B1 7 j else vo (k + keS B) j) = if (j : Int) = B1 8 (5 * k + 3) then B1 8 (5 * k + 4) else (if k + 1 = keN B + 1 then B1 7 j else vo (k + 1 + keS B) j)
    rw [if_neg (by omega)]
    by_cases e : k = keN B
    · rw [e, if_pos rfl, r3, r4, hks.1, vo1 j hj]
      by_cases e2 : (j : Int) = vp
      · rw [if_pos e2, if_pos (by omega), show vp.toNat = j by omega]
      · rw [if_neg e2, hv j hj e2]
    · rw [if_neg (show ¬ k + 1 = keN B + 1 by omega), e8 k (by omega) 3 (by omega), e8 k (by omega) 4 (by omega), vo2 (k + keS B) (by omega) j hj, show k + keS B + 1 = k + 1 + keS B by omega]
  · rw [e15n] at hk
    show snapR B1 V1 (63 * k) (B1 8 (5 * k)) (B1 8 (5 * k + 1)) (B1 8 (5 * k + 2)) (fun j => if k = keN B + 1 then B1 7 j else vo (k + keS B) j)
    have ef : (fun j => if k = keN B + 1 then B1 7 j else vo (k + keS B) j) = vo (k + keS B) := by funext j; rw [if_neg (by omega)]
    rw [ef]
    refine snapR.homes (B := B) ?_ hs
    by_cases e : k = keN B
    · rw [e, r0, r1, r2, hks.1]
      have l : ∀ i, i < 63 → V1 145 (63 * keN B + i) = linA V i := vn
      refine ⟨?_, fun q hq => ?_, fun q hq => ?_, fun t ht => ?_, fun t ht => ?_, fun q h hq hh => ?_⟩
      · have := l 0 (by omega)
        rw [Nat.add_zero] at this
        rw [this]
        exact hb6
      · rw [show 63 * keN B + 1 + q = 63 * keN B + (1 + q) by omega, l _ (by omega), ← hP.1 q hq]
        unfold linA
        rw [if_neg (by omega), if_pos (by omega), show 1 + q - 1 = q by omega]
      · rw [show 63 * keN B + 8 + q = 63 * keN B + (8 + q) by omega, l _ (by omega), ← hW.1 q hq]
        unfold linA
        rw [if_neg (by omega), if_neg (by omega), if_pos (by omega), show 8 + q - 8 = q by omega]
      · rw [show 63 * keN B + 15 + t = 63 * keN B + (15 + t) by omega, l _ (by omega), ← hP.2 t ht]
        unfold linA
        rw [if_neg (by omega), if_neg (by omega), if_neg (by omega), if_pos (by omega), show 15 + t - 15 = t by omega]
      · rw [show 63 * keN B + 18 + t = 63 * keN B + (18 + t) by omega, l _ (by omega), ← hW.2 t ht]
        unfold linA
        rw [if_neg (by omega), if_neg (by omega), if_neg (by omega), if_neg (by omega), if_pos (by omega), show 18 + t - 18 = t by omega]
      · rw [show 63 * keN B + 21 + (6 * q + h) = 63 * keN B + (21 + (6 * q + h)) by omega, l _ (by omega), vo1 _ (by omega), ← (hT.2.2.1 q hq).1 h hh]
        unfold linA
        rw [if_neg (by omega), if_neg (by omega), if_neg (by omega), if_neg (by omega), if_neg (by omega), show 21 + (6 * q + h) - 21 = 6 * q + h by omega]
    · have := vo3 (k + keS B) (by omega)
      have a0 := e8 k (by omega) 0 (by omega)
      rw [Nat.add_zero, Nat.add_zero] at a0
      rw [a0, e8 k (by omega) 1 (by omega), e8 k (by omega) 2 (by omega)]
      exact this.congr hB (fun i hi => v145 k (by omega) i hi)
  · rw [e15n] at hk
    rw [hs.1, hs.2.1]
    by_cases e : k = keN B
    · rw [e, r0, r1, r2, r3, r4]
      refine ⟨h11, ⟨h12, hz⟩, h13, hvp, ?_⟩
      have := hvv7 vp.toNat
      split <;> omega
    · have a0 := e8 k (by omega) 0 (by omega)
      rw [Nat.add_zero, Nat.add_zero] at a0
      rw [a0, e8 k (by omega) 1 (by omega), e8 k (by omega) 2 (by omega), e8 k (by omega) 3 (by omega), e8 k (by omega) 4 (by omega)]
      exact hpo (k + keS B) (by omega)
/-- the system's keeping, by its rows -/
theorem keepM_his {B : q_Mem} {vp : Int} (hB : NowOk B) (hvp : -1 ≤ vp ∧ vp < 42) : keepM B vp 3 15 = (keN B : Int) + 1 ∧ (∀ k, k < keN B → ∀ i, i < 5 → keepM B vp 8 (5 * k + i) = B 8 (5 * (k + keS B) + i)) ∧ keepM B vp 8 (5 * keN B) = B 3 11 ∧ keepM B vp 8 (5 * keN B + 1) = B 3 12 ∧ keepM B vp 8 (5 * keN B + 2) = B 3 13 ∧ keepM B vp 8 (5 * keN B + 3) = vp ∧ keepM B vp 8 (5 * keN B + 4) = if 0 ≤ vp then B 7 vp.toNat else 0 := by
  have hks := keN_S hB
  obtain ⟨h0, h1, h2, h3, h4, h5, h6, h11, h12, h13, h15, -⟩ := id hB
  have a15 : remA B 3 3 15 = (keN B : Int) := by
    unfold remA keN
    by_cases c : B 3 15 = 20
    · rw [if_pos (by omega), if_pos c]; simp [q_up]
    · rw [if_neg (by omega), if_neg c]; omega
  have a8 : ∀ j, j < 5 * keN B → remA B 3 8 j = B 8 (j + 5 * keS B) := by
    intro j hj
    unfold remA keS
    by_cases c : B 3 15 = 20
    · rw [if_pos (by omega), if_pos c]
      have : j < 95 := by unfold keN at hj; rw [if_pos c] at hj; omega
      simp [q_up, q_cp, this, Nat.add_comm]
    · rw [if_neg (by omega), if_neg c]
      rfl
  have af : ∀ j, ¬ j = 15 → remA B 3 3 j = B 3 j := fun j hj => remA_f hj
  have a7 : remA B 3 7 = B 7 := remA_row (by decide) (by decide)
  have t0 : ((keN B : Int) * 5).toNat = 5 * keN B := by omega
  have t1 : ((keN B : Int) * 5 + 1).toNat = 5 * keN B + 1 := by omega
  have t2 : ((keN B : Int) * 5 + 2).toNat = 5 * keN B + 2 := by omega
  have t3 : ((keN B : Int) * 5 + 3).toNat = 5 * keN B + 3 := by omega
  have t4 : ((keN B : Int) * 5 + 4).toNat = 5 * keN B + 4 := by omega
  unfold keepM remB
  rw [a15, t0, t1, t2, t3, t4, af 11 (by decide), af 12 (by decide), af 13 (by decide), show (3 + 5 : Nat) = 8 from rfl, show (3 + 4 : Nat) = 7 from rfl, a7]
  refine ⟨by simp [q_up], fun k hk i hi => ?_, by simp [q_up], by simp [q_up], by simp [q_up], by simp [q_up], ?_⟩
  · have n0 : ¬ 5 * k + i = 5 * keN B := by omega
    have n1 : ¬ 5 * k + i = 5 * keN B + 1 := by omega
    have n2 : ¬ 5 * k + i = 5 * keN B + 2 := by omega
    have n3 : ¬ 5 * k + i = 5 * keN B + 3 := by omega
    have n4 : ¬ 5 * k + i = 5 * keN B + 4 := by omega
    rw [show 5 * (k + keS B) + i = 5 * k + i + 5 * keS B by omega, ← a8 (5 * k + i) (by omega)]
    simp [q_up, n0, n1, n2, n3, n4]
  · by_cases c : 0 ≤ vp
    · rw [if_pos ⟨c, by omega⟩, if_pos c]; simp [q_up]
    · rw [if_neg (fun z => c z.1), if_neg c]; simp [q_up]
/-- what keeping an act does to the reference's rows -/
def KaP (M M1 : q_Mem) (n s : Nat) : Prop := Exc [112, 145] M M1 ∧ (∀ j, ¬ j = 45 → ¬ j = 46 → ¬ j = 47 → M1 112 j = M 112 j) ∧ M1 112 45 = (n : Int) + 1 ∧ (∀ k, k < n → ∀ i, i < 63 → M1 145 (63 * k + i) = M 145 (63 * (k + s) + i)) ∧ ∀ i, i < 63 → M1 145 (63 * n + i) = linA M i
theorem C_keepsAct {G : q_G} {d : Nat} {B M : q_Mem} {N : q_MemL} (hd : 3 ≤ d) (hB : NowOk B) (h45 : M 112 45 = B 3 15) : AC0 G d m_X11_keepsAct [.ref 112] M N (CN (fun M' N' => N' = N ∧ KaP M M' (keN B) (keS B))) := by
  have hks := keN_S hB
  obtain ⟨h0, h1, h2, h3, h4, h5, h6, h11, h12, h13, h15, -⟩ := id hB
  -- behind the shift
  have tl : ∀ (M1 : q_Mem) (l1 : Option Value), Exc [112, 145] M M1 → (∀ j, ¬ j = 45 → M1 112 j = M 112 j) → M1 112 45 = (keN B : Nat) → (∀ k, k < keN B → ∀ i, i < 63 → M1 145 (63 * k + i) = M 145 (63 * (k + keS B) + i)) → AW0 G d m_X11_keepsAct 50 [some (.ref 112), l1] [] M1 N (CN (fun M' N' => N' = N ∧ KaP M M' (keN B) (keS B))) := by
    intro M1 l1 hE hj e45 h145
    refine st_aload_n dX11_keepsAct_50 rfl ?_
    refine st_aload_n dX11_keepsAct_51 rfl ?_
    refine st_getfi dX11_keepsAct_52 f_X11_357 (by first | with_reducible assumption | rfl) (by rfl) ?_
    rw [e45]
    refine st_iconst dX11_keepsAct_55 ?_
    refine c_V2v (d' := d - 1) dX11_keepsAct_56 l_X11_446 k_X11_movesAll i_X11_movesAll (Or.inl ⟨_, _, _, _, _, (by first | with_reducible assumption | rfl), by rfl⟩) (by omega) (Nat.le_of_ble_eq_true rfl) (C_movesAllF (k := keN B) (by omega) (by omega)) (fun M2 N2 hx => ?_)
    obtain ⟨rfl, a1, a2, a3, a4, a5⟩ := hx
    refine st_aload_n dX11_keepsAct_59 rfl ?_
    refine st_dup dX11_keepsAct_60 rfl ?_
    refine st_getfi dX11_keepsAct_61 f_X11_357 (by first | with_reducible assumption | rfl) (by rfl) ?_
    rw [a2 45 (by decide) (by decide), e45]
    refine st_iconst dX11_keepsAct_64 ?_
    refine st_iadd dX11_keepsAct_65 ?_
    refine st_putfi dX11_keepsAct_66 w_X11_357 (by first | with_reducible assumption | rfl) (by rfl) rfl rfl ?_
    have hlin : ∀ i, linA M1 i = linA M i := fun i => by
      unfold linA
      rw [hE 113 (by decide), hE 115 (by decide), hE 116 (by decide), hE 119 (by decide), hE 120 (by decide), hE 117 (by decide)]
    refine r_v dX11_keepsAct_69 rfl ⟨rfl, (hE.tr a1).tr (Exc.up (by decide)), fun j j1 j2 j3 => ?_, by simp [q_up], fun k hk i hi => ?_, fun i hi => ?_⟩
    · rw [show q_up M2 112 45 ((keN B : Nat) + 1) 112 j = M2 112 j by simp [q_up, j1], a2 j j2 j3]
      exact hj j j1
    · rw [q_up_ne (by decide), a5, if_neg (by omega)]
      exact h145 k hk i hi
    · rw [q_up_ne (by decide), a5, if_pos (by omega), show 63 * keN B + i - 63 * keN B = i by omega, hlin]
  refine AC.of (L0 := [_, none]) pn_X11 (Nat.le_of_ble_eq_true rfl) rfl ?_
  refine st_aload_n dX11_keepsAct_0 rfl ?_
  refine st_getfi dX11_keepsAct_1 f_X11_357 (by first | with_reducible assumption | rfl) (by rfl) ?_
  refine st_bipush dX11_keepsAct_4 (by decide) ?_
  rw [h45]
  refine st_icmp_ne (tgt := 50) dX11_keepsAct_6 (by omega) (by omega) rfl (fun h => ?_) (fun h => ?_)
  · skip
    have e1 : keN B = (B 3 15).toNat := by unfold keN; rw [if_neg h]
    have e2 : keS B = 0 := by unfold keS; rw [if_neg h]
    exact tl M none Exc.rf (fun _ _ => rfl) (by rw [h45, e1]; omega) (fun k _ i _ => by rw [e2, Nat.add_zero])
  · refine st_bipush dX11_keepsAct_9 (by decide) ?_
    refine st_istore_n (L' := [_, _]) dX11_keepsAct_11 (by decide) rfl rfl ?_
    have e1 : keN B = 19 := by unfold keN; rw [if_pos h]
    have e2 : keS B = 1 := by unfold keS; rw [if_pos h]
    have loop : ∀ (q k : Nat) (M1 : q_Mem), k + q = 1197 → Exc [145] M M1 → (∀ j, M1 145 j = if j < k then M 145 (j + 63) else M 145 j) → AW0 G d m_X11_keepsAct 12 [some (.ref 112), some (I (k + 63 : Nat))] [] M1 N (CN (fun M' N' => N' = N ∧ KaP M M' (keN B) (keS B))) := by
      intro q
      induction q with
      | zero =>
        intro k M1 hk hE hc
        refine st_iload_n dX11_keepsAct_12 rfl ?_
        refine st_sipush dX11_keepsAct_13 (by decide) ?_
        refine st_icmp_ge (tgt := 40) dX11_keepsAct_16 (by omega) (by omega) rfl (fun h9 => ?_) (fun h9 => ?_)
        · refine st_aload_n dX11_keepsAct_40 rfl ?_
          refine st_dup dX11_keepsAct_41 rfl ?_
          refine st_getfi dX11_keepsAct_42 f_X11_357 (by first | with_reducible assumption | rfl) (by rfl) ?_
          rw [hE 112 (by decide), h45]
          refine st_iconst dX11_keepsAct_45 ?_
          refine st_isub dX11_keepsAct_46 ?_
          refine st_putfi dX11_keepsAct_47 w_X11_357 (by first | with_reducible assumption | rfl) (by rfl) rfl rfl ?_
          refine tl _ _ ((hE.sub (by decide)).tr (Exc.up (by decide))) (fun j hj => by rw [← hE 112 (by decide)]; simp [q_up, hj]) (by rw [e1, h]; simp [q_up]) (fun k2 hk2 i hi => ?_)
          rw [q_up_ne (by decide), hc, if_pos (by omega), e2, show 63 * (k2 + 1) + i = 63 * k2 + i + 63 by omega]
        · skip
          omega
      | succ q ih =>
        intro k M1 hk hE hc
        refine st_iload_n dX11_keepsAct_12 rfl ?_
        refine st_sipush dX11_keepsAct_13 (by decide) ?_
        refine st_icmp_ge (tgt := 40) dX11_keepsAct_16 (by omega) (by omega) rfl (fun h9 => ?_) (fun h9 => ?_)
        · skip
          omega
        · refine st_aload_n dX11_keepsAct_19 rfl ?_
          refine st_getfr dX11_keepsAct_20 f_X11_113 (by first | with_reducible assumption | rfl) (by rfl) ?_
          refine st_iload_n dX11_keepsAct_23 rfl ?_
          refine st_bipush dX11_keepsAct_24 (by decide) ?_
          refine st_isub dX11_keepsAct_26 ?_
          rw [show ((k + 63 : Nat) : Int) - 63 = (k : Int) by omega]
          refine st_aload_n dX11_keepsAct_27 rfl ?_
          refine st_getfr dX11_keepsAct_28 f_X11_113 (by first | with_reducible assumption | rfl) (by rfl) ?_
          refine st_iload_n dX11_keepsAct_31 rfl ?_
          refine st_ialdK (k' := k + 63) dX11_keepsAct_32 (by first | with_reducible assumption | rfl) rfl (by omega) (hn := by decide) ?_
          refine st_iastK (k' := k) dX11_keepsAct_33 (by first | with_reducible assumption | rfl) rfl (by omega) (hn := by decide) ?_
          refine st_iinc (L' := [_, _]) dX11_keepsAct_34 rfl (by decide) rfl rfl ?_
          refine st_goto (tgt := 12) dX11_keepsAct_37 rfl ?_
          refine AW.to (ih (k + 1) (q_up M1 145 k (M1 145 (k + 63))) (by omega) (hE.tr (Exc.up (by decide))) (fun j => ?_)) (h2 := by rw [show ((k + 63 : Nat) : Int) + 1 = ((k + 1 + 63 : Nat) : Int) by omega])
          by_cases e : j = k
          · rw [if_pos (by omega), e, show q_up M1 145 k (M1 145 (k + 63)) 145 k = M1 145 (k + 63) by simp [q_up], hc, if_neg (by omega)]
          · rw [show q_up M1 145 k (M1 145 (k + 63)) 145 j = M1 145 j by simp [q_up, e], hc]
            by_cases c : j < k
            · rw [if_pos c, if_pos (by omega)]
            · rw [if_neg c, if_neg (by omega)]
    exact AW.to (loop 1197 0 M (Nat.zero_add _) Exc.rf (fun j => by rw [if_neg (by omega)]))


/-! the reference: beats that are asked -/
abbrev simX : List Nat := [113, 116, 120, 143, 144]
/-- k beats on from now, as told -/
def RF (B M : q_Mem) (k : Nat) : Prop := RS B M (fut B 3 k) (B 3 11 + k)
theorem RF.st {B M : q_Mem} (h : RN B M) : RF B M 0 := by
  refine ⟨h.2.1, h.2.2.1, h.2.2.2.1, ?_⟩
  rw [h.2.2.2.2]
  omega
theorem C_simNow {G : q_G} {d : Nat} {B M : q_Mem} {N : q_MemL} {k : Nat} (hd : 1 ≤ d) (hB : NowOk B) (hS : RF B M k) (hk : k < 1000000) (htl : B 3 0 = 1) : AC0 G d m_X11_laysNow [.ref 112] M N (CN (fun M' N' => N' = N ∧ Exc [143] M M' ∧ (∀ q, q < (B 3 4).toNat → M' 143 q = toldV B 3 (B 3 11 + k) 0 q) ∧ RF B M' k)) := by
  obtain ⟨h0, h1, h2, h3, h4, h5, h6, h11, -⟩ := id hB
  refine AC.mono ?_ (C_laysNow hd hB hS.1 hS.2.2.2 (by omega) htl)
  rintro v S' M' N' ⟨q0, rfl, q1, hE, hv, -⟩
  exact ⟨q0, rfl, q1, hE, hv, hS.exc hE (by decide)⟩
theorem C_simBeat {G : q_G} {d : Nat} {B M : q_Mem} {N : q_MemL} {k : Nat} (hd : 2 ≤ d) (hB : NowOk B) (hS : RF B M k) (hv : ∀ q, q < (B 3 4).toNat → M 143 q = toldV B 3 (B 3 11 + k) 0 q) : AC0 G d m_X11_beats [.ref 112] M N (CN (fun M' N' => N' = N ∧ Exc reX M M' ∧ (∀ j, ¬ j = 6 → M' 113 j = M 113 j) ∧ RF B M' (k + 1))) := by
  refine AC.mono ?_ (C_rBeats hd hB hS (fun q hq => by rw [hv q hq]; exact nowV_rng hB _ _ q))
  rintro v S' M' N' ⟨q0, rfl, q1, hE, hj, -, -, hR⟩
  rw [nxt_congr (v' := toldV B 3 (B 3 11 + k) 0) rfl rfl rfl hv] at hR
  refine ⟨q0, rfl, q1, hE, hj, hR.1, hR.2.1, hR.2.2.1, ?_⟩
  rw [hR.2.2.2]
  omega
theorem C_rahead {G : q_G} {d : Nat} {B M : q_Mem} {N : q_MemL} {p n : Int} (hd : 3 ≤ d) (hN : RN B M) (hp : i32 p) (hn : i32 n) : AC0 G d m_X11_ahead [.ref 112, I p, I n] M N (CV (fun v M' N' => v = I (A_ahead B p n) ∧ N' = N ∧ Qk M M')) := by
  obtain ⟨hB, hT, hP, hW, hb6⟩ := id hN
  obtain ⟨h0, h1, h2, h3, h4, h5, -⟩ := id hB
  have hnn := hn
  unfold i32 at hnn
  have no : ¬ ((0 ≤ p ∧ p < B 3 4) ∧ 0 ≤ n ∧ n ≤ 200) → AW0 G d m_X11_ahead 20 [some (.ref 112), some (I p), some (I n), none] [] M N (CV (fun v M' N' => v = I (A_ahead B p n) ∧ N' = N ∧ Qk M M')) := by
    intro h
    refine st_iconst dX11_ahead_20 ?_
    exact r_i dX11_ahead_21 rfl ⟨by rw [A_ahead, if_neg h], rfl, Qk.rf⟩
  refine AC.of (L0 := [_, _, _, none]) pn_X11 (Nat.le_of_ble_eq_true rfl) rfl ?_
  refine st_aload_n dX11_ahead_0 rfl ?_
  refine st_iload_n dX11_ahead_1 rfl ?_
  refine c_V1p (d' := d - 1) dX11_ahead_2 l_X11_408 k_X11_isPerson i_X11_isPerson (Or.inl ⟨_, _, _, _, _, (by first | with_reducible assumption | rfl), by rfl⟩) (by omega) (Nat.le_of_ble_eq_true rfl) (C_isPerson (by omega) hB hT hp) ?_
  refine b_eq (tgt := 20) dX11_ahead_5 rfl (fun h7 => ?_) (fun h7 => ?_)
  · skip
    exact no (fun z => h7 z.1)
  · refine st_iload_n dX11_ahead_8 rfl ?_
    refine st_i2lK dX11_ahead_9 (by omega) ?_
    refine st_lc0K dX11_ahead_10 ?_
    refine st_ldc2 dX11_ahead_11 l_X11_483 ?_
    refine AW.topv (show _ = J 200 from rfl) ?_
    refine c_S3p (d' := d - 1) dX11_ahead_14 l_X11_182 k_X11_in s_X11_in (by omega) (Nat.le_of_ble_eq_true rfl) (C_in (by omega) (by omega) (by omega)) ?_
    refine b_ne (tgt := 22) dX11_ahead_17 rfl (fun h8 => ?_) (fun h8 => ?_)
    · refine st_aload_n dX11_ahead_22 rfl ?_
      have e : A_ahead B p n = g8 (fut B 3 n.toNat) p.toNat := if_pos ⟨h7, h8⟩
      obtain ⟨q, rfl⟩ : ∃ q : Nat, p = q := ⟨p.toNat, by omega⟩
      obtain ⟨n, rfl⟩ : ∃ m : Nat, n = m := ⟨n.toNat, by omega⟩
      rw [Int.toNat_natCast, Int.toNat_natCast] at e
      have htold := told_of hB (Or.inl (by omega))
      rw [e]
      refine c_V0v (d' := d - 1) dX11_ahead_23 l_X11_485 k_X11_keepsAll i_X11_keepsAll (Or.inl ⟨_, _, _, _, _, (by first | with_reducible assumption | rfl), by rfl⟩) (by omega) (Nat.le_of_ble_eq_true rfl) (C_keepsAll (by omega)) (fun M1 N1 hx => ?_)
      obtain ⟨rfl, hF⟩ := hx
      have hN1 := hN.exc hF.1 (by decide)
      refine st_iconst dX11_ahead_26 ?_
      refine st_istore_n (L' := [_, _, _, _]) dX11_ahead_27 (by decide) rfl rfl ?_
      have loop : ∀ (m k : Nat) (M2 : q_Mem), k + m = n → Exc simX M1 M2 → RF B M2 k → AW0 G d m_X11_ahead 28 [some (.ref 112), some (I q), some (I n), some (I k)] [] M2 N1 (CV (fun v M' N' => v = I (g8 (fut B 3 n) q) ∧ N' = N1 ∧ Qk M M')) := by
        intro m
        induction m with
        | zero =>
          intro k M2 hk hE hS
          have hkn : k = n := by omega
          subst hkn
          refine st_iload_n dX11_ahead_28 rfl ?_
          refine st_iload_n dX11_ahead_29 rfl ?_
          refine st_icmp_ge (tgt := 47) dX11_ahead_30 (by omega) (by omega) rfl (fun h => ?_) (fun h => ?_)
          · refine st_aload_n dX11_ahead_47 rfl ?_
            refine st_getfr dX11_ahead_48 f_X11_19 (by first | with_reducible assumption | rfl) (by rfl) ?_
            refine st_iload_n dX11_ahead_51 rfl ?_
            first | refine st_ialdK (k' := _) dX11_ahead_52 (by first | with_reducible assumption | rfl) rfl (by omega) (hn := by first | decide | omega) ?_ | refine st_iald dX11_ahead_52 (by first | with_reducible assumption | rfl) (by omega) (by omega) (hn := by first | decide | omega) ?_
            rw [hS.2.2.1.1 q (by omega)]
            refine st_istore_n (L' := [_, _, _, _]) dX11_ahead_53 (by decide) rfl rfl ?_
            refine st_aload_n dX11_ahead_54 rfl ?_
            refine c_V0v (d' := d - 1) dX11_ahead_55 l_X11_488 k_X11_laysBack i_X11_laysBack (Or.inl ⟨_, _, _, _, _, (by first | with_reducible assumption | rfl), by rfl⟩) (by omega) (Nat.le_of_ble_eq_true rfl) (C_laysBack (by omega)) (fun M3 N3 hx => ?_)
            obtain ⟨rfl, hb⟩ := hx
            refine st_iload_n dX11_ahead_58 rfl ?_
            exact r_i dX11_ahead_59 rfl ⟨rfl, rfl, hF.back hE hb (by decide) (by decide) (fun j _ => by rw [hE 112 (by decide)])⟩
          · skip
            omega
        | succ m ih =>
          intro k M2 hk hE hS
          refine st_iload_n dX11_ahead_28 rfl ?_
          refine st_iload_n dX11_ahead_29 rfl ?_
          refine st_icmp_ge (tgt := 47) dX11_ahead_30 (by omega) (by omega) rfl (fun h => ?_) (fun h => ?_)
          · skip
            omega
          · refine st_aload_n dX11_ahead_33 rfl ?_
            refine c_V0v (d' := d - 1) dX11_ahead_34 l_X11_412 k_X11_laysNow i_X11_laysNow (Or.inl ⟨_, _, _, _, _, (by first | with_reducible assumption | rfl), by rfl⟩) (by omega) (Nat.le_of_ble_eq_true rfl) (C_simNow (by omega) hB hS (by omega) htold) (fun M3 N3 hx => ?_)
            obtain ⟨rfl, hE3, hv3, hS3⟩ := hx
            refine st_aload_n dX11_ahead_37 rfl ?_
            refine c_V0v (d' := d - 1) dX11_ahead_38 l_X11_453 k_X11_beats i_X11_beats (Or.inl ⟨_, _, _, _, _, (by first | with_reducible assumption | rfl), by rfl⟩) (by omega) (Nat.le_of_ble_eq_true rfl) (C_simBeat (by omega) hB hS3 hv3) (fun M4 N4 hx => ?_)
            obtain ⟨rfl, hE4, hj4, hS4⟩ := hx
            refine st_iinc (L' := [_, _, _, _]) dX11_ahead_41 rfl (by decide) rfl rfl ?_
            refine st_goto (tgt := 28) dX11_ahead_44 rfl ?_
            exact AW.to (ih (k + 1) M4 (by omega) ((hE.tr (hE3.sub (by decide))).tr (hE4.sub (by decide))) hS4) (h2 := by simp)
      exact loop n 0 M1 (by omega) Exc.rf (RF.st hN1)
    · skip
      exact no (fun z => h8 z.2)
/-! the loop -/
def kP (h : Int) (g : Nat → Int) : Nat → Int
  | 0 => h
  | n + 1 => 8 * kP h g n + g n
theorem kP_inj {h h' : Int} {g g' : Nat → Int} (rg : ∀ i, 0 ≤ g i ∧ g i < 8) (rg' : ∀ i, 0 ≤ g' i ∧ g' i < 8) : ∀ n, kP h g n = kP h' g' n ↔ h = h' ∧ ∀ i, i < n → g i = g' i
  | 0 => ⟨fun e => ⟨e, fun i hi => absurd hi (by omega)⟩, fun e => e.1⟩
  | n + 1 => by
    have ih := kP_inj rg rg' (h := h) (h' := h') n
    have r1 := rg n
    have r2 := rg' n
    show 8 * kP h g n + g n = 8 * kP h' g' n + g' n ↔ _
    constructor
    · intro e
      have := ih.1 (by omega)
      refine ⟨this.1, fun i hi => ?_⟩
      by_cases q : i = n
      · rw [q]; omega
      · exact this.2 i (by omega)
    · intro e
      have h1 := ih.2 ⟨e.1, fun i hi => e.2 i (by omega)⟩
      have h2 := e.2 n (by omega)
      omega
theorem kP_rng {h : Int} {g : Nat → Int} (rh : 0 ≤ h ∧ h ≤ 10) (rg : ∀ i, 0 ≤ g i ∧ g i < 8) : ∀ n, 0 ≤ kP h g n ∧ kP h g n < 11 * ((8 ^ n : Nat) : Int)
  | 0 => by unfold kP; simp; omega
  | n + 1 => by
    have ih := kP_rng rh rg n
    have r1 := rg n
    unfold kP
    rw [Nat.pow_succ]
    omega
/-- the told ones' storeys in a row: people, then things -/
def dgT (np : Nat) (w : Int) (i : Nat) : Int := if i < np then g8 w i else g8 w (7 + (i - np))
theorem dgT_rng (np : Nat) (w : Int) (i : Nat) : 0 ≤ dgT np w i ∧ dgT np w i < 8 := by
  unfold dgT
  split
  · exact g8_lt _ _
  · exact g8_lt _ _
/-- who are not told are on storey 0 -/
def Zd (np nt : Nat) (w : Int) : Prop := ∀ k, k < 10 → ¬ (k < np ∨ (7 ≤ k ∧ k < 7 + nt)) → g8 w k = 0
theorem dgT_inj {np nt : Nat} (h1 : np ≤ 7) (h2 : nt ≤ 3) {w w' : Int} (hw : 0 ≤ w ∧ w < 1073741824) (hw' : 0 ≤ w' ∧ w' < 1073741824) (z : Zd np nt w) (z' : Zd np nt w') : (∀ i, i < np + nt → dgT np w i = dgT np w' i) ↔ w = w' := by
  constructor
  · intro h
    refine g8_inj hw hw' (fun j hj => ?_)
    by_cases c : j < np ∨ (7 ≤ j ∧ j < 7 + nt)
    · by_cases c1 : j < np
      · have := h j (by omega)
        unfold dgT at this
        rw [if_pos c1, if_pos c1] at this
        exact this
      · have := h (np + (j - 7)) (by omega)
        unfold dgT at this
        rw [if_neg (by omega), if_neg (by omega), show 7 + (np + (j - 7) - np) = j by omega] at this
        exact this
    · rw [z j hj c, z' j hj c]
  · intro h i _
    rw [h]
theorem fut_Zd {B : q_Mem} (hB : NowOk B) (z : Zd (B 3 4).toNat (B 3 5).toNat (B 3 12)) : ∀ k, Zd (B 3 4).toNat (B 3 5).toNat (fut B 3 k)
  | 0 => z
  | k + 1 => by
    intro j hj hc
    obtain ⟨h0, h1, h2, h3, -⟩ := id hB
    unfold fut
    rw [nxt_g8 h3 hj]
    unfold homeAft aftD
    rw [if_neg (fun y => hc (Or.inl y)), if_neg (fun y => hc (Or.inr y))]
theorem C_situation {G : q_G} {d : Nat} {B M : q_Mem} {N : q_MemL} {w b : Int} (hd : 1 ≤ d) (hB : NowOk B) (hS : RS B M w b) (hb0 : 0 ≤ b ∧ b < 2147483648) (htl : B 3 0 = 1) : AC0 G d m_X11_situation [.ref 112] M N (CV (PU (J (kP (hourOf (B 3 2) b) (dgT (B 3 4).toNat w) ((B 3 4).toNat + (B 3 5).toNat))) M N)) := by
  obtain ⟨hT, hP, hW, hb6⟩ := id hS
  obtain ⟨h0, h1, h2, h3, h4, h5, h6, h11, h12, -⟩ := id hB
  obtain ⟨⟨t0, t1, t2, t3, t4, t5, t7⟩, -⟩ := id hT
  have hh := hourOf_rng (h := B 3 2) hb0.1
  have hh2 : 0 ≤ hourOf (B 3 2) b ∧ hourOf (B 3 2) b < 7 := by
    by_cases c : 0 < B 3 2
    · have := hh.2.1 c; omega
    · have := hh.2.2 c; omega
  generalize hre : hourOf (B 3 2) b = hr at hh2
  refine AC.of (L0 := [_, none, none, none]) pn_X11 (Nat.le_of_ble_eq_true rfl) rfl ?_
  refine st_aload_n dX11_situation_0 rfl ?_
  refine c_V0p (d' := d - 1) dX11_situation_1 l_X11_390 k_X11_hourNow i_X11_hourNow (Or.inl ⟨_, _, _, _, _, (by first | with_reducible assumption | rfl), by rfl⟩) (by omega) (Nat.le_of_ble_eq_true rfl) (C_hourNow hB hT hb6 hb0 htl) ?_
  rw [hre]
  refine st_i2lK dX11_situation_4 (by omega) ?_
  refine st_lstore_n (L' := [_, _, _, _]) dX11_situation_5 (by decide) rfl rfl ?_
  refine st_iconst dX11_situation_6 ?_
  refine st_istore_n (L' := [_, _, _, _]) dX11_situation_7 (by decide) rfl rfl ?_
  have l2 : ∀ (m k : Nat), k + m = (B 3 5).toNat → AW0 G d m_X11_situation 40 [some (.ref 112), some (J (kP hr (dgT (B 3 4).toNat w) ((B 3 4).toNat + k))), none, some (I k)] [] M N (CV (PU (J (kP hr (dgT (B 3 4).toNat w) ((B 3 4).toNat + (B 3 5).toNat))) M N)) := by
    intro m
    induction m with
    | zero =>
      intro k hk
      refine st_iload_n dX11_situation_40 rfl ?_
      refine st_aload_n dX11_situation_41 rfl ?_
      refine st_getfr dX11_situation_42 f_X11_9 (by first | with_reducible assumption | rfl) (by rfl) ?_
      refine st_iconst dX11_situation_45 ?_
      refine st_ialdK (k' := 4) dX11_situation_46 (by first | with_reducible assumption | rfl) rfl (by omega) (hn := by first | decide | omega) ?_
      rw [t4]
      refine st_icmp_ge (tgt := 70) dX11_situation_47 (by omega) (by omega) rfl (fun h => ?_) (fun h => ?_)
      · refine st_lload_n dX11_situation_70 rfl ?_
        exact r_l dX11_situation_71 rfl ⟨by rw [show k = (B 3 5).toNat by omega], rfl, rfl⟩
      · skip
        omega
    | succ m ih =>
      intro k hk
      have g := g8_lt w (7 + k)
      refine st_iload_n dX11_situation_40 rfl ?_
      refine st_aload_n dX11_situation_41 rfl ?_
      refine st_getfr dX11_situation_42 f_X11_9 (by first | with_reducible assumption | rfl) (by rfl) ?_
      refine st_iconst dX11_situation_45 ?_
      refine st_ialdK (k' := 4) dX11_situation_46 (by first | with_reducible assumption | rfl) rfl (by omega) (hn := by first | decide | omega) ?_
      rw [t4]
      refine st_icmp_ge (tgt := 70) dX11_situation_47 (by omega) (by omega) rfl (fun h => ?_) (fun h => ?_)
      · skip
        omega
      · refine st_ldc2 dX11_situation_50 l_X11_491 ?_
        refine AW.topv (show _ = J 8 from rfl) ?_
        refine st_lload_n dX11_situation_53 rfl ?_
        refine st_lmulJ dX11_situation_54 ?_
        refine st_aload_n dX11_situation_55 rfl ?_
        refine st_getfr dX11_situation_56 f_X11_31 (by first | with_reducible assumption | rfl) (by rfl) ?_
        refine st_iload_n dX11_situation_59 rfl ?_
        first | refine st_ialdK (k' := _) dX11_situation_60 (by first | with_reducible assumption | rfl) rfl (by omega) (hn := by first | decide | omega) ?_ | refine st_iald dX11_situation_60 (by first | with_reducible assumption | rfl) (by omega) (by omega) (hn := by first | decide | omega) ?_
        rw [hW.2 k (by omega)]
        refine st_i2lK dX11_situation_61 (by omega) ?_
        refine st_laddJ dX11_situation_62 ?_
        refine st_lstore_n (L' := [_, _, _, _]) dX11_situation_63 (by decide) rfl rfl ?_
        refine st_iinc (L' := [_, _, _, _]) dX11_situation_64 rfl (by decide) rfl rfl ?_
        refine st_goto (tgt := 40) dX11_situation_67 rfl ?_
        exact AW.to (ih (k + 1) (by omega)) (h2 := by
          have : kP hr (dgT (B 3 4).toNat w) ((B 3 4).toNat + (k + 1)) = 8 * kP hr (dgT (B 3 4).toNat w) ((B 3 4).toNat + k) + g8 w (7 + k) := by
            show 8 * kP hr (dgT (B 3 4).toNat w) ((B 3 4).toNat + k) + dgT (B 3 4).toNat w ((B 3 4).toNat + k) = _
            unfold dgT
            rw [if_neg (by omega), show 7 + ((B 3 4).toNat + k - (B 3 4).toNat) = 7 + k by omega]
          rw [this]
          simp)
  have l1 : ∀ (m k : Nat), k + m = (B 3 4).toNat → AW0 G d m_X11_situation 8 [some (.ref 112), some (J (kP hr (dgT (B 3 4).toNat w) k)), none, some (I k)] [] M N (CV (PU (J (kP hr (dgT (B 3 4).toNat w) ((B 3 4).toNat + (B 3 5).toNat))) M N)) := by
    intro m
    induction m with
    | zero =>
      intro k hk
      refine st_iload_n dX11_situation_8 rfl ?_
      refine st_aload_n dX11_situation_9 rfl ?_
      refine st_getfr dX11_situation_10 f_X11_9 (by first | with_reducible assumption | rfl) (by rfl) ?_
      refine st_iconst dX11_situation_13 ?_
      refine st_ialdK (k' := 3) dX11_situation_14 (by first | with_reducible assumption | rfl) rfl (by omega) (hn := by first | decide | omega) ?_
      rw [t3]
      refine st_icmp_ge (tgt := 38) dX11_situation_15 (by omega) (by omega) rfl (fun h => ?_) (fun h => ?_)
      · refine st_iconst dX11_situation_38 ?_
        refine st_istore_n (L' := [_, _, _, _]) dX11_situation_39 (by decide) rfl rfl ?_
        exact AW.to (l2 _ 0 (Nat.zero_add _)) (h2 := by rw [show k = (B 3 4).toNat by omega]; rfl)
      · skip
        omega
    | succ m ih =>
      intro k hk
      have g := g8_lt w k
      refine st_iload_n dX11_situation_8 rfl ?_
      refine st_aload_n dX11_situation_9 rfl ?_
      refine st_getfr dX11_situation_10 f_X11_9 (by first | with_reducible assumption | rfl) (by rfl) ?_
      refine st_iconst dX11_situation_13 ?_
      refine st_ialdK (k' := 3) dX11_situation_14 (by first | with_reducible assumption | rfl) rfl (by omega) (hn := by first | decide | omega) ?_
      rw [t3]
      refine st_icmp_ge (tgt := 38) dX11_situation_15 (by omega) (by omega) rfl (fun h => ?_) (fun h => ?_)
      · skip
        omega
      · refine st_ldc2 dX11_situation_18 l_X11_491 ?_
        refine AW.topv (show _ = J 8 from rfl) ?_
        refine st_lload_n dX11_situation_21 rfl ?_
        refine st_lmulJ dX11_situation_22 ?_
        refine st_aload_n dX11_situation_23 rfl ?_
        refine st_getfr dX11_situation_24 f_X11_19 (by first | with_reducible assumption | rfl) (by rfl) ?_
        refine st_iload_n dX11_situation_27 rfl ?_
        first | refine st_ialdK (k' := _) dX11_situation_28 (by first | with_reducible assumption | rfl) rfl (by omega) (hn := by first | decide | omega) ?_ | refine st_iald dX11_situation_28 (by first | with_reducible assumption | rfl) (by omega) (by omega) (hn := by first | decide | omega) ?_
        rw [hW.1 k (by omega)]
        refine st_i2lK dX11_situation_29 (by omega) ?_
        refine st_laddJ dX11_situation_30 ?_
        refine st_lstore_n (L' := [_, _, _, _]) dX11_situation_31 (by decide) rfl rfl ?_
        refine st_iinc (L' := [_, _, _, _]) dX11_situation_32 rfl (by decide) rfl rfl ?_
        refine st_goto (tgt := 8) dX11_situation_35 rfl ?_
        exact AW.to (ih (k + 1) (by omega)) (h2 := by
          have : kP hr (dgT (B 3 4).toNat w) (k + 1) = 8 * kP hr (dgT (B 3 4).toNat w) k + g8 w k := by
            show 8 * kP hr (dgT (B 3 4).toNat w) k + dgT (B 3 4).toNat w k = _
            unfold dgT
            rw [if_pos (by omega)]
          rw [this]
          simp)
  exact AW.to (l1 _ 0 (Nat.zero_add _))
theorem C_highestNow {G : q_G} {d : Nat} {B M : q_Mem} {N : q_MemL} {w b : Int} (hB : NowOk B) (hS : RS B M w b) : AC0 G d m_X11_highestNow [.ref 112] M N (CV (PU (I (topS (B 3 4).toNat w)) M N)) := by
  obtain ⟨hT, hP, hW, hb6⟩ := id hS
  obtain ⟨h0, h1, h2, h3, h4, h5, h6, h11, h12, -⟩ := id hB
  obtain ⟨⟨t0, t1, t2, t3, t4, t5, t7⟩, -⟩ := id hT
  have rg : ∀ k, -2 ≤ topS k w ∧ topS k w < 8 := by
    intro k
    induction k with
    | zero =>
      show -2 ≤ (-2 : Int) ∧ (-2 : Int) < 8
      omega
    | succ k ih =>
      have g := g8_lt w k
      show -2 ≤ max (topS k w) (g8 w k) ∧ max (topS k w) (g8 w k) < 8
      omega
  refine AC.of (L0 := [_, none, none]) pn_X11 (Nat.le_of_ble_eq_true rfl) rfl ?_
  refine st_bipush dX11_highestNow_0 (by decide) ?_
  refine st_istore_n (L' := [_, _, _]) dX11_highestNow_2 (by decide) rfl rfl ?_
  refine st_iconst dX11_highestNow_3 ?_
  refine st_istore_n (L' := [_, _, _]) dX11_highestNow_4 (by decide) rfl rfl ?_
  have loop : ∀ (m k : Nat), k + m = (B 3 4).toNat → AW0 G d m_X11_highestNow 5 [some (.ref 112), some (I (topS k w)), some (I k)] [] M N (CV (PU (I (topS (B 3 4).toNat w)) M N)) := by
    intro m
    induction m with
    | zero =>
      intro k hk
      refine st_iload_n dX11_highestNow_5 rfl ?_
      refine st_aload_n dX11_highestNow_6 rfl ?_
      refine st_getfr dX11_highestNow_7 f_X11_9 (by first | with_reducible assumption | rfl) (by rfl) ?_
      refine st_iconst dX11_highestNow_10 ?_
      refine st_ialdK (k' := 3) dX11_highestNow_11 (by first | with_reducible assumption | rfl) rfl (by omega) (hn := by first | decide | omega) ?_
      rw [t3]
      refine st_icmp_ge (tgt := 42) dX11_highestNow_12 (by omega) (by omega) rfl (fun h => ?_) (fun h => ?_)
      · refine st_iload_n dX11_highestNow_42 rfl ?_
        exact r_i dX11_highestNow_43 rfl ⟨by rw [show k = (B 3 4).toNat by omega], rfl, rfl⟩
      · skip
        omega
    | succ m ih =>
      intro k hk
      have g := g8_lt w k
      have r := rg k
      have e : topS (k + 1) w = max (topS k w) (g8 w k) := rfl
      refine st_iload_n dX11_highestNow_5 rfl ?_
      refine st_aload_n dX11_highestNow_6 rfl ?_
      refine st_getfr dX11_highestNow_7 f_X11_9 (by first | with_reducible assumption | rfl) (by rfl) ?_
      refine st_iconst dX11_highestNow_10 ?_
      refine st_ialdK (k' := 3) dX11_highestNow_11 (by first | with_reducible assumption | rfl) rfl (by omega) (hn := by first | decide | omega) ?_
      rw [t3]
      refine st_icmp_ge (tgt := 42) dX11_highestNow_12 (by omega) (by omega) rfl (fun h => ?_) (fun h => ?_)
      · skip
        omega
      · refine st_aload_n dX11_highestNow_15 rfl ?_
        refine st_getfr dX11_highestNow_16 f_X11_19 (by first | with_reducible assumption | rfl) (by rfl) ?_
        refine st_iload_n dX11_highestNow_19 rfl ?_
        first | refine st_ialdK (k' := _) dX11_highestNow_20 (by first | with_reducible assumption | rfl) rfl (by omega) (hn := by first | decide | omega) ?_ | refine st_iald dX11_highestNow_20 (by first | with_reducible assumption | rfl) (by omega) (by omega) (hn := by first | decide | omega) ?_
        rw [hW.1 k (by omega)]
        refine st_iload_n dX11_highestNow_21 rfl ?_
        refine st_icmp_le (tgt := 34) dX11_highestNow_22 (by omega) (by omega) rfl (fun h2 => ?_) (fun h2 => ?_)
        · refine st_iload_n dX11_highestNow_34 rfl ?_
          refine st_istore_n (L' := [_, _, _]) dX11_highestNow_35 (by decide) rfl rfl ?_
          refine st_iinc (L' := [_, _, _]) dX11_highestNow_36 rfl (by decide) rfl rfl ?_
          refine st_goto (tgt := 5) dX11_highestNow_39 rfl ?_
          exact AW.to (ih (k + 1) (by omega)) (h2 := by rw [e, show max (topS k w) (g8 w k) = topS k w by omega]; simp)
        · refine st_aload_n dX11_highestNow_25 rfl ?_
          refine st_getfr dX11_highestNow_26 f_X11_19 (by first | with_reducible assumption | rfl) (by rfl) ?_
          refine st_iload_n dX11_highestNow_29 rfl ?_
          first | refine st_ialdK (k' := _) dX11_highestNow_30 (by first | with_reducible assumption | rfl) rfl (by omega) (hn := by first | decide | omega) ?_ | refine st_iald dX11_highestNow_30 (by first | with_reducible assumption | rfl) (by omega) (by omega) (hn := by first | decide | omega) ?_
          rw [hW.1 k (by omega)]
          refine st_goto (tgt := 35) dX11_highestNow_31 rfl ?_
          refine st_istore_n (L' := [_, _, _]) dX11_highestNow_35 (by decide) rfl rfl ?_
          refine st_iinc (L' := [_, _, _]) dX11_highestNow_36 rfl (by decide) rfl rfl ?_
          refine st_goto (tgt := 5) dX11_highestNow_39 rfl ?_
          exact AW.to (ih (k + 1) (by omega)) (h2 := by rw [e, show max (topS k w) (g8 w k) = g8 w k by omega]; simp)
  exact loop _ 0 (Nat.zero_add _)
/-- the key of the situation in k beats -/
def keyF (B : q_Mem) (k : Nat) : Int := kP (hourOf (B 3 2) (B 3 11 + k)) (dgT (B 3 4).toNat (fut B 3 k)) ((B 3 4).toNat + (B 3 5).toNat)
theorem keyF_eq {B : q_Mem} (hB : NowOk B) (z : Zd (B 3 4).toNat (B 3 5).toNat (B 3 12)) (htl : B 3 0 = 1) {k n : Nat} (hkn : k < n) : keyF B k = keyF B n ↔ mtch (fut B 3) (max 1 (B 3 2)) k n := by
  obtain ⟨h0, h1, h2, h3, h4, h5, h6, h11, h12, h13, h15, h17, h18, hb, hc, hw, hv, hp, he, ht1, ht0⟩ := id hB
  have hh := ht1 htl
  unfold keyF
  rw [kP_inj (dgT_rng _ _) (dgT_rng _ _), dgT_inj (by omega) (by omega) (fut_rng h3 h12 k) (fut_rng h3 h12 n) (fut_Zd hB z k) (fut_Zd hB z n)]
  unfold mtch hourOf
  rw [if_pos (by omega), if_pos (by omega), show max 1 (B 3 2) = B 3 2 by omega]
  generalize B 3 2 = h at *
  have e : ((n : Int) - k) % h = 0 ↔ (B 3 11 + k) % h = (B 3 11 + n) % h := by
    rw [Int.emod_eq_emod_iff_emod_sub_eq_zero]
    have e2 : B 3 11 + (k : Int) - (B 3 11 + n) = -((n : Int) - k) := by omega
    constructor
    · intro q
      have := Int.dvd_of_emod_eq_zero q
      refine Int.emod_eq_zero_of_dvd ?_
      rw [e2]
      exact (Int.dvd_neg).2 this
    · intro q
      have := Int.dvd_of_emod_eq_zero q
      rw [e2] at this
      exact Int.emod_eq_zero_of_dvd ((Int.dvd_neg).1 this)
  constructor
  · intro q
    exact ⟨e.2 q.1, q.2⟩
  · intro q
    exact ⟨e.1 q.1, q.2⟩


/-! the reference: to carry; keys of where all are, those that came -/
def keyS (B : q_Mem) (w : Int) : Int := kP 0 (dgT (B 3 4).toNat w) ((B 3 4).toNat + (B 3 5).toNat)
theorem kS_rng {B : q_Mem} (hB : NowOk B) (w : Int) {n : Nat} (hn : n ≤ (B 3 4).toNat + (B 3 5).toNat) : 0 ≤ kP 0 (dgT (B 3 4).toNat w) n ∧ kP 0 (dgT (B 3 4).toNat w) n < 100000000000 := by
  obtain ⟨h0, h1, h2, h3, h4, h5, -⟩ := hB
  have h := kP_rng (h := 0) (by omega) (dgT_rng (B 3 4).toNat w) n
  have h8 : 8 ^ n ≤ 8 ^ 10 := Nat.pow_le_pow_right (by omega) (by omega)
  have h9 : (8 : Nat) ^ 10 = 1073741824 := by decide
  omega
theorem keyS_inj {B : q_Mem} (hB : NowOk B) {w w' : Int} (hw : 0 ≤ w ∧ w < 1073741824) (hw' : 0 ≤ w' ∧ w' < 1073741824) (z : Zd (B 3 4).toNat (B 3 5).toNat w) (z' : Zd (B 3 4).toNat (B 3 5).toNat w') : keyS B w = keyS B w' ↔ w = w' := by
  obtain ⟨h0, h1, h2, h3, h4, h5, -⟩ := hB
  unfold keyS
  rw [kP_inj (dgT_rng _ _) (dgT_rng _ _), dgT_inj (by omega) (by omega) hw hw' z z']
  exact ⟨fun q => q.2, fun q => ⟨rfl, q⟩⟩
theorem C_storeys {G : q_G} {d : Nat} {B M : q_Mem} {N : q_MemL} {w : Int} (hB : NowOk B) (hT : RT B M) (hW : RW B M w) : AC0 G d m_X11_storeys [.ref 112] M N (CV (PU (J (keyS B w)) M N)) := by
  obtain ⟨h0, h1, h2, h3, h4, h5, h6, h11, h12, -⟩ := id hB
  obtain ⟨⟨t0, t1, t2, t3, t4, t5, t7⟩, -⟩ := id hT
  refine AC.of (L0 := [_, none, none, none]) pn_X11 (Nat.le_of_ble_eq_true rfl) rfl ?_
  refine st_lc0K dX11_storeys_0 ?_
  refine st_lstore_n (L' := [_, _, _, _]) dX11_storeys_1 (by decide) rfl rfl ?_
  refine st_iconst dX11_storeys_2 ?_
  refine st_istore_n (L' := [_, _, _, _]) dX11_storeys_3 (by decide) rfl rfl ?_
  have l2 : ∀ (m k : Nat), k + m = (B 3 5).toNat → AW0 G d m_X11_storeys 36 [some (.ref 112), some (J (kP 0 (dgT (B 3 4).toNat w) ((B 3 4).toNat + k))), none, some (I k)] [] M N (CV (PU (J (keyS B w)) M N)) := by
    intro m
    induction m with
    | zero =>
      intro k hk
      refine st_iload_n dX11_storeys_36 rfl ?_
      refine st_aload_n dX11_storeys_37 rfl ?_
      refine st_getfr dX11_storeys_38 f_X11_9 (by first | with_reducible assumption | rfl) (by rfl) ?_
      refine st_iconst dX11_storeys_41 ?_
      refine st_ialdK (k' := 4) dX11_storeys_42 (by first | with_reducible assumption | rfl) rfl (by omega) (hn := by first | decide | omega) ?_
      rw [t4]
      refine st_icmp_ge (tgt := 66) dX11_storeys_43 (by omega) (by omega) rfl (fun h => ?_) (fun h => ?_)
      · refine st_lload_n dX11_storeys_66 rfl ?_
        exact r_l dX11_storeys_67 rfl ⟨by unfold keyS; rw [show k = (B 3 5).toNat by omega], rfl, rfl⟩
      · skip
        omega
    | succ m ih =>
      intro k hk
      have g := g8_lt w (7 + k)
      refine st_iload_n dX11_storeys_36 rfl ?_
      refine st_aload_n dX11_storeys_37 rfl ?_
      refine st_getfr dX11_storeys_38 f_X11_9 (by first | with_reducible assumption | rfl) (by rfl) ?_
      refine st_iconst dX11_storeys_41 ?_
      refine st_ialdK (k' := 4) dX11_storeys_42 (by first | with_reducible assumption | rfl) rfl (by omega) (hn := by first | decide | omega) ?_
      rw [t4]
      refine st_icmp_ge (tgt := 66) dX11_storeys_43 (by omega) (by omega) rfl (fun h => ?_) (fun h => ?_)
      · skip
        omega
      · refine st_ldc2 dX11_storeys_46 l_X11_491 ?_
        refine AW.topv (show _ = J 8 from rfl) ?_
        refine st_lload_n dX11_storeys_49 rfl ?_
        refine st_lmulJ dX11_storeys_50 ?_
        refine st_aload_n dX11_storeys_51 rfl ?_
        refine st_getfr dX11_storeys_52 f_X11_31 (by first | with_reducible assumption | rfl) (by rfl) ?_
        refine st_iload_n dX11_storeys_55 rfl ?_
        first | refine st_ialdK (k' := _) dX11_storeys_56 (by first | with_reducible assumption | rfl) rfl (by omega) (hn := by first | decide | omega) ?_ | refine st_iald dX11_storeys_56 (by first | with_reducible assumption | rfl) (by omega) (by omega) (hn := by first | decide | omega) ?_
        rw [hW.2 k (by omega)]
        refine st_i2lK dX11_storeys_57 (by omega) ?_
        refine st_laddJ dX11_storeys_58 ?_
        refine st_lstore_n (L' := [_, _, _, _]) dX11_storeys_59 (by decide) rfl rfl ?_
        refine st_iinc (L' := [_, _, _, _]) dX11_storeys_60 rfl (by decide) rfl rfl ?_
        refine st_goto (tgt := 36) dX11_storeys_63 rfl ?_
        exact AW.to (ih (k + 1) (by omega)) (h2 := by
          have : kP 0 (dgT (B 3 4).toNat w) ((B 3 4).toNat + (k + 1)) = 8 * kP 0 (dgT (B 3 4).toNat w) ((B 3 4).toNat + k) + g8 w (7 + k) := by
            show 8 * kP 0 (dgT (B 3 4).toNat w) ((B 3 4).toNat + k) + dgT (B 3 4).toNat w ((B 3 4).toNat + k) = _
            unfold dgT
            rw [if_neg (by omega), show 7 + ((B 3 4).toNat + k - (B 3 4).toNat) = 7 + k by omega]
          rw [this]
          simp)
  have l1 : ∀ (m k : Nat), k + m = (B 3 4).toNat → AW0 G d m_X11_storeys 4 [some (.ref 112), some (J (kP 0 (dgT (B 3 4).toNat w) k)), none, some (I k)] [] M N (CV (PU (J (keyS B w)) M N)) := by
    intro m
    induction m with
    | zero =>
      intro k hk
      refine st_iload_n dX11_storeys_4 rfl ?_
      refine st_aload_n dX11_storeys_5 rfl ?_
      refine st_getfr dX11_storeys_6 f_X11_9 (by first | with_reducible assumption | rfl) (by rfl) ?_
      refine st_iconst dX11_storeys_9 ?_
      refine st_ialdK (k' := 3) dX11_storeys_10 (by first | with_reducible assumption | rfl) rfl (by omega) (hn := by first | decide | omega) ?_
      rw [t3]
      refine st_icmp_ge (tgt := 34) dX11_storeys_11 (by omega) (by omega) rfl (fun h => ?_) (fun h => ?_)
      · refine st_iconst dX11_storeys_34 ?_
        refine st_istore_n (L' := [_, _, _, _]) dX11_storeys_35 (by decide) rfl rfl ?_
        exact AW.to (l2 _ 0 (Nat.zero_add _)) (h2 := by rw [show k = (B 3 4).toNat by omega]; rfl)
      · skip
        omega
    | succ m ih =>
      intro k hk
      have g := g8_lt w k
      refine st_iload_n dX11_storeys_4 rfl ?_
      refine st_aload_n dX11_storeys_5 rfl ?_
      refine st_getfr dX11_storeys_6 f_X11_9 (by first | with_reducible assumption | rfl) (by rfl) ?_
      refine st_iconst dX11_storeys_9 ?_
      refine st_ialdK (k' := 3) dX11_storeys_10 (by first | with_reducible assumption | rfl) rfl (by omega) (hn := by first | decide | omega) ?_
      rw [t3]
      refine st_icmp_ge (tgt := 34) dX11_storeys_11 (by omega) (by omega) rfl (fun h => ?_) (fun h => ?_)
      · skip
        omega
      · refine st_ldc2 dX11_storeys_14 l_X11_491 ?_
        refine AW.topv (show _ = J 8 from rfl) ?_
        refine st_lload_n dX11_storeys_17 rfl ?_
        refine st_lmulJ dX11_storeys_18 ?_
        refine st_aload_n dX11_storeys_19 rfl ?_
        refine st_getfr dX11_storeys_20 f_X11_19 (by first | with_reducible assumption | rfl) (by rfl) ?_
        refine st_iload_n dX11_storeys_23 rfl ?_
        first | refine st_ialdK (k' := _) dX11_storeys_24 (by first | with_reducible assumption | rfl) rfl (by omega) (hn := by first | decide | omega) ?_ | refine st_iald dX11_storeys_24 (by first | with_reducible assumption | rfl) (by omega) (by omega) (hn := by first | decide | omega) ?_
        rw [hW.1 k (by omega)]
        refine st_i2lK dX11_storeys_25 (by omega) ?_
        refine st_laddJ dX11_storeys_26 ?_
        refine st_lstore_n (L' := [_, _, _, _]) dX11_storeys_27 (by decide) rfl rfl ?_
        refine st_iinc (L' := [_, _, _, _]) dX11_storeys_28 rfl (by decide) rfl rfl ?_
        refine st_goto (tgt := 4) dX11_storeys_31 rfl ?_
        exact AW.to (ih (k + 1) (by omega)) (h2 := by
          have : kP 0 (dgT (B 3 4).toNat w) (k + 1) = 8 * kP 0 (dgT (B 3 4).toNat w) k + g8 w k := by
            show 8 * kP 0 (dgT (B 3 4).toNat w) k + dgT (B 3 4).toNat w k = _
            unfold dgT
            rw [if_pos (by omega)]
          rw [this]
          simp)
  exact AW.to (l1 _ 0 (Nat.zero_add _))
theorem C_laysStoreys {G : q_G} {d : Nat} {B M : q_Mem} {N : q_MemL} {w : Int} (hB : NowOk B) (hT : RT B M) : AC0 G d m_X11_laysStoreys [.ref 112, J (keyS B w)] M N (CN (fun M' N' => N' = N ∧ Exc [116, 120] M M' ∧ RW B M' w)) := by
  obtain ⟨h0, h1, h2, h3, h4, h5, h6, h11, h12, -⟩ := id hB
  have hTe : ∀ M1, Exc [116, 120] M M1 → M1 113 3 = B 3 4 ∧ M1 113 4 = B 3 5 := fun M1 hE => by rw [hE 113 (by decide)]; exact ⟨hT.1.2.2.2.1, hT.1.2.2.2.2.1⟩
  have hkr := fun n hn => kS_rng hB w (n := n) hn
  refine AC.of (L0 := [_, _, _, none, none, none]) pn_X11 (Nat.le_of_ble_eq_true rfl) rfl ?_
  refine st_lload_n dX11_laysStoreys_0 rfl ?_
  refine st_lstore_n (L' := [_, _, _, _, _, _]) dX11_laysStoreys_1 (by decide) rfl rfl ?_
  refine st_aload_n dX11_laysStoreys_2 rfl ?_
  refine st_getfr dX11_laysStoreys_3 f_X11_9 (by first | with_reducible assumption | rfl) (by rfl) ?_
  refine st_iconst dX11_laysStoreys_6 ?_
  refine st_ialdK (k' := 4) dX11_laysStoreys_7 (by first | with_reducible assumption | rfl) rfl (by omega) (hn := by first | decide | omega) ?_
  rw [hT.1.2.2.2.2.1, show B 3 5 = (((B 3 5).toNat : Nat) : Int) by omega]
  refine st_iconst dX11_laysStoreys_8 ?_
  refine st_isub dX11_laysStoreys_9 ?_
  refine st_istore (L' := [_, _, _, _, _, _]) dX11_laysStoreys_10 (by decide) rfl rfl ?_
  have l2 : ∀ (k : Nat) (M1 : q_Mem), k ≤ (B 3 4).toNat → Exc [116, 120] M M1 → (∀ q, k ≤ q → q < (B 3 4).toNat → M1 116 q = g8 w q) → (∀ t, t < (B 3 5).toNat → M1 120 t = g8 w (7 + t)) → AW0 G d m_X11_laysStoreys 52 [some (.ref 112), some (J (keyS B w)), none, some (J (kP 0 (dgT (B 3 4).toNat w) k)), none, some (I ((k : Int) - 1))] [] M1 N (CN (fun M' N' => N' = N ∧ Exc [116, 120] M M' ∧ RW B M' w)) := by
    intro k
    induction k with
    | zero =>
      intro M1 hk hE hq ht
      refine st_iload dX11_laysStoreys_52 rfl ?_
      refine st_if_lt (tgt := 82) dX11_laysStoreys_54 (by omega) rfl (fun h => ?_) (fun h => ?_)
      · skip
        exact r_v dX11_laysStoreys_82 rfl ⟨rfl, hE, fun q hq2 => hq q (by omega) hq2, ht⟩
      · skip
        omega
    | succ k ih =>
      intro M1 hk hE hq ht
      have r1 := hkr (k + 1) (by omega)
      have r0 := hkr k (by omega)
      have g := g8_lt w k
      have ek : kP 0 (dgT (B 3 4).toNat w) (k + 1) = 8 * kP 0 (dgT (B 3 4).toNat w) k + g8 w k := by
        show 8 * kP 0 (dgT (B 3 4).toNat w) k + dgT (B 3 4).toNat w k = _
        unfold dgT
        rw [if_pos (by omega)]
      refine st_iload dX11_laysStoreys_52 rfl ?_
      refine st_if_lt (tgt := 82) dX11_laysStoreys_54 (by omega) rfl (fun h => ?_) (fun h => ?_)
      · skip
        omega
      · refine st_aload_n dX11_laysStoreys_57 rfl ?_
        refine st_getfr dX11_laysStoreys_58 f_X11_19 (by first | with_reducible assumption | rfl) (by rfl) ?_
        refine st_iload dX11_laysStoreys_61 rfl ?_
        refine st_lload_n dX11_laysStoreys_63 rfl ?_
        refine st_ldc2 dX11_laysStoreys_64 l_X11_491 ?_
        refine AW.topv (show _ = J 8 from rfl) ?_
        refine st_lremJ dX11_laysStoreys_67 (by omega) (by omega) ?_
        refine st_l2iJ dX11_laysStoreys_68 ?_
        rw [show kP 0 (dgT (B 3 4).toNat w) (k + 1) % 8 = g8 w k by omega]
        refine st_iastK (k' := k) dX11_laysStoreys_69 sh_116 (by omega) (by omega) (hn := by decide) ?_
        refine st_lload_n dX11_laysStoreys_70 rfl ?_
        refine st_ldc2 dX11_laysStoreys_71 l_X11_491 ?_
        refine AW.topv (show _ = J 8 from rfl) ?_
        refine st_ldivJ dX11_laysStoreys_74 (by omega) (by omega) ?_
        rw [show kP 0 (dgT (B 3 4).toNat w) (k + 1) / 8 = kP 0 (dgT (B 3 4).toNat w) k by omega]
        refine st_lstore_n (L' := [_, _, _, _, _, _]) dX11_laysStoreys_75 (by decide) rfl rfl ?_
        refine st_iinc (L' := [_, _, _, _, _, _]) dX11_laysStoreys_76 rfl (by decide) rfl rfl ?_
        refine st_goto (tgt := 52) dX11_laysStoreys_79 rfl ?_
        refine AW.to (ih (q_up M1 116 k (g8 w k)) (by omega) (hE.tr (Exc.up (by decide))) (fun q hq1 hq2 => ?_) (fun t ht2 => by rw [q_up_ne (by decide)]; exact ht t ht2)) (h2 := by rw [show ((k + 1 : Nat) : Int) - 1 + -1 = (k : Int) - 1 by omega])
        by_cases e : q = k
        · rw [e]; simp [q_up]
        · rw [← hq q (by omega) hq2]; simp [q_up, e]
  have l1 : ∀ (k : Nat) (M1 : q_Mem), k ≤ (B 3 5).toNat → Exc [116, 120] M M1 → (∀ t, k ≤ t → t < (B 3 5).toNat → M1 120 t = g8 w (7 + t)) → AW0 G d m_X11_laysStoreys 12 [some (.ref 112), some (J (keyS B w)), none, some (J (kP 0 (dgT (B 3 4).toNat w) ((B 3 4).toNat + k))), none, some (I ((k : Int) - 1))] [] M1 N (CN (fun M' N' => N' = N ∧ Exc [116, 120] M M' ∧ RW B M' w)) := by
    intro k
    induction k with
    | zero =>
      intro M1 hk hE ht
      refine st_iload dX11_laysStoreys_12 rfl ?_
      refine st_if_lt (tgt := 42) dX11_laysStoreys_14 (by omega) rfl (fun h => ?_) (fun h => ?_)
      · refine st_aload_n dX11_laysStoreys_42 rfl ?_
        refine st_getfr dX11_laysStoreys_43 f_X11_9 (by first | with_reducible assumption | rfl) (by rfl) ?_
        refine st_iconst dX11_laysStoreys_46 ?_
        refine st_ialdK (k' := 3) dX11_laysStoreys_47 (by first | with_reducible assumption | rfl) rfl (by omega) (hn := by first | decide | omega) ?_
        rw [(hTe M1 hE).1, show B 3 4 = (((B 3 4).toNat : Nat) : Int) by omega]
        refine st_iconst dX11_laysStoreys_48 ?_
        refine st_isub dX11_laysStoreys_49 ?_
        refine st_istore (L' := [_, _, _, _, _, _]) dX11_laysStoreys_50 (by decide) rfl rfl ?_
        exact AW.to (l2 (B 3 4).toNat M1 (Nat.le_refl _) hE (fun q hq1 hq2 => absurd hq1 (by omega)) (fun t ht2 => ht t (by omega) ht2))
      · skip
        omega
    | succ k ih =>
      intro M1 hk hE ht
      have r1 := hkr ((B 3 4).toNat + (k + 1)) (by omega)
      have r0 := hkr ((B 3 4).toNat + k) (by omega)
      have g := g8_lt w (7 + k)
      have ek : kP 0 (dgT (B 3 4).toNat w) ((B 3 4).toNat + (k + 1)) = 8 * kP 0 (dgT (B 3 4).toNat w) ((B 3 4).toNat + k) + g8 w (7 + k) := by
        show 8 * kP 0 (dgT (B 3 4).toNat w) ((B 3 4).toNat + k) + dgT (B 3 4).toNat w ((B 3 4).toNat + k) = _
        unfold dgT
        rw [if_neg (by omega), show 7 + ((B 3 4).toNat + k - (B 3 4).toNat) = 7 + k by omega]
      refine st_iload dX11_laysStoreys_12 rfl ?_
      refine st_if_lt (tgt := 42) dX11_laysStoreys_14 (by omega) rfl (fun h => ?_) (fun h => ?_)
      · skip
        omega
      · refine st_aload_n dX11_laysStoreys_17 rfl ?_
        refine st_getfr dX11_laysStoreys_18 f_X11_31 (by first | with_reducible assumption | rfl) (by rfl) ?_
        refine st_iload dX11_laysStoreys_21 rfl ?_
        refine st_lload_n dX11_laysStoreys_23 rfl ?_
        refine st_ldc2 dX11_laysStoreys_24 l_X11_491 ?_
        refine AW.topv (show _ = J 8 from rfl) ?_
        refine st_lremJ dX11_laysStoreys_27 (by omega) (by omega) ?_
        refine st_l2iJ dX11_laysStoreys_28 ?_
        rw [show kP 0 (dgT (B 3 4).toNat w) ((B 3 4).toNat + (k + 1)) % 8 = g8 w (7 + k) by omega]
        refine st_iastK (k' := k) dX11_laysStoreys_29 sh_120 (by omega) (by omega) (hn := by decide) ?_
        refine st_lload_n dX11_laysStoreys_30 rfl ?_
        refine st_ldc2 dX11_laysStoreys_31 l_X11_491 ?_
        refine AW.topv (show _ = J 8 from rfl) ?_
        refine st_ldivJ dX11_laysStoreys_34 (by omega) (by omega) ?_
        rw [show kP 0 (dgT (B 3 4).toNat w) ((B 3 4).toNat + (k + 1)) / 8 = kP 0 (dgT (B 3 4).toNat w) ((B 3 4).toNat + k) by omega]
        refine st_lstore_n (L' := [_, _, _, _, _, _]) dX11_laysStoreys_35 (by decide) rfl rfl ?_
        refine st_iinc (L' := [_, _, _, _, _, _]) dX11_laysStoreys_36 rfl (by decide) rfl rfl ?_
        refine st_goto (tgt := 12) dX11_laysStoreys_39 rfl ?_
        refine AW.to (ih (q_up M1 120 k (g8 w (7 + k))) (by omega) (hE.tr (Exc.up (by decide))) (fun t ht1 ht2 => ?_)) (h2 := by rw [show ((k + 1 : Nat) : Int) - 1 + -1 = (k : Int) - 1 by omega])
        by_cases e : t = k
        · rw [e]; simp [q_up]
        · rw [← ht t (by omega) ht2]; simp [q_up, e]
  exact AW.to (l1 (B 3 5).toNat M (Nat.le_refl _) Exc.rf (fun t h1 h2 => absurd h1 (by omega)))
theorem C_placeOf {G : q_G} {d : Nat} {M : q_Mem} {N : q_MemL} {K : Nat → Int} {n : Nat} {key : Int} (hn : n ≤ 600) (h61 : M 112 61 = (n : Nat)) (hK : ∀ i, i < n → N 154 i = Int64.ofInt (K i)) (rK : ∀ i, i < n → 0 ≤ K i ∧ K i < 100000000000) (rk : 0 ≤ key ∧ key < 100000000000) : AC0 G d m_X11_placeOf [.ref 112, J key] M N (CV (fun v M' N' => M' = M ∧ N' = N ∧ ((v = I (-1) ∧ ∀ i, i < n → ¬ K i = key) ∨ ∃ i : Nat, i < n ∧ v = I i ∧ K i = key))) := by
  refine AC.of (L0 := [_, _, _, none]) pn_X11 (Nat.le_of_ble_eq_true rfl) rfl ?_
  refine st_iconst dX11_placeOf_0 ?_
  refine st_istore_n (L' := [_, _, _, _]) dX11_placeOf_1 (by decide) rfl rfl ?_
  have loop : ∀ (p k : Nat), k + p = n → (∀ i, i < k → ¬ K i = key) → AW0 G d m_X11_placeOf 2 [some (.ref 112), some (J key), none, some (I k)] [] M N (CV (fun v M' N' => M' = M ∧ N' = N ∧ ((v = I (-1) ∧ ∀ i, i < n → ¬ K i = key) ∨ ∃ i : Nat, i < n ∧ v = I i ∧ K i = key))) := by
    intro p
    induction p with
    | zero =>
      intro k hk hno
      refine st_iload_n dX11_placeOf_2 rfl ?_
      refine st_aload_n dX11_placeOf_3 rfl ?_
      refine st_getfi dX11_placeOf_4 f_X11_533 (by first | with_reducible assumption | rfl) (by rfl) ?_
      rw [h61]
      refine st_icmp_ge (tgt := 29) dX11_placeOf_7 (by omega) (by omega) rfl (fun h => ?_) (fun h => ?_)
      · refine st_iconst dX11_placeOf_29 ?_
        exact r_i dX11_placeOf_30 rfl ⟨rfl, rfl, Or.inl ⟨rfl, fun i hi => hno i (by omega)⟩⟩
      · skip
        omega
    | succ p ih =>
      intro k hk hno
      have r := rK k (by omega)
      have rc := cmpJ_rng (K k) key
      refine st_iload_n dX11_placeOf_2 rfl ?_
      refine st_aload_n dX11_placeOf_3 rfl ?_
      refine st_getfi dX11_placeOf_4 f_X11_533 (by first | with_reducible assumption | rfl) (by rfl) ?_
      rw [h61]
      refine st_icmp_ge (tgt := 29) dX11_placeOf_7 (by omega) (by omega) rfl (fun h => ?_) (fun h => ?_)
      · skip
        omega
      · refine st_aload_n dX11_placeOf_10 rfl ?_
        refine st_getfr dX11_placeOf_11 f_X11_140 (by first | with_reducible assumption | rfl) (by rfl) ?_
        refine st_iload_n dX11_placeOf_14 rfl ?_
        first | refine st_laldK (k' := _) dX11_placeOf_15 (by first | with_reducible assumption | rfl) rfl (by omega) (hn := by first | decide | omega) ?_ | refine st_lald dX11_placeOf_15 (by first | with_reducible assumption | rfl) (by omega) (by omega) (hn := by first | decide | omega) ?_
        rw [hK k (by omega)]
        refine st_lload_n dX11_placeOf_16 rfl ?_
        refine st_lcmpJ dX11_placeOf_17 (by omega) (by omega) ?_
        refine st_if_ne (tgt := 23) dX11_placeOf_18 (by omega) rfl (fun h2 => ?_) (fun h2 => ?_)
        · refine st_iinc (L' := [_, _, _, _]) dX11_placeOf_23 rfl (by decide) rfl rfl ?_
          refine st_goto (tgt := 2) dX11_placeOf_26 rfl ?_
          rw [cmpJ_eq] at h2
          refine AW.to (ih (k + 1) (by omega) (fun i hi => ?_)) (h2 := by simp)
          by_cases e : i = k
          · rw [e]; exact h2
          · exact hno i (by omega)
        · refine st_iload_n dX11_placeOf_21 rfl ?_
          rw [cmpJ_eq] at h2
          exact r_i dX11_placeOf_22 rfl ⟨rfl, rfl, Or.inr ⟨k, by omega, rfl, h2⟩⟩
  exact loop n 0 (Nat.zero_add _) (fun i hi => absurd hi (by omega))
theorem C_sings {G : q_G} {d : Nat} {B M : q_Mem} {N : q_MemL} {s : Nat} (hB : NowOk B) (hT : RT B M) (hs : s < 128) : AC0 G d m_X11_sings [.ref 112, I s] M N (CN (fun M' N' => N' = N ∧ Exc [143] M M' ∧ ∀ q, q < (B 3 4).toNat → M' 143 q = setV s q)) := by
  obtain ⟨h0, h1, h2, h3, h4, -⟩ := id hB
  refine AC.of (L0 := [_, _, none]) pn_X11 (Nat.le_of_ble_eq_true rfl) rfl ?_
  refine st_iconst dX11_sings_0 ?_
  refine st_istore_n (L' := [_, _, _]) dX11_sings_1 (by decide) rfl rfl ?_
  have loop : ∀ (p k : Nat) (M1 : q_Mem), k + p = (B 3 4).toNat → Exc [143] M M1 → (∀ q, q < k → M1 143 q = setV s q) → AW0 G d m_X11_sings 2 [some (.ref 112), some (I s), some (I k)] [] M1 N (CN (fun M' N' => N' = N ∧ Exc [143] M M' ∧ ∀ q, q < (B 3 4).toNat → M' 143 q = setV s q)) := by
    intro p
    induction p with
    | zero =>
      intro k M1 hk hE hv
      refine st_iload_n dX11_sings_2 rfl ?_
      refine st_aload_n dX11_sings_3 rfl ?_
      refine st_getfr dX11_sings_4 f_X11_9 (by first | with_reducible assumption | rfl) (by rfl) ?_
      refine st_iconst dX11_sings_7 ?_
      refine st_ialdK (k' := 3) dX11_sings_8 (by first | with_reducible assumption | rfl) rfl (by omega) (hn := by first | decide | omega) ?_
      rw [hE 113 (by decide), hT.1.2.2.2.1]
      refine st_icmp_ge (tgt := 39) dX11_sings_9 (by omega) (by omega) rfl (fun h => ?_) (fun h => ?_)
      · skip
        exact r_v dX11_sings_39 rfl ⟨rfl, hE, fun q hq => hv q (by omega)⟩
      · skip
        omega
    | succ p ih =>
      intro k M1 hk hE hv
      have rb := bitI_rng (s : Int) k
      have nxv : ∀ (z : Int), z = setV s k → AW0 G d m_X11_sings 32 [some (.ref 112), some (I s), some (I k)] [I z, I k, .ref 143] M1 N (CN (fun M' N' => N' = N ∧ Exc [143] M M' ∧ ∀ q, q < (B 3 4).toNat → M' 143 q = setV s q)) := by
        intro z hz
        first | refine st_iastK (k' := _) dX11_sings_32 (by first | with_reducible assumption | rfl) rfl (by omega) (hn := by first | decide | omega) ?_ | refine st_iast dX11_sings_32 (by first | with_reducible assumption | rfl) (by omega) (by omega) (hn := by first | decide | omega) ?_
        refine st_iinc (L' := [_, _, _]) dX11_sings_33 rfl (by decide) rfl rfl ?_
        refine st_goto (tgt := 2) dX11_sings_36 rfl ?_
        refine AW.to (ih (k + 1) (q_up M1 143 k z) (by omega) (hE.tr (Exc.up (by decide))) (fun q hq => ?_)) (h2 := by simp)
        by_cases e : q = k
        · rw [e, ← hz]; simp [q_up]
        · rw [← hv q (by omega)]; simp [q_up, e]
      refine st_iload_n dX11_sings_2 rfl ?_
      refine st_aload_n dX11_sings_3 rfl ?_
      refine st_getfr dX11_sings_4 f_X11_9 (by first | with_reducible assumption | rfl) (by rfl) ?_
      refine st_iconst dX11_sings_7 ?_
      refine st_ialdK (k' := 3) dX11_sings_8 (by first | with_reducible assumption | rfl) rfl (by omega) (hn := by first | decide | omega) ?_
      rw [hE 113 (by decide), hT.1.2.2.2.1]
      refine st_icmp_ge (tgt := 39) dX11_sings_9 (by omega) (by omega) rfl (fun h => ?_) (fun h => ?_)
      · skip
        omega
      · refine st_aload_n dX11_sings_12 rfl ?_
        refine st_getfr dX11_sings_13 f_X11_107 (by first | with_reducible assumption | rfl) (by rfl) ?_
        refine st_iload_n dX11_sings_16 rfl ?_
        refine st_iload_n dX11_sings_17 rfl ?_
        refine st_iload_n dX11_sings_18 rfl ?_
        refine st_ishr dX11_sings_19 ?_; refine st_iconst dX11_sings_20 ?_; refine st_iand dX11_sings_21 ?_; refine AW.top (z_bit (by omega) (by omega)) ?_
        refine st_iconst dX11_sings_22 ?_
        refine st_icmp_ne (tgt := 31) dX11_sings_23 (by omega) (by omega) rfl (fun h2 => ?_) (fun h2 => ?_)
        · refine st_iconst dX11_sings_31 ?_
          exact nxv 0 (by unfold setV; unfold bitI at h2; rw [Int.toNat_natCast] at h2; rw [if_neg (fun x => h2 (if_pos x))])
        · refine st_bipush dX11_sings_26 (by decide) ?_
          refine st_goto (tgt := 32) dX11_sings_28 rfl ?_
          exact nxv 30 (by
            unfold setV
            unfold bitI at h2
            rw [Int.toNat_natCast] at h2
            by_cases c : s.testBit k = true
            · rw [if_pos c]
            · rw [if_neg c] at h2; omega)
  exact loop _ 0 M (Nat.zero_add _) Exc.rf (fun q hq => absurd hq (by omega))
/-- those that came, as the rows hold them -/
def CrR (B M : q_Mem) (N : q_MemL) (L : caT) : Prop := M 112 61 = (L.length : Nat) ∧ L.length ≤ 600 ∧ ∀ i, i < L.length → N 154 i = Int64.ofInt (keyS B (cg L i).1) ∧ M 152 i = (cg L i).2.1 ∧ M 153 i = (cg L i).2.2
/-- each of those is a situation of told ones -/
def CrW (B : q_Mem) (w : Int) : Prop := (0 ≤ w ∧ w < 1073741824) ∧ Zd (B 3 4).toNat (B 3 5).toNat w
theorem q_up_id {M : q_Mem} {a i : Nat} {z : Int} (h : z = M a i) : q_up M a i z = M := by
  funext a' j
  by_cases c : a' = a ∧ j = i
  · obtain ⟨rfl, rfl⟩ := c
    simp [q_up, h]
  · simp [q_up, c]
abbrev cmX : List Nat := [112, 152, 153]
theorem C_comes {G : q_G} {d : Nat} {B M : q_Mem} {N : q_MemL} {L : caT} {w b f : Int} (hd : 1 ≤ d) (hB : NowOk B) (hT : RT B M) (hW : RW B M w) (hL : CrR B M N L) (hLw : ∀ i, i < L.length → CrW B (cg L i).1) (hw : CrW B w) (hb : 0 ≤ b ∧ b < 100000) (hf : 0 ≤ f ∧ f < 128) (hLb : ∀ i, i < L.length → (0 ≤ (cg L i).2.1 ∧ (cg L i).2.1 < 100000) ∧ 0 ≤ (cg L i).2.2 ∧ (cg L i).2.2 < 128) (hmo : ∀ i, i < L.length → (cg L i).2.1 = b → (cg L i).2.2 ≤ f) (h62 : -1 ≤ M 112 62 ∧ M 112 62 < 100000) :
    AC0 G d m_X11_comes [.ref 112, I b, I f] M N (CV (fun v M' N' => ((inL L w ∧ v = I 0 ∧ M' = M ∧ N' = N) ∨ (¬ inL L w ∧ ¬ M 112 62 = -1 ∧ v = I 0 ∧ M' = M ∧ N' = N) ∨ (¬ inL L w ∧ M 112 62 = -1 ∧ 600 ≤ L.length ∧ v = I 1 ∧ M' = M ∧ N' = N) ∨ (¬ inL L w ∧ M 112 62 = -1 ∧ L.length < 600 ∧ v = I 0 ∧ Exc cmX M M' ∧ (∀ j, ¬ j = 61 → M' 112 j = M 112 j) ∧ CrR B M' N' (L ++ [(w, b, f)]))))) := by
  obtain ⟨l1, l2, l3⟩ := id hL
  have hkw := kS_rng hB w (Nat.le_refl _)
  refine AC.of (L0 := [_, _, _, none]) pn_X11 (Nat.le_of_ble_eq_true rfl) rfl ?_
  refine st_aload_n dX11_comes_0 rfl ?_
  refine st_aload_n dX11_comes_1 rfl ?_
  refine c_V0p (d' := d - 1) dX11_comes_2 l_X11_536 k_X11_storeys i_X11_storeys (Or.inl ⟨_, _, _, _, _, (by first | with_reducible assumption | rfl), by rfl⟩) (by omega) (Nat.le_of_ble_eq_true rfl) (C_storeys hB hT hW) ?_
  refine c_V1i (d' := d - 1) dX11_comes_5 l_X11_539 k_X11_placeOf i_X11_placeOf (Or.inl ⟨_, _, _, _, _, (by first | with_reducible assumption | rfl), by rfl⟩) (by omega) (Nat.le_of_ble_eq_true rfl) (C_placeOf (K := fun i => keyS B (cg L i).1) l2 l1 (fun i hi => (l3 i hi).1) (fun i _ => kS_rng hB _ (Nat.le_refl _)) hkw) (fun v M1 N1 hx => ?_)
  obtain ⟨rfl, rfl, hx⟩ := hx
  rcases hx with ⟨rfl, hno⟩ | ⟨i, i1, rfl, i3⟩
  · have hnin : ¬ inL L w := by
      rintro ⟨i, hi, e⟩
      exact hno i hi (by show keyS B (cg L i).1 = _; rw [e])
    refine st_istore_n (L' := [_, _, _, _]) dX11_comes_8 (by decide) rfl rfl ?_
    refine st_iload_n dX11_comes_9 rfl ?_
    refine st_iconst dX11_comes_10 ?_
    refine st_icmp_eq (tgt := 52) dX11_comes_11 (by omega) (by omega) rfl (fun h => ?_) (fun h => ?_)
    · refine st_aload_n dX11_comes_52 rfl ?_
      refine st_getfi dX11_comes_53 f_X11_543 (by first | with_reducible assumption | rfl) (by rfl) ?_
      refine st_iconst dX11_comes_56 ?_
      refine st_icmp_eq (tgt := 62) dX11_comes_57 (by omega) (by omega) rfl (fun h2 => ?_) (fun h2 => ?_)
      · refine st_aload_n dX11_comes_62 rfl ?_
        refine st_getfi dX11_comes_63 f_X11_533 (by first | with_reducible assumption | rfl) (by rfl) ?_
        refine st_sipush dX11_comes_66 (by decide) ?_
        rw [l1]
        refine st_icmp_ne (tgt := 74) dX11_comes_69 (by omega) (by omega) rfl (fun h3 => ?_) (fun h3 => ?_)
        · refine st_aload_n dX11_comes_74 rfl ?_
          refine st_getfr dX11_comes_75 f_X11_140 (by first | with_reducible assumption | rfl) (by rfl) ?_
          refine st_aload_n dX11_comes_78 rfl ?_
          refine st_getfi dX11_comes_79 f_X11_533 (by first | with_reducible assumption | rfl) (by rfl) ?_
          rw [l1]
          refine st_aload_n dX11_comes_82 rfl ?_
          refine c_V0p (d' := d - 1) dX11_comes_83 l_X11_536 k_X11_storeys i_X11_storeys (Or.inl ⟨_, _, _, _, _, (by first | with_reducible assumption | rfl), by rfl⟩) (by omega) (Nat.le_of_ble_eq_true rfl) (C_storeys hB hT hW) ?_
          refine st_lastK (k' := L.length) dX11_comes_86 (by first | with_reducible assumption | rfl) rfl (by omega) (hn := by decide) ?_
          refine st_aload_n dX11_comes_87 rfl ?_
          refine st_getfr dX11_comes_88 f_X11_134 (by first | with_reducible assumption | rfl) (by rfl) ?_
          refine st_aload_n dX11_comes_91 rfl ?_
          refine st_getfi dX11_comes_92 f_X11_533 (by first | with_reducible assumption | rfl) (by rfl) ?_
          rw [l1]
          refine st_iload_n dX11_comes_95 rfl ?_
          first | refine st_iastK (k' := _) dX11_comes_96 (by first | with_reducible assumption | rfl) rfl (by omega) (hn := by first | decide | omega) ?_ | refine st_iast dX11_comes_96 (by first | with_reducible assumption | rfl) (by omega) (by omega) (hn := by first | decide | omega) ?_
          refine st_aload_n dX11_comes_97 rfl ?_
          refine st_getfr dX11_comes_98 f_X11_137 (by first | with_reducible assumption | rfl) (by rfl) ?_
          refine st_aload_n dX11_comes_101 rfl ?_
          refine st_getfi dX11_comes_102 f_X11_533 (by first | with_reducible assumption | rfl) (by rfl) ?_
          have e1 : q_up M1 152 L.length b 112 61 = (L.length : Nat) := by rw [q_up_ne (by decide)]; exact l1
          rw [e1]
          refine st_iload_n dX11_comes_105 rfl ?_
          first | refine st_iastK (k' := _) dX11_comes_106 (by first | with_reducible assumption | rfl) rfl (by omega) (hn := by first | decide | omega) ?_ | refine st_iast dX11_comes_106 (by first | with_reducible assumption | rfl) (by omega) (by omega) (hn := by first | decide | omega) ?_
          refine st_aload_n dX11_comes_107 rfl ?_
          refine st_dup dX11_comes_108 rfl ?_
          refine st_getfi dX11_comes_109 f_X11_533 (by first | with_reducible assumption | rfl) (by rfl) ?_
          have e2 : q_up (q_up M1 152 L.length b) 153 L.length f 112 61 = (L.length : Nat) := by rw [q_up_ne (by decide)]; exact e1
          rw [e2]
          refine st_iconst dX11_comes_112 ?_
          refine st_iadd dX11_comes_113 ?_
          refine st_putfi dX11_comes_114 w_X11_533 (by first | with_reducible assumption | rfl) (by rfl) rfl rfl ?_
          refine st_iconst dX11_comes_117 ?_
          refine r_z dX11_comes_118 rfl (Or.inl rfl) (Or.inr (Or.inr (Or.inr ⟨hnin, h2, by omega, rfl, ((Exc.up (by decide)).tr (Exc.up (by decide))).tr (Exc.up (by decide)), fun j hj => by simp [q_up, hj], ?_⟩)))
          refine ⟨by simp [q_up], by simp; omega, fun i hi => ?_⟩
          rw [List.length_append, List.length_singleton] at hi
          by_cases e : i = L.length
          · rw [e, cg_eq]
            exact ⟨by simp [q_upL], by simp [q_up], by simp [q_up]⟩
          · rw [cg_lt (by omega)]
            have := l3 i (by omega)
            exact ⟨by rw [← this.1]; simp [q_upL, e], by rw [← this.2.1]; simp [q_up, e], by rw [← this.2.2]; simp [q_up, e]⟩
        · refine st_iconst dX11_comes_72 ?_
          refine r_z dX11_comes_73 rfl (Or.inr rfl) (Or.inr (Or.inr (Or.inl ⟨hnin, h2, by omega, rfl, rfl, rfl⟩)))
      · refine st_iconst dX11_comes_60 ?_
        refine r_z dX11_comes_61 rfl (Or.inl rfl) (Or.inr (Or.inl ⟨hnin, h2, rfl, rfl, rfl⟩))
    · skip
      omega
  · have hin : inL L w := ⟨i, i1, (keyS_inj hB (hLw i i1).1 hw.1 (hLw i i1).2 hw.2).1 i3⟩
    have r := hLb i i1
    have hm := hmo i i1
    have l3i := l3 i i1
    have fin : ∀ (z : Int), z = M1 153 i → AW0 G d m_X11_comes 49 [some (.ref 112), some (I b), some (I f), some (I i)] [I z, I i, .ref 153] M1 N1 (CV (fun v M' N' => ((inL L w ∧ v = I 0 ∧ M' = M1 ∧ N' = N1) ∨ (¬ inL L w ∧ ¬ M1 112 62 = -1 ∧ v = I 0 ∧ M' = M1 ∧ N' = N1) ∨ (¬ inL L w ∧ M1 112 62 = -1 ∧ 600 ≤ L.length ∧ v = I 1 ∧ M' = M1 ∧ N' = N1) ∨ (¬ inL L w ∧ M1 112 62 = -1 ∧ L.length < 600 ∧ v = I 0 ∧ Exc cmX M1 M' ∧ (∀ j, ¬ j = 61 → M' 112 j = M1 112 j) ∧ CrR B M' N' (L ++ [(w, b, f)]))))) := by
      intro z hz
      first | refine st_iastK (k' := _) dX11_comes_49 (by first | with_reducible assumption | rfl) rfl (by omega) (hn := by first | decide | omega) ?_ | refine st_iast dX11_comes_49 (by first | with_reducible assumption | rfl) (by omega) (by omega) (hn := by first | decide | omega) ?_
      refine st_iconst dX11_comes_50 ?_
      refine r_z dX11_comes_51 rfl (Or.inl rfl) (Or.inl ⟨hin, rfl, q_up_id hz, rfl⟩)
    refine st_istore_n (L' := [_, _, _, _]) dX11_comes_8 (by decide) rfl rfl ?_
    refine st_iload_n dX11_comes_9 rfl ?_
    refine st_iconst dX11_comes_10 ?_
    refine st_icmp_eq (tgt := 52) dX11_comes_11 (by omega) (by omega) rfl (fun h => ?_) (fun h => ?_)
    · skip
      omega
    · refine st_aload_n dX11_comes_14 rfl ?_
      refine st_getfr dX11_comes_15 f_X11_137 (by first | with_reducible assumption | rfl) (by rfl) ?_
      refine st_iload_n dX11_comes_18 rfl ?_
      refine st_aload_n dX11_comes_19 rfl ?_
      refine st_getfr dX11_comes_20 f_X11_134 (by first | with_reducible assumption | rfl) (by rfl) ?_
      refine st_iload_n dX11_comes_23 rfl ?_
      first | refine st_ialdK (k' := _) dX11_comes_24 (by first | with_reducible assumption | rfl) rfl (by omega) (hn := by first | decide | omega) ?_ | refine st_iald dX11_comes_24 (by first | with_reducible assumption | rfl) (by omega) (by omega) (hn := by first | decide | omega) ?_
      rw [l3i.2.1]
      refine st_iload_n dX11_comes_25 rfl ?_
      refine st_icmp_ne (tgt := 43) dX11_comes_26 (by omega) (by omega) rfl (fun h2 => ?_) (fun h2 => ?_)
      · refine st_aload_n dX11_comes_43 rfl ?_
        refine st_getfr dX11_comes_44 f_X11_137 (by first | with_reducible assumption | rfl) (by rfl) ?_
        refine st_iload_n dX11_comes_47 rfl ?_
        first | refine st_ialdK (k' := _) dX11_comes_48 (by first | with_reducible assumption | rfl) rfl (by omega) (hn := by first | decide | omega) ?_ | refine st_iald dX11_comes_48 (by first | with_reducible assumption | rfl) (by omega) (by omega) (hn := by first | decide | omega) ?_
        exact fin _ rfl
      · refine st_iload_n dX11_comes_29 rfl ?_
        refine st_aload_n dX11_comes_30 rfl ?_
        refine st_getfr dX11_comes_31 f_X11_137 (by first | with_reducible assumption | rfl) (by rfl) ?_
        refine st_iload_n dX11_comes_34 rfl ?_
        first | refine st_ialdK (k' := _) dX11_comes_35 (by first | with_reducible assumption | rfl) rfl (by omega) (hn := by first | decide | omega) ?_ | refine st_iald dX11_comes_35 (by first | with_reducible assumption | rfl) (by omega) (by omega) (hn := by first | decide | omega) ?_
        rw [l3i.2.2]
        refine st_icmp_ge (tgt := 43) dX11_comes_36 (by omega) (by omega) rfl (fun h3 => ?_) (fun h3 => ?_)
        · refine st_aload_n dX11_comes_43 rfl ?_
          refine st_getfr dX11_comes_44 f_X11_137 (by first | with_reducible assumption | rfl) (by rfl) ?_
          refine st_iload_n dX11_comes_47 rfl ?_
          first | refine st_ialdK (k' := _) dX11_comes_48 (by first | with_reducible assumption | rfl) rfl (by omega) (hn := by first | decide | omega) ?_ | refine st_iald dX11_comes_48 (by first | with_reducible assumption | rfl) (by omega) (by omega) (hn := by first | decide | omega) ?_
          exact fin _ rfl
        · skip
          have := hm h2
          omega


/-! the reference: the question for beds; what is drawn -/
theorem j_div {x y : Int} (hx : 0 ≤ x ∧ x < 9223372036854775808) (hy : 0 < y ∧ y < 9223372036854775808) : Int64.ofInt x / Int64.ofInt y = Int64.ofInt (x / y) := by
  have hd := Int64.ofInt_tdiv (a := x) (b := y) (by show (-9223372036854775808 : Int) ≤ _; omega) (by show _ ≤ (9223372036854775807 : Int); omega) (by show (-9223372036854775808 : Int) ≤ _; omega) (by show _ ≤ (9223372036854775807 : Int); omega)
  rw [Int.tdiv_eq_ediv_of_nonneg hx.1] at hd
  exact hd.symm
theorem j_rem {x y : Int} (hx : 0 ≤ x ∧ x < 9223372036854775808) (hy : 0 < y ∧ y < 9223372036854775808) : Int64.ofInt x - Int64.ofInt x / Int64.ofInt y * Int64.ofInt y = Int64.ofInt (x % y) := by
  rw [j_div hx hy, ← Int64.ofInt_mul, ← Int64.ofInt_sub]
  congr 1
  have := Int.mul_ediv_add_emod x y
  rw [Int.mul_comm] at this
  omega
theorem j_ne0 {y : Int} (hy : 0 < y ∧ y < 9223372036854775808) : ¬ Int64.ofInt y = 0 := by
  intro h
  have := (j_eq (x := y) (y := 0) (by omega) (by omega)).1 h
  omega
theorem st_ldivJ {G : q_G} {d : Nat} {μ : q_M} {pc : Nat} {L : List (Option Value)} {st : List Value} {S : q_Sh} {M : q_Mem} {N : q_MemL} {k n : Nat} {Q : q_Q} {x y : Int} (hd : decode μ.2.1 pc = .ok (.ldiv, 1)) (hx : 0 ≤ x ∧ x < 9223372036854775808) (hy : 0 < y ∧ y < 9223372036854775808) (kk : AW G d μ (pc + 1) L (J (x / y) :: st) S M N k n Q) : AW G d μ pc L (J y :: J x :: st) S M N k n Q := st_ldiv hd (j_ne0 hy) (AW.topv (by rw [j_div hx hy]) kk)
theorem st_lremJ {G : q_G} {d : Nat} {μ : q_M} {pc : Nat} {L : List (Option Value)} {st : List Value} {S : q_Sh} {M : q_Mem} {N : q_MemL} {k n : Nat} {Q : q_Q} {x y : Int} (hd : decode μ.2.1 pc = .ok (.lrem, 1)) (hx : 0 ≤ x ∧ x < 9223372036854775808) (hy : 0 < y ∧ y < 9223372036854775808) (kk : AW G d μ (pc + 1) L (J (x % y) :: st) S M N k n Q) : AW G d μ pc L (J y :: J x :: st) S M N k n Q := st_lrem hd (j_ne0 hy) (AW.topv (by rw [j_rem hx hy]) kk)
theorem C_rbeds {G : q_G} {d : Nat} {B M : q_Mem} {N : q_MemL} {s h what : Int} (hd : 4 ≤ d) (hN : RN B M) (hs : i32 s) (hh : i32 h) (hw : i32 what) : AC0 G d m_X11_beds [.ref 112, I s, I h, I what] M N (CV (fun v M' N' => v = I (A_beds B s h what) ∧ N' = N ∧ Qk M M')) := by
  obtain ⟨hB, hT, hP, hW, hb6⟩ := id hN
  obtain ⟨h0, h1, h2, h3, h4, h5, h6, h11, h12, h13, h15, h17, h18, -⟩ := id hB
  have hww := hw
  unfold i32 at hww
  have no : ¬ ((0 ≤ s ∧ s < B 3 3) ∧ (0 ≤ h ∧ h < B 3 2) ∧ -1 ≤ what ∧ what < 7) → AW0 G d m_X11_beds 30 [some (.ref 112), some (I s), some (I h), some (I what)] [] M N (CV (fun v M' N' => v = I (A_beds B s h what) ∧ N' = N ∧ Qk M M')) := by
    intro h
    refine st_bipush dX11_beds_30 (by decide) ?_
    exact r_i dX11_beds_32 rfl ⟨by rw [A_beds, if_neg h], rfl, Qk.rf⟩
  refine AC.of (L0 := [_, _, _, _]) pn_X11 (Nat.le_of_ble_eq_true rfl) rfl ?_
  refine st_aload_n dX11_beds_0 rfl ?_
  refine st_iload_n dX11_beds_1 rfl ?_
  refine c_V1p (d' := d - 1) dX11_beds_2 l_X11_426 k_X11_isStorey i_X11_isStorey (Or.inl ⟨_, _, _, _, _, (by first | with_reducible assumption | rfl), by rfl⟩) (by omega) (Nat.le_of_ble_eq_true rfl) (C_isStorey (by omega) hB hT hs) ?_
  refine b_eq (tgt := 30) dX11_beds_5 rfl (fun h7 => ?_) (fun h7 => ?_)
  · skip
    exact no (fun z => h7 z.1)
  · refine st_aload_n dX11_beds_8 rfl ?_
    refine st_iload_n dX11_beds_9 rfl ?_
    refine c_V1p (d' := d - 1) dX11_beds_10 l_X11_415 k_X11_isHour i_X11_isHour (Or.inl ⟨_, _, _, _, _, (by first | with_reducible assumption | rfl), by rfl⟩) (by omega) (Nat.le_of_ble_eq_true rfl) (C_isHour (by omega) hB hT hh) ?_
    refine b_eq (tgt := 30) dX11_beds_13 rfl (fun h8 => ?_) (fun h8 => ?_)
    · skip
      exact no (fun z => h8 z.2.1)
    · refine st_iload_n dX11_beds_16 rfl ?_
      refine st_i2lK dX11_beds_17 (by omega) ?_
      refine st_ldc2 dX11_beds_18 l_X11_470 ?_
      refine AW.topv (show _ = J (-1) from rfl) ?_
      refine st_ldc2 dX11_beds_21 l_X11_565 ?_
      refine AW.topv (show _ = J 6 from rfl) ?_
      refine c_S3p (d' := d - 1) dX11_beds_24 l_X11_182 k_X11_in s_X11_in (by omega) (Nat.le_of_ble_eq_true rfl) (C_in (by omega) (by omega) (by omega)) ?_
      refine b_ne (tgt := 33) dX11_beds_27 rfl (fun h9 => ?_) (fun h9 => ?_)
      · refine st_aload_n dX11_beds_33 rfl ?_
        refine st_iload_n dX11_beds_34 rfl ?_
        refine st_iload_n dX11_beds_35 rfl ?_
        have hok : (0 ≤ s ∧ s < B 3 3) ∧ (0 ≤ h ∧ h < B 3 2) ∧ -1 ≤ what ∧ what < 7 := ⟨h7, h8, by omega, by omega⟩
        rw [show A_beds B s h what = A_sleep B s h what from if_pos hok]
        obtain ⟨u, rfl⟩ : ∃ u : Nat, h = u := ⟨h.toNat, by omega⟩
        refine c_V2v (d' := d - 1) dX11_beds_36 l_X11_567 k_X11_findsBeds i_X11_findsBeds (Or.inl ⟨_, _, _, _, _, (by first | with_reducible assumption | rfl), by rfl⟩) (by omega) (Nat.le_of_ble_eq_true rfl) (C_findsBeds (by omega) hN h7 (by omega)) (fun M1 N1 hx => ?_)
        obtain ⟨rfl, hq, e65, e155⟩ := hx
        have hsl := slF_rng h1 h4 s u ((B 3 1).toNat ^ (B 3 4).toNat)
        have hpo : (B 3 1).toNat ^ (B 3 4).toNat ≤ 4 ^ 7 := Nat.le_trans (Nat.pow_le_pow_left (by omega) _) (Nat.pow_le_pow_right (by omega) (by omega))
        have h47 : (4 : Nat) ^ 7 = 16384 := by decide
        unfold A_sleep
        generalize slF B s u ((B 3 1).toNat ^ (B 3 4).toNat) = p at e65 e155 hsl ⊢
        have hN1 := hN.qk hq.2.1
        have none' : ¬ what = -1 → ¬ (0 < p.1 ∧ what < B 3 4) → AW0 G d m_X11_beds 66 [some (.ref 112), some (I s), some (I u), some (I what)] [] M1 N1 (CV (fun v M' N' => v = I (if what = -1 then p.1 else if 0 < p.1 ∧ what < B 3 4 then g4 p.2 what.toNat else -2) ∧ N' = N1 ∧ Qk M M')) := by
          intro c1 c2
          refine st_bipush dX11_beds_66 (by decide) ?_
          refine st_goto (tgt := 77) dX11_beds_68 rfl ?_
          exact r_i dX11_beds_77 rfl ⟨by rw [if_neg c1, if_neg c2], rfl, hq⟩
        refine st_iload_n dX11_beds_39 rfl ?_
        refine st_iconst dX11_beds_40 ?_
        refine st_icmp_ne (tgt := 51) dX11_beds_41 (by omega) (by omega) rfl (fun h10 => ?_) (fun h10 => ?_)
        · refine st_aload_n dX11_beds_51 rfl ?_
          refine st_getfi dX11_beds_52 f_X11_562 (by first | with_reducible assumption | rfl) (by rfl) ?_
          rw [e65]
          refine st_if_eq (tgt := 66) dX11_beds_55 (by omega) rfl (fun h11 => ?_) (fun h11 => ?_)
          · skip
            exact none' h10 (by omega)
          · refine st_aload_n dX11_beds_58 rfl ?_
            refine st_iload_n dX11_beds_59 rfl ?_
            refine c_V1p (d' := d - 1) dX11_beds_60 l_X11_408 k_X11_isPerson i_X11_isPerson (Or.inl ⟨_, _, _, _, _, (by first | with_reducible assumption | rfl), by rfl⟩) (by omega) (Nat.le_of_ble_eq_true rfl) (C_isPerson (by omega) hB hN1.2.1 hw) ?_
            refine b_ne (tgt := 71) dX11_beds_63 rfl (fun h12 => ?_) (fun h12 => ?_)
            · skip
              obtain ⟨q, rfl⟩ : ∃ q : Nat, what = q := ⟨what.toNat, by omega⟩
              refine st_aload_n dX11_beds_71 rfl ?_
              refine st_getfr dX11_beds_72 f_X11_143 (by first | with_reducible assumption | rfl) (by rfl) ?_
              refine st_iload_n dX11_beds_75 rfl ?_
              first | refine st_ialdK (k' := _) dX11_beds_76 (by first | with_reducible assumption | rfl) rfl (by omega) (hn := by first | decide | omega) ?_ | refine st_iald dX11_beds_76 (by first | with_reducible assumption | rfl) (by omega) (by omega) (hn := by first | decide | omega) ?_
              rw [e155 (by omega) q (by omega)]
              exact r_i dX11_beds_77 rfl ⟨by rw [if_neg h10, if_pos (by omega), Int.toNat_natCast], rfl, hq⟩
            · skip
              exact none' h10 (by omega)
        · refine st_aload_n dX11_beds_44 rfl ?_
          refine st_getfi dX11_beds_45 f_X11_562 (by first | with_reducible assumption | rfl) (by rfl) ?_
          refine st_goto (tgt := 77) dX11_beds_48 rfl ?_
          rw [e65]
          exact r_i dX11_beds_77 rfl ⟨by rw [if_pos h10], rfl, hq⟩
      · skip
        exact no (fun z => h9 (by omega))
theorem C_draws {G : q_G} {d : Nat} {M : q_Mem} {N : q_MemL} {x n : Int} (hx : M 113 8 = x) (hx0 : 0 ≤ x ∧ x < 2147483648) (hn : 0 < n ∧ n < 100) : AC0 G d m_X11_draws [.ref 112, I n] M N (CV (fun v M' N' => v = I (drw x / 65536 % n) ∧ N' = N ∧ M' = q_up M 113 8 (drw x))) := by
  have hr := drw_rng x
  refine AC.of (L0 := [_, _]) pn_X11 (Nat.le_of_ble_eq_true rfl) rfl ?_
  refine st_aload_n dX11_draws_0 rfl ?_
  refine st_getfr dX11_draws_1 f_X11_9 (by first | with_reducible assumption | rfl) (by rfl) ?_
  refine st_bipush dX11_draws_4 (by decide) ?_
  refine st_aload_n dX11_draws_6 rfl ?_
  refine st_getfr dX11_draws_7 f_X11_9 (by first | with_reducible assumption | rfl) (by rfl) ?_
  refine st_bipush dX11_draws_10 (by decide) ?_
  refine st_ialdK (k' := 8) dX11_draws_12 (by first | with_reducible assumption | rfl) rfl (by omega) (hn := by first | decide | omega) ?_
  rw [hx]
  refine st_i2lK dX11_draws_13 (by omega) ?_
  refine st_ldc2 dX11_draws_14 l_X11_607 ?_
  refine AW.topv (show _ = J 1103515245 from rfl) ?_
  refine st_lmulJ dX11_draws_17 ?_
  refine st_ldc2 dX11_draws_18 l_X11_609 ?_
  refine AW.topv (show _ = J 12345 from rfl) ?_
  refine st_laddJ dX11_draws_21 ?_
  refine st_ldc2 dX11_draws_22 l_X11_611 ?_
  refine AW.topv (show _ = J 2147483648 from rfl) ?_
  refine st_lremJ dX11_draws_25 (by omega) (by omega) ?_
  rw [show (x * 1103515245 + 12345) % 2147483648 = drw x from rfl]
  refine st_l2iJ dX11_draws_26 ?_
  refine st_iastK (k' := 8) dX11_draws_27 (by first | with_reducible assumption | rfl) rfl (by omega) (hn := by first | decide | omega) ?_
  refine st_aload_n dX11_draws_28 rfl ?_
  refine st_getfr dX11_draws_29 f_X11_9 (by first | with_reducible assumption | rfl) (by rfl) ?_
  refine st_bipush dX11_draws_32 (by decide) ?_
  refine st_ialdK (k' := 8) dX11_draws_34 (by first | with_reducible assumption | rfl) rfl (by omega) (hn := by first | decide | omega) ?_
  have e8 : q_up M 113 8 (drw x) 113 8 = drw x := by simp [q_up]
  rw [e8]
  have hdv : 0 ≤ drw x / 65536 ∧ drw x / 65536 < 2147483648 := by omega
  refine st_ldcw dX11_draws_35 l_X11_613 ?_
  refine st_idivK dX11_draws_38 (by omega) (by omega) ?_
  refine st_iload_n dX11_draws_39 rfl ?_
  refine st_iremK dX11_draws_40 (by omega) (by omega) ?_
  exact r_i dX11_draws_41 rfl ⟨rfl, rfl, rfl⟩
/-- k beats of sneezes on from now, by draws from x on -/
def RZ (B M : q_Mem) (x : Int) (k : Nat) : Prop := RS B M (snw B x k) (B 3 11 + k) ∧ M 113 8 = drs x k
abbrev dwX : List Nat := [113, 116, 120, 143, 144, 164]
theorem C_drawnBeats {G : q_G} {d : Nat} {B M : q_Mem} {N : q_MemL} {x : Int} {n : Nat} (hd : 3 ≤ d) (hB : NowOk B) (htl : B 3 0 = 1) (hx : 0 ≤ x ∧ x < 2147483648) (hn : n ≤ 60) (hZ : RZ B M x 0) : AC0 G d m_X11_drawnBeats [.ref 112, I n] M N (CV (fun v M' N' => v = I (snr B x n) ∧ N' = N ∧ Exc dwX M M' ∧ (∀ j, ¬ j = 6 → ¬ j = 8 → M' 113 j = M 113 j) ∧ RZ B M' x n)) := by
  obtain ⟨h0, h1, h2, h3, h4, h5, h6, h11, h12, h13, h15, h17, h18, hbg, hc, hw, hv, -⟩ := id hB
  have hdr := drs_rng hx
  refine AC.of (L0 := [_, _, none, none, none, none]) pn_X11 (Nat.le_of_ble_eq_true rfl) rfl ?_
  refine st_iconst dX11_drawnBeats_0 ?_
  refine st_istore_n (L' := [_, _, _, _, _, _]) dX11_drawnBeats_1 (by decide) rfl rfl ?_
  refine st_iconst dX11_drawnBeats_2 ?_
  refine st_istore_n (L' := [_, _, _, _, _, _]) dX11_drawnBeats_3 (by decide) rfl rfl ?_
  have outl : ∀ (m k : Nat) (M1 : q_Mem) (l4 l5 : Option Value), k + m = n → Exc dwX M M1 → (∀ j, ¬ j = 6 → ¬ j = 8 → M1 113 j = M 113 j) → RZ B M1 x k → AW0 G d m_X11_drawnBeats 4 [some (.ref 112), some (I n), some (I (snr B x k)), some (I k), l4, l5] [] M1 N (CV (fun v M' N' => v = I (snr B x n) ∧ N' = N ∧ Exc dwX M M' ∧ (∀ j, ¬ j = 6 → ¬ j = 8 → M' 113 j = M 113 j) ∧ RZ B M' x n)) := by
    intro m
    induction m with
    | zero =>
      intro k M1 l4 l5 hk hE hj hZ
      have hkn : k = n := by omega
      subst hkn
      refine st_iload_n dX11_drawnBeats_4 rfl ?_
      refine st_iload_n dX11_drawnBeats_5 rfl ?_
      refine st_icmp_ge (tgt := 113) dX11_drawnBeats_6 (by omega) (by omega) rfl (fun h => ?_) (fun h => ?_)
      · refine st_iload_n dX11_drawnBeats_113 rfl ?_
        exact r_i dX11_drawnBeats_114 rfl ⟨rfl, rfl, hE, hj, hZ⟩
      · skip
        omega
    | succ m ih =>
      intro k M1 l4 l5 hk hE hj hZ
      have hdk := hdr (k + 1)
      have hnr := snw_rng (x := x) h3 h12 k
      have hnr1 := snw_rng (x := x) h3 h12 (k + 1)
      refine st_iload_n dX11_drawnBeats_4 rfl ?_
      refine st_iload_n dX11_drawnBeats_5 rfl ?_
      refine st_icmp_ge (tgt := 113) dX11_drawnBeats_6 (by omega) (by omega) rfl (fun h => ?_) (fun h => ?_)
      · skip
        omega
      · refine st_aload_n dX11_drawnBeats_9 rfl ?_
        refine st_getfr dX11_drawnBeats_10 f_X11_19 (by first | with_reducible assumption | rfl) (by rfl) ?_
        refine st_aload_n dX11_drawnBeats_13 rfl ?_
        refine st_getfr dX11_drawnBeats_14 f_X11_170 (by first | with_reducible assumption | rfl) (by rfl) ?_
        refine c_S2v (d' := d - 1) dX11_drawnBeats_17 l_X11_353 k_X11_copies s_X11_copies (by omega) (Nat.le_of_ble_eq_true rfl) (C_copies sh_116 sh_164 (by decide) (by decide) (by decide)) (fun M2 N2 hx2 => ?_)
        obtain ⟨rfl, r2⟩ := hx2
        have hE2 : Exc [164] M1 M2 := by
          rw [r2]
          intro a ha
          simp only [List.mem_cons, List.not_mem_nil, or_false, not_or] at ha
          funext j
          simp [q_cp, ha]
        have was : ∀ q, q < (B 3 4).toNat → M2 164 q = g8 (snw B x k) q := by
          intro q hq
          rw [r2, ← hZ.1.2.2.1.1 q hq]
          simp [q_cp, show q < 7 by omega]
        have hS2 : RS B M2 (snw B x k) (B 3 11 + k) := hZ.1.exc hE2 (by decide)
        refine st_aload_n dX11_drawnBeats_20 rfl ?_
        refine c_V0v (d' := d - 1) dX11_drawnBeats_21 l_X11_412 k_X11_laysNow i_X11_laysNow (Or.inl ⟨_, _, _, _, _, (by first | with_reducible assumption | rfl), by rfl⟩) (by omega) (Nat.le_of_ble_eq_true rfl) (C_laysNow (by omega) hB hS2.1 hS2.2.2.2 (by omega) htl) (fun M3 N3 hx3 => ?_)
        obtain ⟨rfl, hE3, hv3, -⟩ := hx3
        have hS3 := hS2.exc hE3 (by decide)
        have e83 : M3 113 8 = drs x k := by rw [hE3 113 (by decide), hE2 113 (by decide)]; exact hZ.2
        have was3 : ∀ q, q < (B 3 4).toNat → M3 164 q = g8 (snw B x k) q := fun q hq => by rw [hE3 164 (by decide)]; exact was q hq
        refine st_aload_n dX11_drawnBeats_24 rfl ?_
        refine st_aload_n dX11_drawnBeats_25 rfl ?_
        refine st_getfr dX11_drawnBeats_26 f_X11_9 (by first | with_reducible assumption | rfl) (by rfl) ?_
        refine st_iconst dX11_drawnBeats_29 ?_
        refine st_ialdK (k' := 3) dX11_drawnBeats_30 (by first | with_reducible assumption | rfl) rfl (by omega) (hn := by first | decide | omega) ?_
        rw [hS3.1.1.2.2.2.1]
        refine st_iconst dX11_drawnBeats_31 ?_
        refine st_iadd dX11_drawnBeats_32 ?_
        refine c_V1i (d' := d - 1) dX11_drawnBeats_33 l_X11_614 k_X11_draws i_X11_draws (Or.inl ⟨_, _, _, _, _, (by first | with_reducible assumption | rfl), by rfl⟩) (by omega) (Nat.le_of_ble_eq_true rfl) (C_draws e83 (hdr k) (by omega)) (fun v4 M4 N4 hx4 => ?_)
        obtain ⟨rfl, rfl, r4⟩ := hx4
        rw [show drw (drs x k) = drs x (k + 1) from rfl] at r4 ⊢
        have hS4 : RS B M4 (snw B x k) (B 3 11 + k) := by
          have hE4 : Exc [113] M3 M4 := r4 ▸ Exc.up (by decide)
          have hj4 : ∀ j, ¬ j = 8 → M4 113 j = M3 113 j := fun j hj => by rw [r4]; simp [q_up, hj]
          exact ⟨hS3.1.exc hE4 (fun j _ h8 => hj4 j h8) (by decide), hS3.2.1.exc hE4 (by decide) (by decide), hS3.2.2.1.exc hE4 (by decide) (by decide), by rw [hj4 6 (by decide)]; exact hS3.2.2.2⟩
        have e84 : M4 113 8 = drs x (k + 1) := by rw [r4]; simp [q_up]
        have hw4 : 0 ≤ drs x (k + 1) / 65536 % (B 3 4 + 1) ∧ drs x (k + 1) / 65536 % (B 3 4 + 1) < B 3 4 + 1 := ⟨Int.emod_nonneg _ (by omega), Int.emod_lt_of_pos _ (by omega)⟩
        have hmx : max 1 (B 3 4 + 1) = B 3 4 + 1 := by omega
        generalize hwho : drs x (k + 1) / 65536 % (B 3 4 + 1) = who at hw4
        have hE4 : Exc dwX M1 M4 := ((hE2.sub (by decide)).tr (hE3.sub (by decide))).tr (r4 ▸ Exc.up (by decide))
        have hj4 : ∀ j, ¬ j = 6 → ¬ j = 8 → M4 113 j = M1 113 j := fun j _ j8 => by rw [r4, show q_up M3 113 8 (drs x (k + 1)) 113 j = M3 113 j by simp [q_up, j8], hE3 113 (by decide), hE2 113 (by decide)]
        have was4 : ∀ q, q < (B 3 4).toNat → M4 164 q = g8 (snw B x k) q := fun q hq => by rw [r4, q_up_ne (by decide)]; exact was3 q hq
        have hv4 : ∀ q, q < (B 3 4).toNat → M4 143 q = toldV B 3 (B 3 11 + k) 0 q := fun q hq => by rw [r4, q_up_ne (by decide)]; exact hv3 q hq
        -- with what is sung then
        have bt : ∀ (M5 : q_Mem), Exc dwX M1 M5 → (∀ j, ¬ j = 6 → ¬ j = 8 → M5 113 j = M1 113 j) → RS B M5 (snw B x k) (B 3 11 + k) → M5 113 8 = drs x (k + 1) → (∀ q, q < (B 3 4).toNat → M5 164 q = g8 (snw B x k) q) → (∀ q, q < (B 3 4).toNat → M5 143 q = snzV B (B 3 11 + k) (drs x (k + 1)) q) → AW0 G d m_X11_drawnBeats 58 [some (.ref 112), some (I n), some (I (snr B x k)), some (I k), some (I who), l5] [] M5 N4 (CV (fun v M' N' => v = I (snr B x n) ∧ N' = N4 ∧ Exc dwX M M' ∧ (∀ j, ¬ j = 6 → ¬ j = 8 → M' 113 j = M 113 j) ∧ RZ B M' x n)) := by
          intro M5 c1 c2 c3 c4 c5 c6
          refine st_aload_n dX11_drawnBeats_58 rfl ?_
          refine c_V0v (d' := d - 1) dX11_drawnBeats_59 l_X11_453 k_X11_beats i_X11_beats (Or.inl ⟨_, _, _, _, _, (by first | with_reducible assumption | rfl), by rfl⟩) (by omega) (Nat.le_of_ble_eq_true rfl) (C_rBeats (by omega) hB c3 (fun q hq => by rw [c6 q hq]; exact snzV_rng hv q)) (fun M6 N6 hx6 => ?_)
          obtain ⟨rfl, hE6, hj6, -, -, hS6⟩ := hx6
          rw [nxt_congr (v' := snzV B (B 3 11 + k) (drs x (k + 1))) rfl rfl rfl c6, show nxt B 3 (snw B x k) (snzV B (B 3 11 + k) (drs x (k + 1))) = snw B x (k + 1) from rfl] at hS6
          have hZ6 : RZ B M6 x (k + 1) := ⟨⟨hS6.1, hS6.2.1, hS6.2.2.1, by rw [hS6.2.2.2]; omega⟩, by rw [hj6 8 (by decide)]; exact c4⟩
          have was6 : ∀ q, q < (B 3 4).toNat → M6 164 q = g8 (snw B x k) q := fun q hq => by rw [hE6 164 (by decide)]; exact c5 q hq
          refine st_iconst dX11_drawnBeats_62 ?_
          refine st_istore (L' := [_, _, _, _, _, _]) dX11_drawnBeats_63 (by decide) rfl rfl ?_
          have inn : ∀ (p o : Nat), o + p = (B 3 4).toNat → AW0 G d m_X11_drawnBeats 65 [some (.ref 112), some (I n), some (I (snr B x k + cnt (fun q => g8 (snw B x k) q < g8 (snw B x (k + 1)) q) o)), some (I k), some (I who), some (I o)] [] M6 N6 (CV (fun v M' N' => v = I (snr B x n) ∧ N' = N6 ∧ Exc dwX M M' ∧ (∀ j, ¬ j = 6 → ¬ j = 8 → M' 113 j = M 113 j) ∧ RZ B M' x n)) := by
            intro p
            induction p with
            | zero =>
              intro o ho
              refine st_iload dX11_drawnBeats_65 rfl ?_
              refine st_aload_n dX11_drawnBeats_67 rfl ?_
              refine st_getfr dX11_drawnBeats_68 f_X11_9 (by first | with_reducible assumption | rfl) (by rfl) ?_
              refine st_iconst dX11_drawnBeats_71 ?_
              refine st_ialdK (k' := 3) dX11_drawnBeats_72 (by first | with_reducible assumption | rfl) rfl (by omega) (hn := by first | decide | omega) ?_
              rw [hZ6.1.1.1.2.2.2.1]
              refine st_icmp_ge (tgt := 107) dX11_drawnBeats_73 (by omega) (by omega) rfl (fun h9 => ?_) (fun h9 => ?_)
              · refine st_iinc (L' := [_, _, _, _, _, _]) dX11_drawnBeats_107 rfl (by decide) rfl rfl ?_
                refine st_goto (tgt := 4) dX11_drawnBeats_110 rfl ?_
                refine AW.to (ih (k + 1) M6 (some (I who)) (some (I o)) (by omega) ((hE.tr c1).tr (hE6.sub (by decide))) (fun j j6 j8 => by rw [hj6 j j6, c2 j j6 j8]; exact hj j j6 j8) hZ6) (h2 := ?_)
                rw [show snr B x (k + 1) = snr B x k + cnt (fun q => g8 (snw B x k) q < g8 (snw B x (k + 1)) q) (B 3 4).toNat from rfl, show o = (B 3 4).toNat by omega]
                simp
              · skip
                omega
            | succ p ihp =>
              intro o ho
              have ga := g8_lt (snw B x k) o
              have gb := g8_lt (snw B x (k + 1)) o
              refine st_iload dX11_drawnBeats_65 rfl ?_
              refine st_aload_n dX11_drawnBeats_67 rfl ?_
              refine st_getfr dX11_drawnBeats_68 f_X11_9 (by first | with_reducible assumption | rfl) (by rfl) ?_
              refine st_iconst dX11_drawnBeats_71 ?_
              refine st_ialdK (k' := 3) dX11_drawnBeats_72 (by first | with_reducible assumption | rfl) rfl (by omega) (hn := by first | decide | omega) ?_
              rw [hZ6.1.1.1.2.2.2.1]
              refine st_icmp_ge (tgt := 107) dX11_drawnBeats_73 (by omega) (by omega) rfl (fun h9 => ?_) (fun h9 => ?_)
              · skip
                omega
              · refine st_iload_n dX11_drawnBeats_76 rfl ?_
                refine st_aload_n dX11_drawnBeats_77 rfl ?_
                refine st_getfr dX11_drawnBeats_78 f_X11_19 (by first | with_reducible assumption | rfl) (by rfl) ?_
                refine st_iload dX11_drawnBeats_81 rfl ?_
                first | refine st_ialdK (k' := _) dX11_drawnBeats_83 (by first | with_reducible assumption | rfl) rfl (by omega) (hn := by first | decide | omega) ?_ | refine st_iald dX11_drawnBeats_83 (by first | with_reducible assumption | rfl) (by omega) (by omega) (hn := by first | decide | omega) ?_
                rw [hZ6.1.2.2.1.1 o (by omega)]
                refine st_aload_n dX11_drawnBeats_84 rfl ?_
                refine st_getfr dX11_drawnBeats_85 f_X11_170 (by first | with_reducible assumption | rfl) (by rfl) ?_
                refine st_iload dX11_drawnBeats_88 rfl ?_
                first | refine st_ialdK (k' := _) dX11_drawnBeats_90 (by first | with_reducible assumption | rfl) rfl (by omega) (hn := by first | decide | omega) ?_ | refine st_iald dX11_drawnBeats_90 (by first | with_reducible assumption | rfl) (by omega) (by omega) (hn := by first | decide | omega) ?_
                rw [was6 o (by omega)]
                refine st_icmp_le (tgt := 98) dX11_drawnBeats_91 (by omega) (by omega) rfl (fun h10 => ?_) (fun h10 => ?_)
                · refine st_iconst dX11_drawnBeats_98 ?_
                  refine st_iadd dX11_drawnBeats_99 ?_
                  refine st_istore_n (L' := [_, _, _, _, _, _]) dX11_drawnBeats_100 (by decide) rfl rfl ?_
                  refine st_iinc (L' := [_, _, _, _, _, _]) dX11_drawnBeats_101 rfl (by decide) rfl rfl ?_
                  refine st_goto (tgt := 65) dX11_drawnBeats_104 rfl ?_
                  exact AW.to (ihp (o + 1) (by omega)) (h2 := by rw [cnt_succ, if_neg (by omega)]; simp)
                · refine st_iconst dX11_drawnBeats_94 ?_
                  refine st_goto (tgt := 99) dX11_drawnBeats_95 rfl ?_
                  refine st_iadd dX11_drawnBeats_99 ?_
                  refine st_istore_n (L' := [_, _, _, _, _, _]) dX11_drawnBeats_100 (by decide) rfl rfl ?_
                  refine st_iinc (L' := [_, _, _, _, _, _]) dX11_drawnBeats_101 rfl (by decide) rfl rfl ?_
                  refine st_goto (tgt := 65) dX11_drawnBeats_104 rfl ?_
                  exact AW.to (ihp (o + 1) (by omega)) (h2 := by rw [cnt_succ, if_pos (by omega)]; simp [Int.add_assoc])
          exact AW.to (inn _ 0 (Nat.zero_add _)) (h2 := by rw [show cnt (fun q => g8 (snw B x k) q < g8 (snw B x (k + 1)) q) 0 = 0 from rfl]; simp)
        refine st_istore (L' := [_, _, _, _, _, _]) dX11_drawnBeats_36 (by decide) rfl rfl ?_
        refine st_iload dX11_drawnBeats_38 rfl ?_
        refine st_aload_n dX11_drawnBeats_40 rfl ?_
        refine st_getfr dX11_drawnBeats_41 f_X11_9 (by first | with_reducible assumption | rfl) (by rfl) ?_
        refine st_iconst dX11_drawnBeats_44 ?_
        refine st_ialdK (k' := 3) dX11_drawnBeats_45 (by first | with_reducible assumption | rfl) rfl (by omega) (hn := by first | decide | omega) ?_
        rw [hS4.1.1.2.2.2.1]
        refine st_icmp_ge (tgt := 58) dX11_drawnBeats_46 (by omega) (by omega) rfl (fun h9 => ?_) (fun h9 => ?_)
        · skip
          refine bt M4 hE4 hj4 hS4 e84 was4 (fun q hq => ?_)
          rw [hv4 q hq]
          unfold snzV
          rw [hmx, hwho, if_neg (by omega)]
        · refine st_aload_n dX11_drawnBeats_49 rfl ?_
          refine st_getfr dX11_drawnBeats_50 f_X11_107 (by first | with_reducible assumption | rfl) (by rfl) ?_
          refine st_iload dX11_drawnBeats_53 rfl ?_
          refine st_bipush dX11_drawnBeats_55 (by decide) ?_
          refine st_iast dX11_drawnBeats_57 sh_143 (by omega) (by omega) ?_
          refine bt (q_up M4 143 who.toNat 30) (hE4.tr (Exc.up (by decide))) (fun j j6 j8 => by rw [q_up_ne (by decide)]; exact hj4 j j6 j8) (hS4.exc (X := [143]) (Exc.up (by decide)) (by decide)) (by rw [q_up_ne (by decide)]; exact e84) (fun q hq => by rw [q_up_ne (by decide)]; exact was4 q hq) (fun q hq => ?_)
          unfold snzV
          rw [hmx, hwho]
          by_cases e : (q : Int) = who
          · rw [if_pos e]
            simp [q_up, show q = who.toNat by omega]
          · rw [if_neg e, ← hv4 q hq]
            simp [q_up, show ¬ q = who.toNat by omega]
  exact AW.to (outl n 0 M none none (Nat.zero_add _) Exc.rf (fun j _ _ => rfl) hZ)
theorem C_onTopR {G : q_G} {d : Nat} {B M : q_Mem} {N : q_MemL} {w b : Int} (hB : NowOk B) (htl : B 3 0 = 1) (hS : RS B M w b) : AC0 G d m_X11_onTop [.ref 112] M N (CV (PU (I (cnt (fun q => g8 w q = B 3 3 - 1) (B 3 4).toNat)) M N)) := by
  obtain ⟨h0, h1, h2, h3, h4, h5, h6, h11, h12, h13, h15, h17, h18, hbg, hc, hw, hv, hp, he, ht1, ht0⟩ := id hB
  have hto := ht1 htl
  refine AC.of (L0 := [_, none, none]) pn_X11 (Nat.le_of_ble_eq_true rfl) rfl ?_
  refine st_iconst dX11_onTop_0 ?_
  refine st_istore_n (L' := [_, _, _]) dX11_onTop_1 (by decide) rfl rfl ?_
  refine st_iconst dX11_onTop_2 ?_
  refine st_istore_n (L' := [_, _, _]) dX11_onTop_3 (by decide) rfl rfl ?_
  have loop : ∀ (p o : Nat), o + p = (B 3 4).toNat → AW0 G d m_X11_onTop 4 [some (.ref 112), some (I (cnt (fun q => g8 w q = B 3 3 - 1) o)), some (I o)] [] M N (CV (PU (I (cnt (fun q => g8 w q = B 3 3 - 1) (B 3 4).toNat)) M N)) := by
    intro p
    induction p with
    | zero =>
      intro o ho
      refine st_iload_n dX11_onTop_4 rfl ?_
      refine st_aload_n dX11_onTop_5 rfl ?_
      refine st_getfr dX11_onTop_6 f_X11_9 (by first | with_reducible assumption | rfl) (by rfl) ?_
      refine st_iconst dX11_onTop_9 ?_
      refine st_ialdK (k' := 3) dX11_onTop_10 (by first | with_reducible assumption | rfl) rfl (by omega) (hn := by first | decide | omega) ?_
      rw [hS.1.1.2.2.2.1]
      refine st_icmp_ge (tgt := 43) dX11_onTop_11 (by omega) (by omega) rfl (fun h9 => ?_) (fun h9 => ?_)
      · refine st_iload_n dX11_onTop_43 rfl ?_
        exact r_i dX11_onTop_44 rfl ⟨by rw [show o = (B 3 4).toNat by omega], rfl, rfl⟩
      · skip
        omega
    | succ p ih =>
      intro o ho
      have g := g8_lt w o
      refine st_iload_n dX11_onTop_4 rfl ?_
      refine st_aload_n dX11_onTop_5 rfl ?_
      refine st_getfr dX11_onTop_6 f_X11_9 (by first | with_reducible assumption | rfl) (by rfl) ?_
      refine st_iconst dX11_onTop_9 ?_
      refine st_ialdK (k' := 3) dX11_onTop_10 (by first | with_reducible assumption | rfl) rfl (by omega) (hn := by first | decide | omega) ?_
      rw [hS.1.1.2.2.2.1]
      refine st_icmp_ge (tgt := 43) dX11_onTop_11 (by omega) (by omega) rfl (fun h9 => ?_) (fun h9 => ?_)
      · skip
        omega
      · refine st_iload_n dX11_onTop_14 rfl ?_
        refine st_aload_n dX11_onTop_15 rfl ?_
        refine st_getfr dX11_onTop_16 f_X11_19 (by first | with_reducible assumption | rfl) (by rfl) ?_
        refine st_iload_n dX11_onTop_19 rfl ?_
        first | refine st_ialdK (k' := _) dX11_onTop_20 (by first | with_reducible assumption | rfl) rfl (by omega) (hn := by first | decide | omega) ?_ | refine st_iald dX11_onTop_20 (by first | with_reducible assumption | rfl) (by omega) (by omega) (hn := by first | decide | omega) ?_
        rw [hS.2.2.1.1 o (by omega)]
        refine st_aload_n dX11_onTop_21 rfl ?_
        refine st_getfr dX11_onTop_22 f_X11_9 (by first | with_reducible assumption | rfl) (by rfl) ?_
        refine st_iconst dX11_onTop_25 ?_
        refine st_ialdK (k' := 2) dX11_onTop_26 (by first | with_reducible assumption | rfl) rfl (by omega) (hn := by first | decide | omega) ?_
        rw [hS.1.1.2.2.1, show max 0 (B 3 3 - 1) = B 3 3 - 1 by omega]
        refine st_icmp_ne (tgt := 34) dX11_onTop_27 (by omega) (by omega) rfl (fun h10 => ?_) (fun h10 => ?_)
        · refine st_iconst dX11_onTop_34 ?_
          refine st_iadd dX11_onTop_35 ?_
          refine st_istore_n (L' := [_, _, _]) dX11_onTop_36 (by decide) rfl rfl ?_
          refine st_iinc (L' := [_, _, _]) dX11_onTop_37 rfl (by decide) rfl rfl ?_
          refine st_goto (tgt := 4) dX11_onTop_40 rfl ?_
          exact AW.to (ih (o + 1) (by omega)) (h2 := by rw [cnt_succ, if_neg (by omega)]; simp)
        · refine st_iconst dX11_onTop_30 ?_
          refine st_goto (tgt := 35) dX11_onTop_31 rfl ?_
          refine st_iadd dX11_onTop_35 ?_
          refine st_istore_n (L' := [_, _, _]) dX11_onTop_36 (by decide) rfl rfl ?_
          refine st_iinc (L' := [_, _, _]) dX11_onTop_37 rfl (by decide) rfl rfl ?_
          refine st_goto (tgt := 4) dX11_onTop_40 rfl ?_
          exact AW.to (ih (o + 1) (by omega)) (h2 := by rw [cnt_succ, if_pos (by omega)]; simp)
  exact loop _ 0 (Nat.zero_add _)
/-- the state lies in the last image, and is as it was -/
def KI (M M1 : q_Mem) : Prop := Qk M M1 ∧ ∀ j, 6000 ≤ j → j < 7373 → M1 165 j = linO M (j - 6000)
theorem FwI.ki {M M1 : q_Mem} (h : FwI M M1 6000 1373) : KI M M1 := by
  obtain ⟨a1, a2, a3, a4, a5⟩ := h
  refine ⟨⟨a1.sub (by decide), fun a j hj => ?_, fun j hj => ?_, fun j hj => by rw [a5, if_neg (by omega)]⟩, fun j h1 h2 => by rw [a5, if_pos (by omega)]⟩
  · rw [a1 a]
    intro z
    simp only [List.mem_cons, List.not_mem_nil, or_false] at z
    rcases z with z | z | z
    all_goals (rw [z] at hj; exact absurd (show j < 0 from hj) (by omega))
  · simp only [List.mem_cons, List.not_mem_nil, or_false] at hj
    exact a2 j (by omega) (by omega)
theorem KI.back {X : List Nat} {M M1 M2 M3 : q_Mem} (h1 : KI M M1) (h2 : Exc X M1 M2) (h3 : BwI M2 M3 6000 1373) (hX : ∀ a, a ∈ X → a ∈ qX) (h165 : 165 ∉ X) (h112 : ∀ j, j ∈ [20, 24, 29] → M2 112 j = M1 112 j) : KI M M3 := by
  obtain ⟨⟨a1, a2, a3, a4⟩, a5⟩ := h1
  have b1 := h3.exc
  obtain ⟨b2, b3, b4, b5, b6⟩ := h3
  have e165 : M2 165 = M1 165 := h2 165 h165
  refine ⟨⟨fun a ha => ?_, fun a j hj => ?_, fun j hj => ?_, fun j hj => ?_⟩, fun j c1 c2 => by rw [b1 165 (by decide), e165]; exact a5 j c1 c2⟩
  · rw [b1 a (fun z => ha ?_), h2 a (fun z => ha (hX a z)), a1 a ha]
    simp only [qX, List.mem_cons, List.not_mem_nil, or_false] at z ⊢
    omega
  · have hlen : (ofR a).1 + (ofR a).2 ≤ 1373 ∧ ¬ a = 112 ∧ ¬ a = 146 := by
      rcases ofR_cs a with ⟨q, e⟩ | ⟨q, e⟩ | ⟨q, e⟩ | ⟨q, e⟩ | ⟨q, e⟩ | ⟨q, e⟩ | ⟨q, e⟩ | ⟨q, e⟩ | ⟨q, e⟩ | ⟨q, e⟩ | ⟨q, e⟩ | ⟨q, e⟩ | ⟨q, e⟩ | e
      all_goals rw [e] at hj ⊢
      all_goals first | (simp only at hj ⊢; omega) | exact absurd hj (by simp)
    rw [b6 a hlen.2.1 hlen.2.2 j, if_pos ⟨hlen.1, hj⟩, e165, a5 _ (by omega) (by omega), show 6000 + (ofR a).1 + j - 6000 = (ofR a).1 + j by omega]
    exact linO_row M hj
  · simp only [List.mem_cons, List.not_mem_nil, or_false] at hj
    by_cases e : j = 45
    · rw [e, b5 (by omega), e165, a5 _ (by omega) (by omega)]
      rfl
    · rw [b4 j (by omega) (by omega) e, h112 j (by simp; omega)]
      exact a3 j (by simp; omega)
  · rw [b1 165 (by decide), e165]
    exact a4 j hj
theorem C_rdrawn {G : q_G} {d : Nat} {B M : q_Mem} {N : q_MemL} {m n what : Int} (hd : 5 ≤ d) (hN : RN B M) (h8 : M 113 8 = B 3 18) (hm : i32 m) (hn : i32 n) (hw : i32 what) : AC0 G d m_X11_drawn [.ref 112, I m, I n, I what] M N (CV (fun v M' N' => v = I (A_drawn B m n what) ∧ N' = N ∧ Qk M M')) := by
  obtain ⟨hB, hT, hP, hW, hb6⟩ := id hN
  obtain ⟨h0, h1, h2, h3, h4, h5, h6, h11, h12, h13, h15, h17, h18, -⟩ := id hB
  have hmm := hm
  have hnn := hn
  have hww := hw
  unfold i32 at hmm hnn hww
  have no : ¬ (B 3 0 = 1 ∧ (1 ≤ m ∧ m ≤ 20) ∧ (1 ≤ n ∧ n ≤ 60) ∧ 0 ≤ what ∧ what ≤ 1) → AW0 G d m_X11_drawn 41 [some (.ref 112), some (I m), some (I n), some (I what), none, none, none, none, none] [] M N (CV (fun v M' N' => v = I (A_drawn B m n what) ∧ N' = N ∧ Qk M M')) := by
    intro h
    refine st_iconst dX11_drawn_41 ?_
    exact r_i dX11_drawn_42 rfl ⟨by rw [A_drawn, if_neg h], rfl, Qk.rf⟩
  refine AC.of (L0 := [_, _, _, _, none, none, none, none, none]) pn_X11 (Nat.le_of_ble_eq_true rfl) rfl ?_
  refine st_aload_n dX11_drawn_0 rfl ?_
  refine c_V0p (d' := d - 1) dX11_drawn_1 l_X11_186 k_X11_isHouse i_X11_isHouse (Or.inl ⟨_, _, _, _, _, (by first | with_reducible assumption | rfl), by rfl⟩) (by omega) (Nat.le_of_ble_eq_true rfl) (C_isHouse hB hT) ?_
  refine b_eq (tgt := 41) dX11_drawn_4 rfl (fun c7 => ?_) (fun c7 => ?_)
  · skip
    exact no (fun z => c7 z.1)
  · refine st_iload_n dX11_drawn_7 rfl ?_
    refine st_i2lK dX11_drawn_8 (by omega) ?_
    refine st_lc1K dX11_drawn_9 ?_
    refine st_ldc2 dX11_drawn_10 l_X11_617 ?_
    refine AW.topv (show _ = J 20 from rfl) ?_
    refine c_S3p (d' := d - 1) dX11_drawn_13 l_X11_182 k_X11_in s_X11_in (by omega) (Nat.le_of_ble_eq_true rfl) (C_in (by omega) (by omega) (by omega)) ?_
    refine b_eq (tgt := 41) dX11_drawn_16 rfl (fun c8 => ?_) (fun c8 => ?_)
    · skip
      exact no (fun z => c8 z.2.1)
    · refine st_iload_n dX11_drawn_19 rfl ?_
      refine st_i2lK dX11_drawn_20 (by omega) ?_
      refine st_lc1K dX11_drawn_21 ?_
      refine st_ldc2 dX11_drawn_22 l_X11_619 ?_
      refine AW.topv (show _ = J 60 from rfl) ?_
      refine c_S3p (d' := d - 1) dX11_drawn_25 l_X11_182 k_X11_in s_X11_in (by omega) (Nat.le_of_ble_eq_true rfl) (C_in (by omega) (by omega) (by omega)) ?_
      refine b_eq (tgt := 41) dX11_drawn_28 rfl (fun c9 => ?_) (fun c9 => ?_)
      · skip
        exact no (fun z => c9 z.2.2.1)
      · refine st_iload_n dX11_drawn_31 rfl ?_
        refine st_i2lK dX11_drawn_32 (by omega) ?_
        refine st_lc0K dX11_drawn_33 ?_
        refine st_lc1K dX11_drawn_34 ?_
        refine c_S3p (d' := d - 1) dX11_drawn_35 l_X11_182 k_X11_in s_X11_in (by omega) (Nat.le_of_ble_eq_true rfl) (C_in (by omega) (by omega) (by omega)) ?_
        refine b_ne (tgt := 43) dX11_drawn_38 rfl (fun c10 => ?_) (fun c10 => ?_)
        · refine st_aload_n dX11_drawn_43 rfl ?_
          refine st_getfr dX11_drawn_44 f_X11_9 (by first | with_reducible assumption | rfl) (by rfl) ?_
          refine st_bipush dX11_drawn_47 (by decide) ?_
          refine st_ialdK (k' := 8) dX11_drawn_49 (by first | with_reducible assumption | rfl) rfl (by omega) (hn := by first | decide | omega) ?_
          rw [h8]
          rw [show A_drawn B m n what = A_sneezes B m.toNat n.toNat what from if_pos ⟨c7, c8, c9, c10⟩]
          obtain ⟨t, rfl⟩ : ∃ t : Nat, m = t := ⟨m.toNat, by omega⟩
          obtain ⟨b, rfl⟩ : ∃ b : Nat, n = b := ⟨n.toNat, by omega⟩
          rw [Int.toNat_natCast, Int.toNat_natCast]
          refine st_istore (L' := [_, _, _, _, _, _, _, _, _]) dX11_drawn_50 (by decide) rfl rfl ?_
          refine st_iload dX11_drawn_52 rfl ?_
          refine st_istore (L' := [_, _, _, _, _, _, _, _, _]) dX11_drawn_54 (by decide) rfl rfl ?_
          refine st_iconst dX11_drawn_56 ?_
          refine st_istore (L' := [_, _, _, _, _, _, _, _, _]) dX11_drawn_57 (by decide) rfl rfl ?_
          refine st_aload_n dX11_drawn_59 rfl ?_
          refine c_V0v (d' := d - 1) dX11_drawn_60 l_X11_485 k_X11_keepsAll i_X11_keepsAll (Or.inl ⟨_, _, _, _, _, (by first | with_reducible assumption | rfl), by rfl⟩) (by omega) (Nat.le_of_ble_eq_true rfl) (C_keepsAll (by omega)) (fun M1 N1 hx => ?_)
          obtain ⟨rfl, hF⟩ := hx
          have hK := hF.ki
          refine st_iconst dX11_drawn_63 ?_
          refine st_istore (L' := [_, _, _, _, _, _, _, _, _]) dX11_drawn_64 (by decide) rfl rfl ?_
          have hdr := drs_rng h18
          have loop : ∀ (p i : Nat) (M2 : q_Mem) (l8 : Option Value), i + p = t → KI M M2 → AW0 G d m_X11_drawn 66 [some (.ref 112), some (I t), some (I b), some (I what), some (I (B 3 18)), some (I (drs (B 3 18) (i * b))), some (I (A_sneezes B i b what)), some (I i), l8] [] M2 N1 (CV (fun v M' N' => v = I (A_sneezes B t b what) ∧ N' = N1 ∧ Qk M M')) := by
            intro p
            induction p with
            | zero =>
              intro i M2 l8 hi hK2
              refine st_iload dX11_drawn_66 rfl ?_
              refine st_iload_n dX11_drawn_68 rfl ?_
              refine st_icmp_ge (tgt := 125) dX11_drawn_69 (by omega) (by omega) rfl (fun h => ?_) (fun h => ?_)
              · refine st_aload_n dX11_drawn_125 rfl ?_
                refine st_getfr dX11_drawn_126 f_X11_9 (by first | with_reducible assumption | rfl) (by rfl) ?_
                refine st_bipush dX11_drawn_129 (by decide) ?_
                refine st_iload dX11_drawn_131 rfl ?_
                refine st_iastK (k' := 8) dX11_drawn_133 (by first | with_reducible assumption | rfl) rfl (by omega) (hn := by first | decide | omega) ?_
                refine st_iload dX11_drawn_134 rfl ?_
                have hq : Qk M2 (q_up M2 113 8 (B 3 18)) := by
                  refine ⟨Exc.up (by decide), fun a j hj => ?_, fun j _ => by rw [q_up_ne (by decide)], fun j _ => by rw [q_up_ne (by decide)]⟩
                  by_cases e : a = 113 ∧ j = 8
                  · obtain ⟨rfl, rfl⟩ := e
                    rw [hK2.1.2.1 113 8 (by decide), h8]
                    simp [q_up]
                  · simp [q_up, e]
                exact r_i dX11_drawn_136 rfl ⟨by rw [show i = t by omega], rfl, hK2.1.tr hq⟩
              · skip
                omega
            | succ p ih =>
              intro i M2 l8 hi hK2
              refine st_iload dX11_drawn_66 rfl ?_
              refine st_iload_n dX11_drawn_68 rfl ?_
              refine st_icmp_ge (tgt := 125) dX11_drawn_69 (by omega) (by omega) rfl (fun h => ?_) (fun h => ?_)
              · skip
                omega
              · refine st_aload_n dX11_drawn_72 rfl ?_
                refine st_getfr dX11_drawn_73 f_X11_9 (by first | with_reducible assumption | rfl) (by rfl) ?_
                refine st_bipush dX11_drawn_76 (by decide) ?_
                refine st_iload dX11_drawn_78 rfl ?_
                refine st_iastK (k' := 8) dX11_drawn_80 (by first | with_reducible assumption | rfl) rfl (by omega) (hn := by first | decide | omega) ?_
                have hN2 := hN.qk hK2.1.2.1
                have hZ : RZ B (q_up M2 113 8 (drs (B 3 18) (i * b))) (drs (B 3 18) (i * b)) 0 := by
                  have hE : Exc [113] M2 (q_up M2 113 8 (drs (B 3 18) (i * b))) := Exc.up (by decide)
                  refine ⟨⟨hN2.2.1.exc hE (fun j _ j8 => by simp [q_up, j8]) (by decide), hN2.2.2.1.exc hE (by decide) (by decide), hN2.2.2.2.1.exc hE (by decide) (by decide), ?_⟩, by simp [q_up]; rfl⟩
                  rw [show q_up M2 113 8 (drs (B 3 18) (i * b)) 113 6 = M2 113 6 by simp [q_up], hN2.2.2.2.2]
                  omega
                have hE3 : Exc [113] M2 (q_up M2 113 8 (drs (B 3 18) (i * b))) := Exc.up (by decide)
                generalize q_up M2 113 8 (drs (B 3 18) (i * b)) = M3 at hZ hE3
                refine st_aload_n dX11_drawn_81 rfl ?_
                refine st_iload_n dX11_drawn_82 rfl ?_
                refine c_V1i (d' := d - 1) dX11_drawn_83 l_X11_621 k_X11_drawnBeats i_X11_drawnBeats (Or.inl ⟨_, _, _, _, _, (by first | with_reducible assumption | rfl), by rfl⟩) (by omega) (Nat.le_of_ble_eq_true rfl) (C_drawnBeats (x := drs (B 3 18) (i * b)) (by omega) hB c7 (hdr _) (by omega) hZ) (fun v4 M4 N4 hx4 => ?_)
                obtain ⟨rfl, rfl, hE4, hj4, hZ4⟩ := hx4
                have hE5 : Exc dwX M2 M4 := (hE3.sub (by decide)).tr hE4
                have e8 : M4 113 8 = drs (B 3 18) ((i + 1) * b) := by rw [hZ4.2, drs_add, show i * b + b = (i + 1) * b by rw [Nat.add_mul, Nat.one_mul]]
                -- the sum, and back
                have tl : ∀ (z : Int) (l8 : Option Value), A_sneezes B i b what + z = A_sneezes B (i + 1) b what → AW0 G d m_X11_drawn 103 [some (.ref 112), some (I t), some (I b), some (I what), some (I (B 3 18)), some (I (drs (B 3 18) (i * b))), some (I (A_sneezes B i b what)), some (I i), l8] [I z, I (A_sneezes B i b what)] M4 N4 (CV (fun v M' N' => v = I (A_sneezes B t b what) ∧ N' = N4 ∧ Qk M M')) := by
                  intro z l8 hz
                  refine st_iadd dX11_drawn_103 ?_
                  refine st_istore (L' := [_, _, _, _, _, _, _, _, _]) dX11_drawn_104 (by decide) rfl rfl ?_
                  refine st_aload_n dX11_drawn_106 rfl ?_
                  refine st_getfr dX11_drawn_107 f_X11_9 (by first | with_reducible assumption | rfl) (by rfl) ?_
                  refine st_bipush dX11_drawn_110 (by decide) ?_
                  refine st_ialdK (k' := 8) dX11_drawn_112 (by first | with_reducible assumption | rfl) rfl (by omega) (hn := by first | decide | omega) ?_
                  rw [hz, e8]
                  refine st_istore (L' := [_, _, _, _, _, _, _, _, _]) dX11_drawn_113 (by decide) rfl rfl ?_
                  refine st_aload_n dX11_drawn_115 rfl ?_
                  refine c_V0v (d' := d - 1) dX11_drawn_116 l_X11_488 k_X11_laysBack i_X11_laysBack (Or.inl ⟨_, _, _, _, _, (by first | with_reducible assumption | rfl), by rfl⟩) (by omega) (Nat.le_of_ble_eq_true rfl) (C_laysBack (by omega)) (fun M6 N6 hx6 => ?_)
                  obtain ⟨rfl, hb⟩ := hx6
                  refine st_iinc (L' := [_, _, _, _, _, _, _, _, _]) dX11_drawn_119 rfl (by decide) rfl rfl ?_
                  refine st_goto (tgt := 66) dX11_drawn_122 rfl ?_
                  exact AW.to (ih (i + 1) M6 l8 (by omega) (hK2.back hE5 hb (by decide) (by decide) (fun j _ => by rw [hE5 112 (by decide)]))) (h2 := by simp)
                refine st_istore (L' := [_, _, _, _, _, _, _, _, _]) dX11_drawn_86 (by decide) rfl rfl ?_
                refine st_iload dX11_drawn_88 rfl ?_
                refine st_iload_n dX11_drawn_90 rfl ?_
                refine st_if_ne (tgt := 99) dX11_drawn_91 (by omega) rfl (fun h9 => ?_) (fun h9 => ?_)
                · refine st_aload_n dX11_drawn_99 rfl ?_
                  refine c_V0p (d' := d - 1) dX11_drawn_100 l_X11_624 k_X11_onTop i_X11_onTop (Or.inl ⟨_, _, _, _, _, (by first | with_reducible assumption | rfl), by rfl⟩) (by omega) (Nat.le_of_ble_eq_true rfl) (C_onTopR hB c7 hZ4.1) ?_
                  refine tl _ _ ?_
                  unfold A_sneezes
                  rw [if_neg h9, if_neg h9]
                  rfl
                · refine st_iload dX11_drawn_94 rfl ?_
                  refine st_goto (tgt := 103) dX11_drawn_96 rfl ?_
                  refine tl _ _ ?_
                  unfold A_sneezes
                  rw [if_pos h9, if_pos h9]
                  rfl
          exact AW.to (loop t 0 M1 none (Nat.zero_add _) hK) (h2 := by rw [Nat.zero_mul, show A_sneezes B 0 b what = 0 by unfold A_sneezes; split <;> rfl]; rfl)
        · skip
          exact no (fun z => c10 z.2.2.2)


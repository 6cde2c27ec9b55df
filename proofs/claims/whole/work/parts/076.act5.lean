/-! the reference: images, counts, seed -/
theorem FullR.home {B B1 V : q_Mem} (h : FullR B V) (e : ∀ a, 3 ≤ a → a < 10 → B1 a = B a) : FullR B1 V := by
  unfold FullR RN NowOk Hok RS RT RP RW PastOk HisR snapR at *
  simp only [show (3 + 1 : Nat) = 4 from rfl, show (3 + 2 : Nat) = 5 from rfl, show (3 + 3 : Nat) = 6 from rfl, show (3 + 4 : Nat) = 7 from rfl, show (3 + 5 : Nat) = 8 from rfl, show (3 + 6 : Nat) = 9 from rfl] at *
  rw [e 3 (by decide) (by decide), e 4 (by decide) (by decide), e 5 (by decide) (by decide), e 6 (by decide) (by decide), e 7 (by decide) (by decide), e 8 (by decide) (by decide), e 9 (by decide) (by decide)]
  exact h
theorem FullR.qk {B V V1 : q_Mem} (h : FullR B V) (hq : ∀ a j, j < (ofR a).2 → V1 a j = V a j) (h45 : V1 112 45 = V 112 45) : FullR B V1 := by
  obtain ⟨hN, e8, hz, hri, hpo, h45', vo, vo1, vo2, vo3⟩ := h
  have h15 := hN.1.2.2.2.2.2.2.2.2.2.2.1
  refine ⟨hN.qk hq, by rw [hq 113 8 (by decide)]; exact e8, hz, hri, hpo, by rw [h45]; exact h45', vo, vo1, vo2, fun k hk => ?_⟩
  have := (vo3 k hk).congr (V1 := V1) (p1 := 63 * k) hN.1 (fun i hi => hq 145 _ (by show _ < 1260; omega))
  exact this
/-- the home that lies at a, as the one that is now -/
def hB (M : q_Mem) (a : Nat) : q_Mem := fun r j => M (a + (r - 3)) j
/-- the state that an image holds, as the one that is now -/
def imV (V : q_Mem) (k : Nat) : q_Mem := fun r j => if r = 112 then V 165 (1500 * k) else V 165 (1500 * k + (ofR r).1 + j)
theorem FullR.rest {B V V1 : q_Mem} {X : List Nat} (h : FullR B V) (hE : Exc X V V1) (hX : ∀ a, a ∈ X → (ofR a).2 = 0) (h45 : V1 112 45 = V 112 45) : FullR B V1 := h.qk (fun a j hj => by
  rw [hE a]
  intro z
  rw [hX a z] at hj
  omega) h45
theorem C_rimage {G : q_G} {d : Nat} {B M : q_Mem} {N : q_MemL} {k : Int} (hd : 3 ≤ d) (hF : FullR B M) (hk : i32 k) : AC0 G d m_X11_image [.ref 112, I k] M N (CV (fun x M' N' => N' = N ∧ ((¬ (0 ≤ k ∧ k < 4) ∧ x = I (-1) ∧ M' = M) ∨ ((0 ≤ k ∧ k < 4) ∧ x = I (B 3 11) ∧ FwI (q_up M 166 k.toNat 1) M' (1500 * k.toNat) 1373 ∧ FullR B M')))) := by
  have hkk := hk
  unfold i32 at hkk
  have hb6 := hF.1.2.2.2.2
  refine AC.of (L0 := [_, _]) pn_X11 (Nat.le_of_ble_eq_true rfl) rfl ?_
  refine st_iload_n dX11_image_0 rfl ?_
  refine st_i2lK dX11_image_1 (by omega) ?_
  refine st_lc0K dX11_image_2 ?_
  refine st_ldc2 dX11_image_3 l_X11_523 ?_
  refine AW.topv (show _ = J 3 from rfl) ?_
  refine c_S3p (d' := d - 1) dX11_image_6 l_X11_182 k_X11_in s_X11_in (by omega) (Nat.le_of_ble_eq_true rfl) (C_in (by omega) (by decide) (by decide)) ?_
  refine b_ne (tgt := 14) dX11_image_9 rfl (fun c7 => ?_) (fun c7 => ?_)
  · skip
    obtain ⟨q, rfl⟩ : ∃ q : Nat, k = q := ⟨k.toNat, by omega⟩
    rw [Int.toNat_natCast]
    have hq : q < 4 := by omega
    refine st_aload_n dX11_image_14 rfl ?_
    refine st_getfr dX11_image_15 f_X11_176 (by first | with_reducible assumption | rfl) (by rfl) ?_
    refine st_iload_n dX11_image_18 rfl ?_
    refine st_iconst dX11_image_19 ?_
    refine st_zast dX11_image_20 sh_166 (by omega) (by omega) rfl ?_ (by decide)
    rw [Int.toNat_natCast]
    refine st_aload_n dX11_image_21 rfl ?_
    refine st_iload_n dX11_image_22 rfl ?_
    refine st_iconst dX11_image_23 ?_
    refine c_V2v (d' := d - 1) dX11_image_24 l_X11_480 k_X11_carriesAll i_X11_carriesAll (Or.inl ⟨_, _, _, _, _, (by first | with_reducible assumption | rfl), by rfl⟩) (by omega) (Nat.le_of_ble_eq_true rfl) (C_carriesF (k := q) (by omega) (by omega)) (fun M1 N1 hx1 => ?_)
    obtain ⟨rfl, hI⟩ := hx1
    refine st_aload_n dX11_image_27 rfl ?_
    refine st_getfr dX11_image_28 f_X11_9 (by first | with_reducible assumption | rfl) (by rfl) ?_
    refine st_bipush dX11_image_31 (by decide) ?_
    refine st_ialdK (k' := 6) dX11_image_33 (by first | with_reducible assumption | rfl) rfl (by omega) (hn := by first | decide | omega) ?_
    rw [hI.1 113 (by decide), q_up_ne (by decide), hb6]
    refine r_i dX11_image_34 rfl ⟨rfl, Or.inr ⟨by omega, rfl, hI, ?_⟩⟩
    refine hF.rest (X := [112, 146, 165, 166]) ((Exc.up (by decide)).tr (hI.1.sub (by decide))) (by decide) ?_
    rw [hI.2.1 45 (by decide) (by decide), q_up_ne (by decide)]
  · refine st_iconst dX11_image_12 ?_
    exact r_i dX11_image_13 rfl ⟨rfl, Or.inl ⟨by omega, rfl, rfl⟩⟩
/-- what an image holds -/
theorem FwI.im {B V V1 : q_Mem} {k : Nat} (hF : FullR B V) (h : FwI (q_up V 166 k 1) V1 (1500 * k) 1373) : FullR B (imV V1 k) := by
  obtain ⟨a1, a2, a3, a4, a5⟩ := h
  refine hF.qk (fun a j hj => ?_) ?_
  · have c := ofR_cs a
    have hn : ¬ a = 112 := by intro e; subst e; simp [ofR] at hj
    have h66 : ¬ a = 166 := by intro e; subst e; simp [ofR] at hj
    unfold imV
    rw [if_neg hn, a5, if_pos ?_, show 1500 * k + (ofR a).1 + j - 1500 * k = (ofR a).1 + j by omega, linO_row _ hj, q_up_ne h66]
    rcases c with ⟨-, e⟩ | ⟨-, e⟩ | ⟨-, e⟩ | ⟨-, e⟩ | ⟨-, e⟩ | ⟨-, e⟩ | ⟨-, e⟩ | ⟨-, e⟩ | ⟨-, e⟩ | ⟨-, e⟩ | ⟨-, e⟩ | ⟨-, e⟩ | ⟨-, e⟩ | e
    all_goals
      rw [e] at hj ⊢
      simp only at hj ⊢
      omega
  · unfold imV
    rw [if_pos rfl, a5, if_pos (by omega), show 1500 * k - 1500 * k = 0 by omega]
    simp [linO, q_up]
theorem C_rback {G : q_G} {d : Nat} {B M : q_Mem} {N : q_MemL} {k : Int} (hd : 3 ≤ d) (hmd : 0 ≤ k → k < 4 → (M 166 k.toNat = 0 ∨ M 166 k.toNat = 1) ∧ (M 166 k.toNat = 1 → FullR B (imV M k.toNat))) (hk : i32 k) : AC0 G d m_X11_back [.ref 112, I k] M N (CV (fun x M' N' => N' = N ∧ ((¬ ((0 ≤ k ∧ k < 4) ∧ M 166 k.toNat = 1) ∧ x = I (-1) ∧ M' = M) ∨ (((0 ≤ k ∧ k < 4) ∧ M 166 k.toNat = 1) ∧ x = I (B 3 11) ∧ BwI M M' (1500 * k.toNat) 1373 ∧ FullR B M')))) := by
  have hkk := hk
  unfold i32 at hkk
  have no : ¬ ((0 ≤ k ∧ k < 4) ∧ M 166 k.toNat = 1) → AW0 G d m_X11_back 21 [some (.ref 112), some (I k)] [] M N (CV (fun x M' N' => N' = N ∧ ((¬ ((0 ≤ k ∧ k < 4) ∧ M 166 k.toNat = 1) ∧ x = I (-1) ∧ M' = M) ∨ (((0 ≤ k ∧ k < 4) ∧ M 166 k.toNat = 1) ∧ x = I (B 3 11) ∧ BwI M M' (1500 * k.toNat) 1373 ∧ FullR B M')))) := by
    intro h
    refine st_iconst dX11_back_21 ?_
    exact r_i dX11_back_22 rfl ⟨rfl, Or.inl ⟨h, rfl, rfl⟩⟩
  refine AC.of (L0 := [_, _]) pn_X11 (Nat.le_of_ble_eq_true rfl) rfl ?_
  refine st_iload_n dX11_back_0 rfl ?_
  refine st_i2lK dX11_back_1 (by omega) ?_
  refine st_lc0K dX11_back_2 ?_
  refine st_ldc2 dX11_back_3 l_X11_523 ?_
  refine AW.topv (show _ = J 3 from rfl) ?_
  refine c_S3p (d' := d - 1) dX11_back_6 l_X11_182 k_X11_in s_X11_in (by omega) (Nat.le_of_ble_eq_true rfl) (C_in (by omega) (by decide) (by decide)) ?_
  refine b_eq (tgt := 21) dX11_back_9 rfl (fun c7 => ?_) (fun c7 => ?_)
  · skip
    exact no (fun z => c7 (by omega))
  · refine st_aload_n dX11_back_12 rfl ?_
    refine st_getfr dX11_back_13 f_X11_176 (by first | with_reducible assumption | rfl) (by rfl) ?_
    refine st_iload_n dX11_back_16 rfl ?_
    have hkr : 0 ≤ k ∧ k < 4 := by omega
    obtain ⟨hm0, hm1⟩ := hmd hkr.1 hkr.2
    refine st_zald dX11_back_17 sh_166 (by omega) (by omega) ?_ (by decide)
    refine st_if_ne (tgt := 23) dX11_back_18 (by omega) rfl (fun h => ?_) (fun h => ?_)
    · skip
      have h1 : M 166 k.toNat = 1 := by omega
      have hFi := hm1 h1
      obtain ⟨q, rfl⟩ : ∃ q : Nat, k = q := ⟨k.toNat, by omega⟩
      rw [Int.toNat_natCast] at *
      refine st_aload_n dX11_back_23 rfl ?_
      refine st_iload_n dX11_back_24 rfl ?_
      refine st_iconst dX11_back_25 ?_
      refine c_V2v (d' := d - 1) dX11_back_26 l_X11_480 k_X11_carriesAll i_X11_carriesAll (Or.inl ⟨_, _, _, _, _, (by first | with_reducible assumption | rfl), by rfl⟩) (by omega) (Nat.le_of_ble_eq_true rfl) (C_carriesB (k := q) (by omega) (by omega)) (fun M1 N1 hx1 => ?_)
      obtain ⟨rfl, hI⟩ := hx1
      have hF1 : FullR B M1 := hFi.qk (fun a j hj => by
        have hn : ¬ a = 112 := by intro e; subst e; simp [ofR] at hj
        have h46 : ¬ a = 146 := by intro e; subst e; simp [ofR] at hj
        have c := ofR_cs a
        have hle : (ofR a).1 + (ofR a).2 ≤ 1373 := by
          rcases c with ⟨-, e⟩ | ⟨-, e⟩ | ⟨-, e⟩ | ⟨-, e⟩ | ⟨-, e⟩ | ⟨-, e⟩ | ⟨-, e⟩ | ⟨-, e⟩ | ⟨-, e⟩ | ⟨-, e⟩ | ⟨-, e⟩ | ⟨-, e⟩ | ⟨-, e⟩ | e
          all_goals simp [e]
        rw [hI.2.2.2.2 a hn h46 j, if_pos ⟨hle, hj⟩]
        unfold imV
        rw [if_neg hn]) (by
        rw [hI.2.2.2.1 (by decide)]
        unfold imV
        rw [if_pos rfl])
      refine st_aload_n dX11_back_29 rfl ?_
      refine st_getfr dX11_back_30 f_X11_9 (by first | with_reducible assumption | rfl) (by rfl) ?_
      refine st_bipush dX11_back_33 (by decide) ?_
      refine st_ialdK (k' := 6) dX11_back_35 (by first | with_reducible assumption | rfl) rfl (by omega) (hn := by first | decide | omega) ?_
      rw [hF1.1.2.2.2.2]
      exact r_i dX11_back_36 rfl ⟨rfl, Or.inr ⟨⟨hkr, h1⟩, rfl, hI, hF1⟩⟩
    · skip
      exact no (fun z => by omega)
theorem C_rcount {G : q_G} {d : Nat} {B M : q_Mem} {N : q_MemL} {x : Int} (hd : 1 ≤ d) (hF : FullR B M) (h20 : M 112 20 = B 1 1) (h24 : M 112 24 = B 0 6) (hx : i32 x) : AC0 G d m_X11_count [.ref 112, I x] M N (CV (PU (I (A_count B x)) M N)) := by
  obtain ⟨hN, e8, hz, hri, hpo, hhi⟩ := id hF
  obtain ⟨hB, hT, hP, hW, hb6⟩ := id hN
  obtain ⟨h0, h1, h2, h3, h4, h5, h6, h11, h12, h13, h15, h17, h18, a1, a2, a3, a4, a5, a6, ht1, ht0⟩ := id hB
  obtain ⟨t0, t1, t2, t3, t4, t5, t7⟩ := hT.1
  unfold i32 at hx
  by_cases h : 0 ≤ x ∧ x ≤ 10
  · have hc : x = 0 ∨ x = 1 ∨ x = 2 ∨ x = 3 ∨ x = 4 ∨ x = 5 ∨ x = 6 ∨ x = 7 ∨ x = 8 ∨ x = 9 ∨ x = 10 := by omega
    rcases hc with rfl | rfl | rfl | rfl | rfl | rfl | rfl | rfl | rfl | rfl | rfl
    · refine AC.of (L0 := [_, _]) pn_X11 (Nat.le_of_ble_eq_true rfl) rfl ?_
      refine st_iload_n dX11_count_0 rfl ?_
      refine st_tsIn (off := 59) (tgt := 60) dX11_count_1 (by decide) (by decide) (by decide) rfl rfl ?_
      refine st_aload_n dX11_count_60 rfl ?_
      refine st_getfr dX11_count_61 f_X11_9 (by first | with_reducible assumption | rfl) (by rfl) ?_
      refine st_iconst dX11_count_64 ?_
      refine st_ialdK (k' := 0) dX11_count_65 (by first | with_reducible assumption | rfl) rfl (by omega) (hn := by first | decide | omega) ?_
      refine r_i dX11_count_66 rfl ⟨?_, rfl, rfl⟩
      show I _ = I _
      first | exact congrArg I t0 | (rw [show A_count B 0 = _ from rfl]; exact congrArg I t0)
    · refine AC.of (L0 := [_, _]) pn_X11 (Nat.le_of_ble_eq_true rfl) rfl ?_
      refine st_iload_n dX11_count_0 rfl ?_
      refine st_tsIn (off := 66) (tgt := 67) dX11_count_1 (by decide) (by decide) (by decide) rfl rfl ?_
      refine st_aload_n dX11_count_67 rfl ?_
      refine st_getfr dX11_count_68 f_X11_9 (by first | with_reducible assumption | rfl) (by rfl) ?_
      refine st_iconst dX11_count_71 ?_
      refine st_ialdK (k' := 1) dX11_count_72 (by first | with_reducible assumption | rfl) rfl (by omega) (hn := by first | decide | omega) ?_
      refine r_i dX11_count_73 rfl ⟨?_, rfl, rfl⟩
      show I _ = I _
      first | exact congrArg I t1 | (rw [show A_count B 1 = _ from rfl]; exact congrArg I t1)
    · refine AC.of (L0 := [_, _]) pn_X11 (Nat.le_of_ble_eq_true rfl) rfl ?_
      refine st_iload_n dX11_count_0 rfl ?_
      refine st_tsIn (off := 73) (tgt := 74) dX11_count_1 (by decide) (by decide) (by decide) rfl rfl ?_
      refine st_aload_n dX11_count_74 rfl ?_
      refine c_V0p (d' := d - 1) dX11_count_75 l_X11_186 k_X11_isHouse i_X11_isHouse (Or.inl ⟨_, _, _, _, _, (by first | with_reducible assumption | rfl), by rfl⟩) (by omega) (Nat.le_of_ble_eq_true rfl) (C_isHouse hB hT) ?_
      refine b_eq (tgt := 92) dX11_count_78 rfl (fun c7 => ?_) (fun c7 => ?_)
      · refine st_iconst dX11_count_92 ?_
        refine r_i dX11_count_93 rfl ⟨by rw [show A_count B 2 = (if B 3 0 = 1 then B 3 3 else -1) from rfl, if_neg c7], rfl, rfl⟩
      · refine st_aload_n dX11_count_81 rfl ?_
        refine st_getfr dX11_count_82 f_X11_9 (by first | with_reducible assumption | rfl) (by rfl) ?_
        refine st_iconst dX11_count_85 ?_
        refine st_ialdK (k' := 2) dX11_count_86 (by first | with_reducible assumption | rfl) rfl (by omega) (hn := by first | decide | omega) ?_
        rw [t2]
        refine st_iconst dX11_count_87 ?_
        refine st_iadd dX11_count_88 ?_
        refine st_goto (tgt := 93) dX11_count_89 rfl ?_
        refine r_i dX11_count_93 rfl ⟨?_, rfl, rfl⟩
        have := ht1 c7
        rw [show A_count B 2 = (if B 3 0 = 1 then B 3 3 else -1) from rfl, if_pos c7, show max 0 (B 3 3 - 1) + 1 = B 3 3 by omega]
    · refine AC.of (L0 := [_, _]) pn_X11 (Nat.le_of_ble_eq_true rfl) rfl ?_
      refine st_iload_n dX11_count_0 rfl ?_
      refine st_tsIn (off := 93) (tgt := 94) dX11_count_1 (by decide) (by decide) (by decide) rfl rfl ?_
      refine st_aload_n dX11_count_94 rfl ?_
      refine st_getfr dX11_count_95 f_X11_9 (by first | with_reducible assumption | rfl) (by rfl) ?_
      refine st_iconst dX11_count_98 ?_
      refine st_ialdK (k' := 3) dX11_count_99 (by first | with_reducible assumption | rfl) rfl (by omega) (hn := by first | decide | omega) ?_
      refine r_i dX11_count_100 rfl ⟨?_, rfl, rfl⟩
      show I _ = I _
      first | exact congrArg I t3 | (rw [show A_count B 3 = _ from rfl]; exact congrArg I t3)
    · refine AC.of (L0 := [_, _]) pn_X11 (Nat.le_of_ble_eq_true rfl) rfl ?_
      refine st_iload_n dX11_count_0 rfl ?_
      refine st_tsIn (off := 100) (tgt := 101) dX11_count_1 (by decide) (by decide) (by decide) rfl rfl ?_
      refine st_aload_n dX11_count_101 rfl ?_
      refine st_getfr dX11_count_102 f_X11_9 (by first | with_reducible assumption | rfl) (by rfl) ?_
      refine st_iconst dX11_count_105 ?_
      refine st_ialdK (k' := 4) dX11_count_106 (by first | with_reducible assumption | rfl) rfl (by omega) (hn := by first | decide | omega) ?_
      refine r_i dX11_count_107 rfl ⟨?_, rfl, rfl⟩
      show I _ = I _
      first | exact congrArg I t4 | (rw [show A_count B 4 = _ from rfl]; exact congrArg I t4)
    · refine AC.of (L0 := [_, _]) pn_X11 (Nat.le_of_ble_eq_true rfl) rfl ?_
      refine st_iload_n dX11_count_0 rfl ?_
      refine st_tsIn (off := 107) (tgt := 108) dX11_count_1 (by decide) (by decide) (by decide) rfl rfl ?_
      refine st_aload_n dX11_count_108 rfl ?_
      refine st_getfi dX11_count_109 f_X11_372 (by first | with_reducible assumption | rfl) (by rfl) ?_
      refine r_i dX11_count_112 rfl ⟨?_, rfl, rfl⟩
      show I _ = I _
      first | exact congrArg I h24 | (rw [show A_count B 5 = _ from rfl]; exact congrArg I h24)
    · refine AC.of (L0 := [_, _]) pn_X11 (Nat.le_of_ble_eq_true rfl) rfl ?_
      refine st_iload_n dX11_count_0 rfl ?_
      refine st_tsIn (off := 112) (tgt := 113) dX11_count_1 (by decide) (by decide) (by decide) rfl rfl ?_
      refine st_aload_n dX11_count_113 rfl ?_
      refine st_getfr dX11_count_114 f_X11_9 (by first | with_reducible assumption | rfl) (by rfl) ?_
      refine st_bipush dX11_count_117 (by decide) ?_
      refine st_ialdK (k' := 6) dX11_count_119 (by first | with_reducible assumption | rfl) rfl (by omega) (hn := by first | decide | omega) ?_
      refine r_i dX11_count_120 rfl ⟨?_, rfl, rfl⟩
      show I _ = I _
      first | exact congrArg I hb6 | (rw [show A_count B 6 = _ from rfl]; exact congrArg I hb6)
    · refine AC.of (L0 := [_, _]) pn_X11 (Nat.le_of_ble_eq_true rfl) rfl ?_
      refine st_iload_n dX11_count_0 rfl ?_
      refine st_tsIn (off := 120) (tgt := 121) dX11_count_1 (by decide) (by decide) (by decide) rfl rfl ?_
      refine st_aload_n dX11_count_121 rfl ?_
      refine st_getfr dX11_count_122 f_X11_9 (by first | with_reducible assumption | rfl) (by rfl) ?_
      refine st_bipush dX11_count_125 (by decide) ?_
      refine st_ialdK (k' := 7) dX11_count_127 (by first | with_reducible assumption | rfl) rfl (by omega) (hn := by first | decide | omega) ?_
      refine r_i dX11_count_128 rfl ⟨?_, rfl, rfl⟩
      show I _ = I _
      first | exact congrArg I t7 | (rw [show A_count B 7 = _ from rfl]; exact congrArg I t7)
    · refine AC.of (L0 := [_, _]) pn_X11 (Nat.le_of_ble_eq_true rfl) rfl ?_
      refine st_iload_n dX11_count_0 rfl ?_
      refine st_tsIn (off := 128) (tgt := 129) dX11_count_1 (by decide) (by decide) (by decide) rfl rfl ?_
      refine st_aload_n dX11_count_129 rfl ?_
      refine st_getfi dX11_count_130 f_X11_357 (by first | with_reducible assumption | rfl) (by rfl) ?_
      refine r_i dX11_count_133 rfl ⟨?_, rfl, rfl⟩
      show I _ = I _
      first | exact congrArg I hhi.1 | (rw [show A_count B 8 = _ from rfl]; exact congrArg I hhi.1)
    · refine AC.of (L0 := [_, _]) pn_X11 (Nat.le_of_ble_eq_true rfl) rfl ?_
      refine st_iload_n dX11_count_0 rfl ?_
      refine st_tsIn (off := 133) (tgt := 134) dX11_count_1 (by decide) (by decide) (by decide) rfl rfl ?_
      refine st_aload_n dX11_count_134 rfl ?_
      refine st_getfr dX11_count_135 f_X11_9 (by first | with_reducible assumption | rfl) (by rfl) ?_
      refine st_bipush dX11_count_138 (by decide) ?_
      refine st_ialdK (k' := 8) dX11_count_140 (by first | with_reducible assumption | rfl) rfl (by omega) (hn := by first | decide | omega) ?_
      refine r_i dX11_count_141 rfl ⟨?_, rfl, rfl⟩
      show I _ = I _
      first | exact congrArg I e8 | (rw [show A_count B 9 = _ from rfl]; exact congrArg I e8)
    · refine AC.of (L0 := [_, _]) pn_X11 (Nat.le_of_ble_eq_true rfl) rfl ?_
      refine st_iload_n dX11_count_0 rfl ?_
      refine st_tsIn (off := 141) (tgt := 142) dX11_count_1 (by decide) (by decide) (by decide) rfl rfl ?_
      refine st_aload_n dX11_count_142 rfl ?_
      refine st_getfi dX11_count_143 f_X11_194 (by first | with_reducible assumption | rfl) (by rfl) ?_
      refine r_i dX11_count_146 rfl ⟨?_, rfl, rfl⟩
      show I _ = I _
      first | exact congrArg I h20 | (rw [show A_count B 10 = _ from rfl]; exact congrArg I h20)
  · refine AC.of (L0 := [_, _]) pn_X11 (Nat.le_of_ble_eq_true rfl) rfl ?_
    refine st_iload_n dX11_count_0 rfl ?_
    refine st_tsOut (tgt := 147) dX11_count_1 (by omega) (by omega) rfl ?_
    refine st_iconst dX11_count_147 ?_
    refine r_i dX11_count_148 rfl ⟨?_, rfl, rfl⟩
    unfold A_count
    rw [if_neg (by omega), if_neg (by omega), if_neg (by omega), if_neg (by omega), if_neg (by omega), if_neg (by omega), if_neg (by omega), if_neg (by omega), if_neg (by omega), if_neg (by omega), if_neg (by omega)]
theorem full_seed {B V : q_Mem} {z : Int} (hF : FullR B V) (hz2 : 0 ≤ z ∧ z < 2147483648) : FullR (q_up B 3 18 z) (q_up V 113 8 z) := by
  obtain ⟨hN, e8, hz, hri, hpo, hhi⟩ := hF
  have f : ∀ j, ¬ j = 18 → q_up B 3 18 z 3 j = B 3 j := fun j hj => by simp [q_up, hj]
  have r : ∀ a, a ≠ 3 → q_up B 3 18 z a = B a := fun a a3 => q_up_ne a3
  have hE : Exc [113] V (q_up V 113 8 z) := Exc.up (by decide)
  have h113 : ∀ j, ¬ j = 8 → q_up V 113 8 z 113 j = V 113 j := fun j hj => by simp [q_up, hj]
  refine ⟨⟨hN.1.f18 hz2, ?_, ?_, ?_, ?_⟩, by simp [q_up], ?_, ?_, past_same hpo (fun j hj => f j ?_) (r 8 (by decide)), his_same hhi (fun j hj => f j ?_) (r 7 (by decide)) (r 8 (by decide)) (by rw [hE 112 (by decide)]) (hE 145 (by decide))⟩
  · refine RT.to hN.2.1 (fun j hj => f j ?_) (r 4 (by decide)) (r 5 (by decide)) (r 6 (by decide)) (r 9 (by decide)) hE (fun j _ j8 => h113 j j8) (by decide) (fun q' h' hq' hh' => ?_)
    · intro e; subst e; simp at hj
    · rw [r 7 (by decide), hE 117 (by decide)]
      exact (hN.2.1.2.2.1 q' hq').1 h' hh'
  · rw [f 13 (by decide)]
    exact (hN.2.2.1.exc hE (by decide) (by decide)).home ⟨f 4 (by decide), f 5 (by decide)⟩
  · rw [f 12 (by decide)]
    exact (hN.2.2.2.1.exc hE (by decide) (by decide)).home ⟨f 4 (by decide), f 5 (by decide)⟩
  · rw [h113 6 (by decide), f 11 (by decide)]
    exact hN.2.2.2.2
  · rw [f 4 (by decide), f 5 (by decide), f 12 (by decide)]
    exact hz
  · rw [f 3 (by decide), r 4 (by decide)]
    exact hri
  · intro e; subst e; simp at hj
  · intro e; subst e; simp at hj


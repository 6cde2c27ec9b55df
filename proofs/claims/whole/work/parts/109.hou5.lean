/-! house, on both sides -/
theorem C_house {G : q_G} {d : Nat} {M : q_Mem} {N : q_MemL} {n : Nat} (hd : 8 ≤ d) (hn : M 1 1 = (n : Int)) (hn2 : n ≤ 400) (hz : Hz M 10) (hz3 : Hz M 3) : AC0 G d m_X10_house [.ref 0] M N (CV (fun x M' N' => N' = N ∧ ((∃ M1 c, hRead n M = .ok M1 ∧ HI c M1 ∧ ¬ c = 0 ∧ Exc [1, 10, 11, 12, 13, 14] M M1 ∧ x = I (M1 10 4) ∧ M' = cpH (q_up (q_up (q_up M1 10 0 1) 1 1 0) 10 18 (M 3 18)) 3 10) ∨ (∃ F, hRead n M = .error F ∧ (0 < F ∧ F ≤ 3300) ∧ x = I (-2 - F) ∧ Exh [1, 10, 11, 12, 13, 14] M M' ∧ M' 1 1 = 0)))) := by
  obtain ⟨s1, s2, s3⟩ := hSt_ok hn hn2 hz
  refine AC.of (L0 := [_, none]) pn_X10 (Nat.le_of_ble_eq_true rfl) rfl ?_
  refine st_aload_n dX10_house_0 rfl ?_
  refine st_getfr dX10_house_1 f_X10_42 (by first | with_reducible assumption | rfl) (by rfl) ?_
  refine c_V0i (d' := d - 1) dX10_house_4 l_X10_104 k_X3_read i_X3_read (Or.inl ⟨_, _, _, _, _, (by first | with_reducible assumption | rfl), by rfl⟩) (by omega) (Nat.le_of_ble_eq_true rfl) (C_hread (by omega) hn hn2 hz) (fun x M1 N1 hx => ?_)
  obtain ⟨rfl, hx⟩ := hx
  rcases hx with ⟨M1', hr, rfl, rfl⟩ | ⟨F, hr, rfl, hE, hT⟩
  · obtain ⟨k1, ⟨p, k2⟩, c, k3, k4⟩ := hLoop_ok _ _ _ _ _ s1 s2 hr
    have hEx : Exc [1, 10, 11, 12, 13, 14] M M1' := s3.tr k1
    refine st_istore_n (L' := [_, _]) dX10_house_7 (by decide) rfl rfl ?_
    refine st_aload_n dX10_house_8 rfl ?_
    refine st_getfr dX10_house_9 f_X10_10 (by first | with_reducible assumption | rfl) (by rfl) ?_
    refine st_iconst dX10_house_12 ?_
    refine st_putfi dX10_house_13 w_X10_96 (by first | with_reducible assumption | rfl) (by rfl) rfl rfl ?_
    refine st_iload_n dX10_house_16 rfl ?_
    refine st_if_eq (tgt := 25) dX10_house_17 (by omega) rfl (fun c1 => ?_) (fun c1 => ?_)
    · refine st_aload_n dX10_house_25 rfl ?_
      refine st_getfr dX10_house_26 f_X10_23 (by first | with_reducible assumption | rfl) (by rfl) ?_
      refine st_aload_n dX10_house_29 rfl ?_
      refine st_getfr dX10_house_30 f_X10_19 (by first | with_reducible assumption | rfl) (by rfl) ?_
      refine st_getfi dX10_house_33 f_X10_108 (by first | with_reducible assumption | rfl) (by rfl) ?_
      have e18 : q_up (q_up M1' 10 0 1) 1 1 0 3 18 = M 3 18 := by
        rw [q_up_ne (by decide), q_up_ne (by decide), hEx 3 (by simp)]
      rw [e18]
      refine st_putfi dX10_house_36 w_X10_108 (by first | with_reducible assumption | rfl) (by rfl) rfl rfl ?_
      refine st_aload_n dX10_house_39 rfl ?_
      refine st_getfr dX10_house_40 f_X10_19 (by first | with_reducible assumption | rfl) (by rfl) ?_
      refine st_aload_n dX10_house_43 rfl ?_
      refine st_getfr dX10_house_44 f_X10_23 (by first | with_reducible assumption | rfl) (by rfl) ?_
      have z10 : Hz (q_up (q_up (q_up M1' 10 0 1) 1 1 0) 10 18 (M 3 18)) 10 := by
        obtain ⟨-, -, -, -, -, y5, y6⟩ := hz
        obtain ⟨z0, z1, z2, z3, z4⟩ := k4.zt
        refine ⟨fun j hj => ?_, fun j hj => ?_, fun j hj => ?_, fun j hj => ?_, fun j hj => ?_, fun j hj => ?_, fun j hj => ?_⟩
        · have := z0 j (by simp [hFs] at hj; omega)
          simp [hFs] at hj
          simp only [q_up]
          rw [if_neg (by omega), if_neg (by omega), if_neg (by omega)]
          exact this
        · rw [q_up_ne (by decide), q_up_ne (by decide), q_up_ne (by decide)]
          exact z1 j hj
        · rw [q_up_ne (by decide), q_up_ne (by decide), q_up_ne (by decide)]
          exact z2 j hj
        · rw [q_up_ne (by decide), q_up_ne (by decide), q_up_ne (by decide)]
          exact z3 j hj
        · rw [q_up_ne (by decide), q_up_ne (by decide), q_up_ne (by decide)]
          exact z4 j hj
        · rw [q_up_ne (by decide), q_up_ne (by decide), q_up_ne (by decide), hEx 15 (by simp)]
          exact y5 j hj
        · rw [q_up_ne (by decide), q_up_ne (by decide), q_up_ne (by decide), hEx 16 (by simp)]
          exact y6 j hj
      have z3 : Hz (q_up (q_up (q_up M1' 10 0 1) 1 1 0) 10 18 (M 3 18)) 3 := by
        have e : ∀ a, a ∉ [1, 10, 11, 12, 13, 14] → q_up (q_up (q_up M1' 10 0 1) 1 1 0) 10 18 (M 3 18) a = M a := fun a ha => by
          simp at ha
          rw [q_up_ne (by omega), q_up_ne (by omega), q_up_ne (by omega), hEx a (by simp; omega)]
        unfold Hz at *
        rw [e 3 (by simp), e (3 + 1) (by simp), e (3 + 2) (by simp), e (3 + 3) (by simp), e (3 + 4) (by simp), e (3 + 5) (by simp), e (3 + 6) (by simp)]
        exact hz3
      refine c_V1v (d' := d - 1) dX10_house_47 l_X10_111 k_X2_copyFrom i_X2_copyFrom (Or.inl ⟨_, _, _, _, _, (by first | with_reducible assumption | rfl), by rfl⟩) (by omega) (Nat.le_of_ble_eq_true rfl) (C_copyFrom (a := 3) (b := 10) (by unfold isHome; omega) (by unfold isHome; omega) (by decide) (by omega) z3 z10 (by right; simp [q_up])) (fun M2 N2 hx => ?_)
      obtain ⟨rfl, rfl⟩ := hx
      refine st_aload_n dX10_house_50 rfl ?_
      refine st_getfr dX10_house_51 f_X10_19 (by first | with_reducible assumption | rfl) (by rfl) ?_
      refine st_getfi dX10_house_54 f_X10_114 (by first | with_reducible assumption | rfl) (by rfl) ?_
      refine r_i dX10_house_57 rfl ⟨rfl, Or.inl ⟨M1', c, hr, k4, k3, hEx, ?_, rfl⟩⟩
      simp [cpH, q_up]
    · skip
      omega
  · have hF := hT.2.2.2.2
    refine st_istore_n (L' := [_, _]) dX10_house_7 (by decide) rfl rfl ?_
    refine st_aload_n dX10_house_8 rfl ?_
    refine st_getfr dX10_house_9 f_X10_10 (by first | with_reducible assumption | rfl) (by rfl) ?_
    refine st_iconst dX10_house_12 ?_
    refine st_putfi dX10_house_13 w_X10_96 (by first | with_reducible assumption | rfl) (by rfl) rfl rfl ?_
    refine st_iload_n dX10_house_16 rfl ?_
    refine st_if_eq (tgt := 25) dX10_house_17 (by omega) rfl (fun c1 => ?_) (fun c1 => ?_)
    · skip
      omega
    · refine st_bipush dX10_house_20 (by decide) ?_
      refine st_iload_n dX10_house_22 rfl ?_
      refine st_isub dX10_house_23 ?_
      refine r_i dX10_house_24 rfl ⟨rfl, Or.inr ⟨F, hr, by omega, rfl, ⟨hE.1.tr (Exc.up (by simp)), fun z => ?_⟩, by simp [q_up]⟩⟩
      have := hE.2 z
      unfold zT at *
      rw [q_up_ne (by decide), q_up_ne (by decide), q_up_ne (by decide), q_up_ne (by decide), q_up_ne (by decide)]
      exact this
theorem cp_ne {M : q_Mem} {a b n r : Nat} (h : r ≠ b) : q_cp M a b 0 0 n r = M r := by
  funext j
  unfold q_cp
  rw [if_neg h]
theorem cp_at {M : q_Mem} {a b n j : Nat} (h : j < n) : q_cp M a b 0 0 n b j = M a j := by
  unfold q_cp
  rw [if_pos rfl, if_pos (by omega)]
  simp
theorem Exc.cp {X : List Nat} {M : q_Mem} {a b n : Nat} (h : b ∈ X) : Exc X M (q_cp M a b 0 0 n) := fun r hr => cp_ne (fun e => hr (e ▸ h))
/-- where a house that was read is lived in: the home at 10 seen as the one at 3 -/
def hNew (B1 : q_Mem) (x : Int) : q_Mem := hB (q_up (q_up B1 10 0 1) 10 18 x) 10
theorem hNew3 (B1 : q_Mem) (x : Int) (j : Nat) : hNew B1 x 3 j = if j = 18 then x else if j = 0 then 1 else B1 10 j := by
  unfold hNew hB
  simp only [q_up]
  by_cases h : j = 18
  · rw [if_pos (by simp [h]), if_pos h]
  · rw [if_neg (fun z => h z.2), if_neg h]
    by_cases h2 : j = 0
    · rw [if_pos (by simp [h2]), if_pos h2]
    · rw [if_neg (fun z => h2 z.2), if_neg h2]
theorem hNewr (B1 : q_Mem) (x : Int) {r : Nat} (hr : 3 < r) : hNew B1 x r = B1 (r + 7) := by
  unfold hNew hB
  funext j
  rw [show 10 + (r - 3) = r + 7 by omega, q_up_ne (by omega), q_up_ne (by omega)]
theorem full_new {B1 V V1 : q_Mem} {c : Nat} {x : Int} (hI : HI c B1) (hc : ¬ c = 0) (hR : HR B1 V) (h15 : ∀ k, -1 ≤ B1 15 k ∧ B1 15 k < 1073741824) (h16 : ∀ k, -1 ≤ B1 16 k ∧ B1 16 k ≤ 100) (hx : 0 ≤ x ∧ x < 2147483648) (h8 : V1 113 8 = x) (h45 : V1 112 45 = 0) (hs : ∀ j, j < 8 → V1 113 j = if j < 6 then V 125 j else 0) (e4 : ∀ j, j < 7 → V1 114 j = V 126 j) (e5 : ∀ j, j < 7 → V1 115 j = V 127 j) (e7 : ∀ j, j < 42 → V1 117 j = V 128 j) (e8 : ∀ j, j < 7 → V1 118 j = V 129 j) (e9 : ∀ j, j < 3 → V1 119 j = V 130 j) (e1 : ∀ j, j < 3 → V1 121 j = V 131 j) (e6 : ∀ j, j < 7 → V1 116 j = 0) (e0 : ∀ j, j < 3 → V1 120 j = 0) : FullR (hNew B1 x) V1 := by
  obtain ⟨⟨⟨r1, r2⟩, ⟨r3, r4⟩, ⟨r5, r6⟩, ⟨r7, r8⟩, ⟨r9, r10⟩, r11, r12⟩, ⟨f0, f11, f12, f15, f17, f18⟩, -, z1, a5, ⟨a6, a7, a8, a9⟩, ⟨b1, b2⟩, ⟨b3, b4⟩, b5, b6⟩ := hI
  have z1' := z1 hc
  obtain ⟨⟨u0, u1, u2, u3, u4, u5⟩, us, uq, ut⟩ := hR
  have g : ∀ j, ¬ j = 18 → ¬ j = 0 → hNew B1 x 3 j = B1 10 j := fun j h1 h2 => by rw [hNew3, if_neg h1, if_neg h2]
  have g0 : hNew B1 x 3 0 = 1 := by rw [hNew3, if_neg (by decide), if_pos rfl]
  have g18 : hNew B1 x 3 18 = x := by rw [hNew3, if_pos rfl]
  have k4 := hNewr B1 x (r := 4) (by decide)
  have k5 := hNewr B1 x (r := 5) (by decide)
  have k6 := hNewr B1 x (r := 6) (by decide)
  have k7 := hNewr B1 x (r := 7) (by decide)
  have k8 := hNewr B1 x (r := 8) (by decide)
  have k9 := hNewr B1 x (r := 9) (by decide)
  have hN : NowOk (hNew B1 x) := by
    unfold NowOk Hok
    rw [g0, g18, k4, k5, k6, k7, k8, k9, g 1 (by decide) (by decide), g 2 (by decide) (by decide), g 3 (by decide) (by decide), g 4 (by decide) (by decide), g 5 (by decide) (by decide), g 6 (by decide) (by decide), g 11 (by decide) (by decide), g 12 (by decide) (by decide), g 13 (by decide) (by decide), g 15 (by decide) (by decide), g 17 (by decide) (by decide)]
    refine ⟨Or.inr rfl, ⟨r1, r2⟩, ⟨r3, r4⟩, ⟨r5, r6⟩, ⟨r7, r8⟩, ⟨r9, r10⟩, r11, by omega, by omega, r12, by omega, by omega, hx, fun k => ?_, b1, b3, b5, h15, h16, fun _ => z1', fun z => absurd z (by decide)⟩
    have := a6 k
    show 0 ≤ B1 11 k ∧ B1 11 k ≤ 1000
    omega
  have hd : HisR (hNew B1 x) V1 := by
    refine ⟨by rw [g 15 (by decide) (by decide), f15]; exact h45, fun _ => hNew B1 x 7, fun _ _ => rfl, ?_, ?_⟩
    · intro k hk
      rw [g 15 (by decide) (by decide), f15] at hk
      exact absurd hk (by simp)
    · intro k hk
      rw [g 15 (by decide) (by decide), f15] at hk
      exact absurd hk (by simp)
  refine ⟨⟨hN, ⟨?_, ?_, ?_, ?_⟩, ?_, ?_, ?_⟩, by rw [g18]; exact h8, ?_, ?_, ?_, hd⟩
  · rw [g 1 (by decide) (by decide), g 2 (by decide) (by decide), g 3 (by decide) (by decide), g 4 (by decide) (by decide), g 5 (by decide) (by decide), g 6 (by decide) (by decide), g 17 (by decide) (by decide), hs 0 (by decide), hs 1 (by decide), hs 2 (by decide), hs 3 (by decide), hs 4 (by decide), hs 5 (by decide), hs 7 (by decide)]
    exact ⟨u0, u1, u2, u3, u4, u5, f17.symm⟩
  · intro s hs'
    rw [g 3 (by decide) (by decide)] at hs'
    rw [k4]
    show hsum (V1 114) s = B1 11 s
    rw [← us s hs']
    exact hsum_congr (fun q hq => e4 q (by omega))
  · intro q hq
    rw [g 4 (by decide) (by decide)] at hq
    have hu := uq q hq
    rw [k5, k7, g 2 (by decide) (by decide), e8 q (by omega)]
    refine ⟨fun h hh => ?_, hu.2.1⟩
    rw [e7 _ (by omega), hu.2.2 h hh, Nat.mul_comm]
  · refine ⟨?_, ?_⟩
    · intro t ht
      rw [g 5 (by decide) (by decide)] at ht
      rw [k6, e1 t (by omega)]
      exact (ut t ht).2
    · intro e he
      rw [g 17 (by decide) (by decide), f17] at he
      exact absurd he (by simp)
  · rw [g 13 (by decide) (by decide)]
    refine ⟨fun q hq => ?_, fun t ht => ?_⟩
    · rw [g 4 (by decide) (by decide)] at hq
      rw [e5 q (by omega)]
      exact (uq q hq).1
    · rw [g 5 (by decide) (by decide)] at ht
      rw [e9 t (by omega)]
      exact (ut t ht).1
  · rw [g 12 (by decide) (by decide), f12]
    refine ⟨fun q hq => ?_, fun t ht => ?_⟩
    · rw [g 4 (by decide) (by decide)] at hq
      rw [e6 q (by omega), g8_zero]
    · rw [g 5 (by decide) (by decide)] at ht
      rw [e0 t (by omega), g8_zero]
  · rw [g 11 (by decide) (by decide), f11, hs 6 (by decide)]
    rfl
  · rw [g 12 (by decide) (by decide), f12]
    intro k hk _
    exact g8_zero k
  · rw [g 3 (by decide) (by decide), k4]
    exact a9
  · intro k hk
    rw [g 15 (by decide) (by decide), f15] at hk
    exact absurd hk (by simp)
/-- the fields that house changes -/
def fz (V V1 : q_Mem) : Prop := ∀ j, j ∉ [20, 21, 22, 25, 26, 27, 45] → V1 112 j = V 112 j
theorem fy.fz {V V1 : q_Mem} (h : fy V V1) : fz V V1 := fun j hj => h j (by simp at hj ⊢; omega)
theorem fz.tr {V V1 V2 : q_Mem} (h : fz V V1) (h2 : fz V1 V2) : fz V V2 := fun j hj => (h2 j hj).trans (h j hj)
def hoX : List Nat := [112, 113, 114, 115, 116, 117, 118, 119, 120, 121, 125, 126, 127, 128, 129, 130, 131]
theorem C_rhouse {G : q_G} {d : Nat} {B V : q_Mem} {N : q_MemL} {n : Nat} (hd : 8 ≤ d) (hn : B 1 1 = (n : Int)) (hn2 : n ≤ 400) (hV : V 112 20 = (n : Int)) (ht : tb B V n) (hz : Hz B 10) (hx : 0 ≤ B 3 18 ∧ B 3 18 < 2147483648) (h8 : V 113 8 = B 3 18) (h15 : ∀ k, -1 ≤ B 15 k ∧ B 15 k < 1073741824) (h16 : ∀ k, -1 ≤ B 16 k ∧ B 16 k ≤ 100) : AC0 G d m_X11_house [.ref 112] V N (CV (fun x V1 N1 => N1 = N ∧ Exc hoX V V1 ∧ fz V V1 ∧ V1 112 20 = 0 ∧ ((∃ B1, hRead n B = .ok B1 ∧ x = I (B1 10 4) ∧ FullR (hNew B1 (B 3 18)) V1) ∨ (∃ F, hRead n B = .error F ∧ x = I (-2 - F) ∧ V1 112 45 = V 112 45 ∧ Exc [112, 125, 126, 127, 128, 129, 130, 131] V V1)))) := by
  obtain ⟨s1, s2, s3⟩ := hSt_ok hn hn2 hz
  refine AC.of (L0 := [_, none]) pn_X11 (Nat.le_of_ble_eq_true rfl) rfl ?_
  refine st_aload_n dX11_house_0 rfl ?_
  refine c_V0v (d' := d - 1) dX11_house_1 l_X11_350 k_X11_readsAll i_X11_readsAll (Or.inl ⟨_, _, _, _, _, (by first | with_reducible assumption | rfl), by rfl⟩) (by omega) (Nat.le_of_ble_eq_true rfl) (C_readsAll (by omega) hn hn2 hV ht hz) (fun V1 N1 hx => ?_)
  obtain ⟨rfl, hE1, hf1, h20, hx⟩ := hx
  rcases hx with ⟨B1, hr, hR, h22⟩ | ⟨F, hr, h22, hF1, hF2⟩
  · obtain ⟨k1, ⟨p, k2⟩, c, k3, k4⟩ := hLoop_ok _ _ _ _ _ s1 s2 hr
    have hEB : Exc [1, 10, 11, 12, 13, 14] B B1 := s3.tr k1
    have n7 : B1 10 4 ≤ 7 := k4.1.2.2.2.1.2
    -- behind the copies
    have fin : ∀ (V2 : q_Mem), Exc hoX V1 V2 → V2 112 = V1 112 → V2 113 8 = V1 113 8 → (∀ j, j < 8 → V2 113 j = if j < 6 then V1 125 j else 0) → (∀ j, j < 7 → V2 114 j = V1 126 j) → (∀ j, j < 7 → V2 115 j = V1 127 j) → (∀ j, j < 42 → V2 117 j = V1 128 j) → (∀ j, j < 7 → V2 118 j = V1 129 j) → (∀ j, j < 3 → V2 119 j = V1 130 j) → (∀ j, j < 3 → V2 121 j = V1 131 j) → (∀ j, j < 7 → V2 116 j = 0) → (∀ j, j < 3 → V2 120 j = 0) → AW0 G d m_X11_house 162 [some (.ref 112), some (I 3)] [] V2 N1 (CV (fun x V1 N2 => N2 = N1 ∧ Exc hoX V V1 ∧ fz V V1 ∧ V1 112 20 = 0 ∧ ((∃ B1, hRead n B = .ok B1 ∧ x = I (B1 10 4) ∧ FullR (hNew B1 (B 3 18)) V1) ∨ (∃ F, hRead n B = .error F ∧ x = I (-2 - F) ∧ V1 112 45 = V 112 45 ∧ Exc [112, 125, 126, 127, 128, 129, 130, 131] V V1)))) := by
      intro V2 hE2 h112 e8' hs e4 e5 e7 e8 e9 e1 e6 e0
      refine st_aload_n dX11_house_162 rfl ?_
      refine st_iconst dX11_house_163 ?_
      refine st_putfi dX11_house_164 w_X11_357 (by first | with_reducible assumption | rfl) (by rfl) rfl rfl ?_
      refine st_aload_n dX11_house_167 rfl ?_
      refine st_getfr dX11_house_168 f_X11_9 (by first | with_reducible assumption | rfl) (by rfl) ?_
      refine st_iconst dX11_house_171 ?_
      refine st_ialdK (k' := 3) dX11_house_172 (by first | with_reducible assumption | rfl) rfl (by omega) (hn := by first | decide | omega) ?_
      have e3 : q_up V2 112 45 0 113 3 = B1 10 4 := by
        rw [q_up_ne (by decide), hs 3 (by decide)]
        exact hR.1.2.2.2.1
      rw [e3]
      refine r_i dX11_house_173 rfl ⟨rfl, (hE1.sub (by decide)).tr (hE2.tr (Exc.up (by decide))), hf1.fz.tr ?_, ?_, Or.inl ⟨B1, hr, rfl, ?_⟩⟩
      · intro j hj
        simp at hj
        simp only [q_up]
        rw [if_neg (by omega), h112]
      · simp only [q_up]
        rw [if_neg (by decide), h112, h20]
      · have ne : ∀ r, ¬ r = 112 → q_up V2 112 45 0 r = V2 r := fun r hr => q_up_ne hr
        refine full_new k4 k3 hR (by rw [hEB 15 (by simp)]; exact h15) (by rw [hEB 16 (by simp)]; exact h16) hx ?_ (by simp [q_up]) (by rw [ne 113 (by decide)]; exact hs) (by rw [ne 114 (by decide)]; exact e4) (by rw [ne 115 (by decide)]; exact e5) (by rw [ne 117 (by decide)]; exact e7) (by rw [ne 118 (by decide)]; exact e8) (by rw [ne 119 (by decide)]; exact e9) (by rw [ne 121 (by decide)]; exact e1) (by rw [ne 116 (by decide)]; exact e6) (by rw [ne 120 (by decide)]; exact e0)
        rw [ne 113 (by decide), e8', hE1 113 (by simp), h8]
    -- storeys of things
    have l3 : ∀ (m k : Nat) (V2 V3 : q_Mem), k + m = 3 → (∀ a, ¬ a = 120 → V3 a = V2 a) → (∀ j, j < k → V3 120 j = 0) → Exc hoX V1 V2 → V2 112 = V1 112 → V2 113 8 = V1 113 8 → (∀ j, j < 8 → V2 113 j = if j < 6 then V1 125 j else 0) → (∀ j, j < 7 → V2 114 j = V1 126 j) → (∀ j, j < 7 → V2 115 j = V1 127 j) → (∀ j, j < 42 → V2 117 j = V1 128 j) → (∀ j, j < 7 → V2 118 j = V1 129 j) → (∀ j, j < 3 → V2 119 j = V1 130 j) → (∀ j, j < 3 → V2 121 j = V1 131 j) → (∀ j, j < 7 → V2 116 j = 0) → AW0 G d m_X11_house 144 [some (.ref 112), some (I k)] [] V3 N1 (CV (fun x V1 N2 => N2 = N1 ∧ Exc hoX V V1 ∧ fz V V1 ∧ V1 112 20 = 0 ∧ ((∃ B1, hRead n B = .ok B1 ∧ x = I (B1 10 4) ∧ FullR (hNew B1 (B 3 18)) V1) ∨ (∃ F, hRead n B = .error F ∧ x = I (-2 - F) ∧ V1 112 45 = V 112 45 ∧ Exc [112, 125, 126, 127, 128, 129, 130, 131] V V1)))) := by
      intro m
      induction m with
      | zero =>
        intro k V2 V3 hk ho h0 hE2 h112 e8' hs e4 e5 e7 e8 e9 e1 e6
        have hk3 : k = 3 := by omega
        subst hk3
        refine st_iload_n dX11_house_144 rfl ?_
        refine st_iconst dX11_house_145 ?_
        refine st_icmp_ge (tgt := 162) dX11_house_146 (by omega) (by omega) rfl (fun c1 => ?_) (fun c1 => ?_)
        · skip
          exact fin V3 (hE2.tr (fun a ha => ho a (fun z => ha (by rw [z]; decide)))) (by rw [ho 112 (by decide)]; exact h112) (by rw [ho 113 (by decide)]; exact e8') (by rw [ho 113 (by decide)]; exact hs) (by rw [ho 114 (by decide)]; exact e4) (by rw [ho 115 (by decide)]; exact e5) (by rw [ho 117 (by decide)]; exact e7) (by rw [ho 118 (by decide)]; exact e8) (by rw [ho 119 (by decide)]; exact e9) (by rw [ho 121 (by decide)]; exact e1) (by rw [ho 116 (by decide)]; exact e6) h0
        · skip
          omega
      | succ m ih =>
        intro k V2 V3 hk ho h0 hE2 h112 e8' hs e4 e5 e7 e8 e9 e1 e6
        refine st_iload_n dX11_house_144 rfl ?_
        refine st_iconst dX11_house_145 ?_
        refine st_icmp_ge (tgt := 162) dX11_house_146 (by omega) (by omega) rfl (fun c1 => ?_) (fun c1 => ?_)
        · skip
          omega
        · refine st_aload_n dX11_house_149 rfl ?_
          refine st_getfr dX11_house_150 f_X11_31 (by first | with_reducible assumption | rfl) (by rfl) ?_
          refine st_iload_n dX11_house_153 rfl ?_
          refine st_iconst dX11_house_154 ?_
          first | refine st_iastK (k' := _) dX11_house_155 (by first | with_reducible assumption | rfl) rfl (by omega) (hn := by first | decide | omega) ?_ | refine st_iast dX11_house_155 (by first | with_reducible assumption | rfl) (by omega) (by omega) (hn := by first | decide | omega) ?_
          refine st_iinc (L' := [_, _]) dX11_house_156 rfl (by decide) rfl rfl ?_
          refine st_goto (tgt := 144) dX11_house_159 rfl ?_
          exact AW.to (ih (k + 1) V2 (q_up V3 120 k 0) (by omega) (fun a ha => by rw [q_up_ne ha]; exact ho a ha) (fun j hj => by
            by_cases e : j = k
            · simp [q_up, e]
            · simp [q_up, e]
              exact h0 j (by omega)) hE2 h112 e8' hs e4 e5 e7 e8 e9 e1 e6) (h2 := by simp)
    have l2 : ∀ (m k : Nat) (V2 V3 : q_Mem), k + m = 7 → (∀ a, ¬ a = 116 → V3 a = V2 a) → (∀ j, j < k → V3 116 j = 0) → Exc hoX V1 V2 → V2 112 = V1 112 → V2 113 8 = V1 113 8 → (∀ j, j < 8 → V2 113 j = if j < 6 then V1 125 j else 0) → (∀ j, j < 7 → V2 114 j = V1 126 j) → (∀ j, j < 7 → V2 115 j = V1 127 j) → (∀ j, j < 42 → V2 117 j = V1 128 j) → (∀ j, j < 7 → V2 118 j = V1 129 j) → (∀ j, j < 3 → V2 119 j = V1 130 j) → (∀ j, j < 3 → V2 121 j = V1 131 j) → AW0 G d m_X11_house 123 [some (.ref 112), some (I k)] [] V3 N1 (CV (fun x V1 N2 => N2 = N1 ∧ Exc hoX V V1 ∧ fz V V1 ∧ V1 112 20 = 0 ∧ ((∃ B1, hRead n B = .ok B1 ∧ x = I (B1 10 4) ∧ FullR (hNew B1 (B 3 18)) V1) ∨ (∃ F, hRead n B = .error F ∧ x = I (-2 - F) ∧ V1 112 45 = V 112 45 ∧ Exc [112, 125, 126, 127, 128, 129, 130, 131] V V1)))) := by
      intro m
      induction m with
      | zero =>
        intro k V2 V3 hk ho h0 hE2 h112 e8' hs e4 e5 e7 e8 e9 e1
        have hk3 : k = 7 := by omega
        subst hk3
        refine st_iload_n dX11_house_123 rfl ?_
        refine st_bipush dX11_house_124 (by decide) ?_
        refine st_icmp_ge (tgt := 142) dX11_house_126 (by omega) (by omega) rfl (fun c1 => ?_) (fun c1 => ?_)
        · refine st_iconst dX11_house_142 ?_
          refine st_istore_n (L' := [_, _]) dX11_house_143 (by decide) rfl rfl ?_
          exact l3 3 0 V3 V3 (by omega) (fun _ _ => rfl) (fun j hj => by omega) (hE2.tr (fun a ha => ho a (fun z => ha (by rw [z]; decide)))) (by rw [ho 112 (by decide)]; exact h112) (by rw [ho 113 (by decide)]; exact e8') (by rw [ho 113 (by decide)]; exact hs) (by rw [ho 114 (by decide)]; exact e4) (by rw [ho 115 (by decide)]; exact e5) (by rw [ho 117 (by decide)]; exact e7) (by rw [ho 118 (by decide)]; exact e8) (by rw [ho 119 (by decide)]; exact e9) (by rw [ho 121 (by decide)]; exact e1) h0
        · skip
          omega
      | succ m ih =>
        intro k V2 V3 hk ho h0 hE2 h112 e8' hs e4 e5 e7 e8 e9 e1
        refine st_iload_n dX11_house_123 rfl ?_
        refine st_bipush dX11_house_124 (by decide) ?_
        refine st_icmp_ge (tgt := 142) dX11_house_126 (by omega) (by omega) rfl (fun c1 => ?_) (fun c1 => ?_)
        · skip
          omega
        · refine st_aload_n dX11_house_129 rfl ?_
          refine st_getfr dX11_house_130 f_X11_19 (by first | with_reducible assumption | rfl) (by rfl) ?_
          refine st_iload_n dX11_house_133 rfl ?_
          refine st_iconst dX11_house_134 ?_
          first | refine st_iastK (k' := _) dX11_house_135 (by first | with_reducible assumption | rfl) rfl (by omega) (hn := by first | decide | omega) ?_ | refine st_iast dX11_house_135 (by first | with_reducible assumption | rfl) (by omega) (by omega) (hn := by first | decide | omega) ?_
          refine st_iinc (L' := [_, _]) dX11_house_136 rfl (by decide) rfl rfl ?_
          refine st_goto (tgt := 123) dX11_house_139 rfl ?_
          exact AW.to (ih (k + 1) V2 (q_up V3 116 k 0) (by omega) (fun a ha => by rw [q_up_ne ha]; exact ho a ha) (fun j hj => by
            by_cases e : j = k
            · simp [q_up, e]
            · simp [q_up, e]
              exact h0 j (by omega)) hE2 h112 e8' hs e4 e5 e7 e8 e9 e1) (h2 := by simp)
    -- the rows
    have cps : ∀ (V2 : q_Mem), (∀ a, ¬ a = 113 → V2 a = V1 a) → V2 113 8 = V1 113 8 → (∀ j, j < 8 → V2 113 j = if j < 6 then V1 125 j else 0) → AW0 G d m_X11_house 55 [some (.ref 112), some (I 8)] [] V2 N1 (CV (fun x V1 N2 => N2 = N1 ∧ Exc hoX V V1 ∧ fz V V1 ∧ V1 112 20 = 0 ∧ ((∃ B1, hRead n B = .ok B1 ∧ x = I (B1 10 4) ∧ FullR (hNew B1 (B 3 18)) V1) ∨ (∃ F, hRead n B = .error F ∧ x = I (-2 - F) ∧ V1 112 45 = V 112 45 ∧ Exc [112, 125, 126, 127, 128, 129, 130, 131] V V1)))) := by
      intro V2 ho e8' hs
      refine st_aload_n dX11_house_55 rfl ?_
      refine st_getfr dX11_house_56 f_X11_49 (by first | with_reducible assumption | rfl) (by rfl) ?_
      refine st_aload_n dX11_house_59 rfl ?_
      refine st_getfr dX11_house_60 f_X11_13 (by first | with_reducible assumption | rfl) (by rfl) ?_
      refine c_S2v (d' := d - 1) dX11_house_63 l_X11_353 k_X11_copies s_X11_copies (by omega) (Nat.le_of_ble_eq_true rfl) (C_copies (r := 126) (q := 114) (n := 7) (n' := 7) rfl rfl (by omega) (by omega) (by decide)) (fun V3 N3 hx => ?_)
      obtain ⟨rfl, hV3⟩ := hx
      refine st_aload_n dX11_house_66 rfl ?_
      refine st_getfr dX11_house_67 f_X11_52 (by first | with_reducible assumption | rfl) (by rfl) ?_
      refine st_aload_n dX11_house_70 rfl ?_
      refine st_getfr dX11_house_71 f_X11_16 (by first | with_reducible assumption | rfl) (by rfl) ?_
      refine c_S2v (d' := d - 1) dX11_house_74 l_X11_353 k_X11_copies s_X11_copies (by omega) (Nat.le_of_ble_eq_true rfl) (C_copies (r := 127) (q := 115) (n := 7) (n' := 7) rfl rfl (by omega) (by omega) (by decide)) (fun V4 N4 hx => ?_)
      obtain ⟨rfl, hV4⟩ := hx
      refine st_aload_n dX11_house_77 rfl ?_
      refine st_getfr dX11_house_78 f_X11_55 (by first | with_reducible assumption | rfl) (by rfl) ?_
      refine st_aload_n dX11_house_81 rfl ?_
      refine st_getfr dX11_house_82 f_X11_22 (by first | with_reducible assumption | rfl) (by rfl) ?_
      refine c_S2v (d' := d - 1) dX11_house_85 l_X11_353 k_X11_copies s_X11_copies (by omega) (Nat.le_of_ble_eq_true rfl) (C_copies (r := 128) (q := 117) (n := 42) (n' := 42) rfl rfl (by omega) (by omega) (by decide)) (fun V5 N5 hx => ?_)
      obtain ⟨rfl, hV5⟩ := hx
      refine st_aload_n dX11_house_88 rfl ?_
      refine st_getfr dX11_house_89 f_X11_58 (by first | with_reducible assumption | rfl) (by rfl) ?_
      refine st_aload_n dX11_house_92 rfl ?_
      refine st_getfr dX11_house_93 f_X11_25 (by first | with_reducible assumption | rfl) (by rfl) ?_
      refine c_S2v (d' := d - 1) dX11_house_96 l_X11_353 k_X11_copies s_X11_copies (by omega) (Nat.le_of_ble_eq_true rfl) (C_copies (r := 129) (q := 118) (n := 7) (n' := 7) rfl rfl (by omega) (by omega) (by decide)) (fun V6 N6 hx => ?_)
      obtain ⟨rfl, hV6⟩ := hx
      refine st_aload_n dX11_house_99 rfl ?_
      refine st_getfr dX11_house_100 f_X11_61 (by first | with_reducible assumption | rfl) (by rfl) ?_
      refine st_aload_n dX11_house_103 rfl ?_
      refine st_getfr dX11_house_104 f_X11_28 (by first | with_reducible assumption | rfl) (by rfl) ?_
      refine c_S2v (d' := d - 1) dX11_house_107 l_X11_353 k_X11_copies s_X11_copies (by omega) (Nat.le_of_ble_eq_true rfl) (C_copies (r := 130) (q := 119) (n := 3) (n' := 3) rfl rfl (by omega) (by omega) (by decide)) (fun V7 N7 hx => ?_)
      obtain ⟨rfl, hV7⟩ := hx
      refine st_aload_n dX11_house_110 rfl ?_
      refine st_getfr dX11_house_111 f_X11_64 (by first | with_reducible assumption | rfl) (by rfl) ?_
      refine st_aload_n dX11_house_114 rfl ?_
      refine st_getfr dX11_house_115 f_X11_34 (by first | with_reducible assumption | rfl) (by rfl) ?_
      refine c_S2v (d' := d - 1) dX11_house_118 l_X11_353 k_X11_copies s_X11_copies (by omega) (Nat.le_of_ble_eq_true rfl) (C_copies (r := 131) (q := 121) (n := 3) (n' := 3) rfl rfl (by omega) (by omega) (by decide)) (fun V8 N8 hx => ?_)
      obtain ⟨rfl, hV8⟩ := hx
      refine st_iconst dX11_house_121 ?_
      refine st_istore_n (L' := [_, _]) dX11_house_122 (by decide) rfl rfl ?_
      have o3 : ∀ a, ¬ a = 114 → V3 a = V2 a := fun a ha => by rw [hV3, cp_ne ha]
      have o4 : ∀ a, ¬ a = 115 → V4 a = V3 a := fun a ha => by rw [hV4, cp_ne ha]
      have o5 : ∀ a, ¬ a = 117 → V5 a = V4 a := fun a ha => by rw [hV5, cp_ne ha]
      have o6 : ∀ a, ¬ a = 118 → V6 a = V5 a := fun a ha => by rw [hV6, cp_ne ha]
      have o7 : ∀ a, ¬ a = 119 → V7 a = V6 a := fun a ha => by rw [hV7, cp_ne ha]
      have o8 : ∀ a, ¬ a = 121 → V8 a = V7 a := fun a ha => by rw [hV8, cp_ne ha]
      have oo : ∀ a, ¬ a = 113 → ¬ a = 114 → ¬ a = 115 → ¬ a = 117 → ¬ a = 118 → ¬ a = 119 → ¬ a = 121 → V8 a = V1 a := fun a h3 h4 h5 h7 h8 h9 h1 => by rw [o8 a h1, o7 a h9, o6 a h8, o5 a h7, o4 a h5, o3 a h4, ho a h3]
      have o113 : V8 113 = V2 113 := by rw [o8 113 (by decide), o7 113 (by decide), o6 113 (by decide), o5 113 (by decide), o4 113 (by decide), o3 113 (by decide)]
      refine l2 7 0 V8 V8 (by omega) (fun _ _ => rfl) (fun j hj => by omega) ?_ (oo 112 (by decide) (by decide) (by decide) (by decide) (by decide) (by decide) (by decide)) (by rw [o113]; exact e8') (by rw [o113]; exact hs) ?_ ?_ ?_ ?_ ?_ ?_
      · intro a ha
        exact oo a (fun z => ha (by rw [z]; decide)) (fun z => ha (by rw [z]; decide)) (fun z => ha (by rw [z]; decide)) (fun z => ha (by rw [z]; decide)) (fun z => ha (by rw [z]; decide)) (fun z => ha (by rw [z]; decide)) (fun z => ha (by rw [z]; decide))
      · intro j hj
        rw [o8 114 (by decide), o7 114 (by decide), o6 114 (by decide), o5 114 (by decide), o4 114 (by decide), hV3, cp_at hj, ho 126 (by decide)]
      · intro j hj
        rw [o8 115 (by decide), o7 115 (by decide), o6 115 (by decide), o5 115 (by decide), hV4, cp_at hj, o3 127 (by decide), ho 127 (by decide)]
      · intro j hj
        rw [o8 117 (by decide), o7 117 (by decide), o6 117 (by decide), hV5, cp_at hj, o4 128 (by decide), o3 128 (by decide), ho 128 (by decide)]
      · intro j hj
        rw [o8 118 (by decide), o7 118 (by decide), hV6, cp_at hj, o5 129 (by decide), o4 129 (by decide), o3 129 (by decide), ho 129 (by decide)]
      · intro j hj
        rw [o8 119 (by decide), hV7, cp_at hj, o6 130 (by decide), o5 130 (by decide), o4 130 (by decide), o3 130 (by decide), ho 130 (by decide)]
      · intro j hj
        rw [hV8, cp_at hj, o7 131 (by decide), o6 131 (by decide), o5 131 (by decide), o4 131 (by decide), o3 131 (by decide), ho 131 (by decide)]
    have l1 : ∀ (m k : Nat) (V2 : q_Mem), k + m = 8 → (∀ a, ¬ a = 113 → V2 a = V1 a) → V2 113 8 = V1 113 8 → (∀ j, j < k → V2 113 j = if j < 6 then V1 125 j else 0) → AW0 G d m_X11_house 21 [some (.ref 112), some (I k)] [] V2 N1 (CV (fun x V1 N2 => N2 = N1 ∧ Exc hoX V V1 ∧ fz V V1 ∧ V1 112 20 = 0 ∧ ((∃ B1, hRead n B = .ok B1 ∧ x = I (B1 10 4) ∧ FullR (hNew B1 (B 3 18)) V1) ∨ (∃ F, hRead n B = .error F ∧ x = I (-2 - F) ∧ V1 112 45 = V 112 45 ∧ Exc [112, 125, 126, 127, 128, 129, 130, 131] V V1)))) := by
      intro m
      induction m with
      | zero =>
        intro k V2 hk ho e8' hs
        have hk3 : k = 8 := by omega
        subst hk3
        refine st_iload_n dX11_house_21 rfl ?_
        refine st_bipush dX11_house_22 (by decide) ?_
        refine st_icmp_ge (tgt := 55) dX11_house_24 (by omega) (by omega) rfl (fun c1 => ?_) (fun c1 => ?_)
        · skip
          exact cps V2 ho e8' hs
        · skip
          omega
      | succ m ih =>
        intro k V2 hk ho e8' hs
        have st : ∀ z : Int, (z = if k < 6 then V1 125 k else 0) → AW0 G d m_X11_house 48 [some (.ref 112), some (I k)] [I z, I k, .ref 113] V2 N1 (CV (fun x V1 N2 => N2 = N1 ∧ Exc hoX V V1 ∧ fz V V1 ∧ V1 112 20 = 0 ∧ ((∃ B1, hRead n B = .ok B1 ∧ x = I (B1 10 4) ∧ FullR (hNew B1 (B 3 18)) V1) ∨ (∃ F, hRead n B = .error F ∧ x = I (-2 - F) ∧ V1 112 45 = V 112 45 ∧ Exc [112, 125, 126, 127, 128, 129, 130, 131] V V1)))) := by
          intro z hz'
          first | refine st_iastK (k' := _) dX11_house_48 (by first | with_reducible assumption | rfl) rfl (by omega) (hn := by first | decide | omega) ?_ | refine st_iast dX11_house_48 (by first | with_reducible assumption | rfl) (by omega) (by omega) (hn := by first | decide | omega) ?_
          refine st_iinc (L' := [_, _]) dX11_house_49 rfl (by decide) rfl rfl ?_
          refine st_goto (tgt := 21) dX11_house_52 rfl ?_
          refine AW.to (ih (k + 1) (q_up V2 113 k z) (by omega) (fun a ha => by rw [q_up_ne ha]; exact ho a ha) ?_ ?_) (h2 := by simp)
          · simp only [q_up]
            rw [if_neg (by omega)]
            exact e8'
          · intro j hj
            simp only [q_up]
            by_cases e : j = k
            · rw [if_pos (by simp [e]), e]
              exact hz'
            · rw [if_neg (fun y => e y.2)]
              exact hs j (by omega)
        refine st_iload_n dX11_house_21 rfl ?_
        refine st_bipush dX11_house_22 (by decide) ?_
        refine st_icmp_ge (tgt := 55) dX11_house_24 (by omega) (by omega) rfl (fun c1 => ?_) (fun c1 => ?_)
        · skip
          omega
        · refine st_aload_n dX11_house_27 rfl ?_
          refine st_getfr dX11_house_28 f_X11_9 (by first | with_reducible assumption | rfl) (by rfl) ?_
          refine st_iload_n dX11_house_31 rfl ?_
          refine st_iload_n dX11_house_32 rfl ?_
          refine st_bipush dX11_house_33 (by decide) ?_
          refine st_icmp_ge (tgt := 47) dX11_house_35 (by omega) (by omega) rfl (fun c2 => ?_) (fun c2 => ?_)
          · refine st_iconst dX11_house_47 ?_
            exact st 0 (by rw [if_neg (by omega)])
          · refine st_aload_n dX11_house_38 rfl ?_
            refine st_getfr dX11_house_39 f_X11_46 (by first | with_reducible assumption | rfl) (by rfl) ?_
            refine st_iload_n dX11_house_42 rfl ?_
            first | refine st_ialdK (k' := _) dX11_house_43 (by first | with_reducible assumption | rfl) rfl (by omega) (hn := by first | decide | omega) ?_ | refine st_iald dX11_house_43 (by first | with_reducible assumption | rfl) (by omega) (by omega) (hn := by first | decide | omega) ?_
            refine st_goto (tgt := 48) dX11_house_44 rfl ?_
            rw [ho 125 (by decide)]
            exact st _ (by rw [if_pos (by omega)])
    refine st_aload_n dX11_house_4 rfl ?_
    refine st_getfi dX11_house_5 f_X11_220 (by first | with_reducible assumption | rfl) (by rfl) ?_
    rw [h22]
    refine st_if_le (tgt := 19) dX11_house_8 (by omega) rfl (fun c1 => ?_) (fun c1 => ?_)
    · refine st_iconst dX11_house_19 ?_
      refine st_istore_n (L' := [_, _]) dX11_house_20 (by decide) rfl rfl ?_
      exact l1 8 0 V1 (by omega) (fun _ _ => rfl) rfl (fun j hj => by omega)
    · skip
      omega
  · refine st_aload_n dX11_house_4 rfl ?_
    refine st_getfi dX11_house_5 f_X11_220 (by first | with_reducible assumption | rfl) (by rfl) ?_
    rw [h22]
    refine st_if_le (tgt := 19) dX11_house_8 (by omega) rfl (fun c1 => ?_) (fun c1 => ?_)
    · skip
      omega
    · refine st_bipush dX11_house_11 (by decide) ?_
      refine st_aload_n dX11_house_13 rfl ?_
      refine st_getfi dX11_house_14 f_X11_220 (by first | with_reducible assumption | rfl) (by rfl) ?_
      rw [h22]
      refine st_isub dX11_house_17 ?_
      refine r_i dX11_house_18 rfl ⟨rfl, hE1.sub (by decide), hf1.fz, h20, Or.inr ⟨F, hr, rfl, hf1 45 (by simp), hE1⟩⟩


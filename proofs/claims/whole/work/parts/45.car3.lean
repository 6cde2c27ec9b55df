/-! the system's Carrier: looks on -/
def caL : List Nat := [99, 100, 101, 102]
def digC (M : q_Mem) (w : Int) (p t : Nat) (row : Nat → Int) : Prop := ∀ k, k < 2 ^ (M 3 4).toNat → (0 ≤ row k ∧ row k < 1073741824) ∧ ∀ j, j < 10 → g8 (row k) j = if j < p ∨ (7 ≤ j ∧ j < 7 + t) then homeAft M 3 w (setV k) j else 0
theorem digC_up {M : q_Mem} {w : Int} {p t p' t' one : Nat} {row row' : Nat → Int} (h3 : 0 ≤ M 3 3 ∧ M 3 3 ≤ 8) (ho : one < 10) (h : digC M w p t row) (h2 : ∀ k, k < 2 ^ (M 3 4).toNat → row' k = w8 (row k) one (homeAft M 3 w (setV k) one)) (hc : ∀ j, j < 10 → ((j < p' ∨ (7 ≤ j ∧ j < 7 + t')) ↔ (j = one ∨ (j < p ∨ (7 ≤ j ∧ j < 7 + t))))) : digC M w p' t' row' := by
  intro k hk
  obtain ⟨h1, hg⟩ := h k hk
  have hr := homeAft_rng (M := M) (a := 3) (w := w) (v := setV k) h3 one
  rw [h2 k hk]
  refine ⟨w8_lt h1 ho hr, fun j hj => ?_⟩
  rw [g8_w8 h1 ho hr, hg j hj]
  by_cases e : j = one
  · rw [if_pos e, if_pos ((hc j hj).2 (Or.inl e)), e]
  · rw [if_neg e]
    by_cases e2 : j < p ∨ (7 ≤ j ∧ j < 7 + t)
    · rw [if_pos e2, if_pos ((hc j hj).2 (Or.inr e2))]
    · rw [if_neg e2, if_neg (fun z => ((hc j hj).1 z).elim e e2)]
theorem hear1 {np : Nat} {df : Int} {st rm : Nat → Int} {i p : Nat} (hi : i < np) : 0 ≤ hearP np df st rm (aloV i) p ∧ hearP np df st rm (aloV i) p ≤ 30 := by
  by_cases hd : df.toNat.testBit p = true
  · have e : hearP np df st rm (aloV i) p = aloV i p := if_pos hd
    rw [e]
    exact aloV_rng i p
  · have e : hearP np df st rm (aloV i) p = hsum (hearF st rm (aloV i) p) np := if_neg hd
    rw [e, hsum_at hi (fun j _ hj => by
      unfold hearF aloV
      rw [if_neg hj, fade_0]
      split
      · rfl
      · split <;> rfl)]
    exact hearF_rng (aloV_rng i i)
theorem C_lookOn {G : q_G} {d : Nat} {M : q_Mem} {N : q_MemL} {w : Int} (hd : 4 ≤ d) (hM : Hrg M 3) (hw : 0 ≤ w ∧ w < 1073741824) : AC0 G d m_X0_lookOn [.ref 94, I w] M N (CN (fun M' N' => N' = N ∧ Exc caL M M' ∧ ∀ k, k < 2 ^ (M 3 4).toNat → M' 102 k = nxt M 3 w (setV k))) := by
  have hH : isHome 3 := Or.inl rfl
  obtain ⟨h2, h3, h4, h5, h6, h13, hb, hwt, hv⟩ := id hM
  have hP7 : 2 ^ (M 3 4).toNat ≤ 2 ^ 7 := Nat.pow_le_pow_right (by omega) (by omega)
  have h128 : (2 : Nat) ^ 7 = 128 := rfl
  refine AC.of (L0 := [_, _, none, none]) pn_X0 (Nat.le_of_ble_eq_true rfl) rfl ?_
  refine st_aload_n dX0_lookOn_0 rfl ?_
  refine st_getfr dX0_lookOn_1 f_X0_33 (by first | assumption | rfl) (by rfl) ?_
  refine st_iconst dX0_lookOn_4 ?_
  refine c_S2v (d' := d - 1) dX0_lookOn_5 l_X0_53 k_J7_fill_53178 s_J7_fill_53178 (by omega) (Nat.le_of_ble_eq_true rfl) (C_fill sh_102 (by decide)) (fun M1 N1 hx => ?_)
  obtain ⟨q1, r1⟩ := hx
  rw [q1]
  have hE1 : Exc caL M M1 := by
    intro a ha
    simp only [caL, List.mem_cons, List.not_mem_nil, or_false, not_or] at ha
    rw [r1]
    funext j
    simp [ha]
  have hd1 : digC M w 0 0 (M1 102) := fun k hk => by
    have e : M1 102 k = 0 := by rw [r1]; simp [show k < 128 by omega]
    rw [e]
    exact ⟨by omega, fun j hj => by rw [g8_zero, if_neg (by omega)]⟩
  refine st_iconst dX0_lookOn_8 ?_
  refine st_istore_n (L' := [_, _, _, _]) dX0_lookOn_9 (by decide) rfl rfl ?_
  have shp : ∀ (Q : q_Q0) (p : Nat), p < (M 3 4).toNat → ∀ (q s : Nat) (M1 : q_Mem), s + q = (M 3 4).toNat → Exc caL M M1 → digC M w p 0 (M1 102) → (∀ i, i < s → M1 100 i = hearP (M 3 4).toNat (M 3 6) (g8 w) (g4 (M 3 13)) (aloV i) p) →
      (∀ (M2 : q_Mem) (l3 : Option Value), Exc caL M M2 → digC M w (p + 1) 0 (M2 102) → AW0 G d m_X0_lookOn 79 [some (.ref 94), some (I w), some (I p), l3] [] M2 N Q) →
      AW0 G d m_X0_lookOn 23 [some (.ref 94), some (I w), some (I p), some (I s)] [] M1 N Q := by
    intro Q p hp q
    induction q with
    | zero =>
      intro s M1 hs hE hD hS kk
      have e3 := hE 3 (by decide)
      have e4 := hE 4 (by decide)
      have hss : s = (M 3 4).toNat := by omega
      refine st_iload_n dX0_lookOn_23 rfl ?_
      refine st_aload_n dX0_lookOn_24 rfl ?_
      refine st_getfr dX0_lookOn_25 f_X0_36 (by first | assumption | rfl) (by rfl) ?_
      refine st_getfi dX0_lookOn_28 f_X0_74 (by first | assumption | rfl) (by rfl) ?_
      rw [e3]
      refine st_icmp_ge (tgt := 73) dX0_lookOn_31 (by omega) (by omega) rfl (fun h => ?_) (fun h => ?_)
      · refine st_aload_n dX0_lookOn_73 rfl ?_
        refine st_iload_n dX0_lookOn_74 rfl ?_
        refine st_iconst dX0_lookOn_75 ?_
        have hsr : ∀ i, i < (M 3 4).toNat → 0 ≤ M1 100 i ∧ M1 100 i ≤ 30 := fun i hi => by rw [hS i (by omega)]; exact hear1 hi
        refine c_V2v (d' := d - 1) dX0_lookOn_76 l_X0_95 k_X0_lift i_X0_lift (Or.inl ⟨_, _, _, _, _, (by first | assumption | rfl), by rfl⟩) (by omega) (Nat.le_of_ble_eq_true rfl) (C_lift (by omega) (by rw [e3]; exact h3) (by rw [e3]; exact h4) (by rw [e4]; exact hb) (by omega) (by omega) (by rw [e3]; exact hsr) (by rw [e3]; exact fun k hk => (hD k hk).1)) (fun M2 N2 hx => ?_)
        obtain ⟨q2, hE2, hl⟩ := hx
        rw [q2]
        rw [e3, e4] at hl
        refine kk M2 _ (hE.tr (hE2.sub (by decide))) (digC_up (one := p) h3 (by omega) hD (fun k hk => ?_) (fun j hj => by omega))
        rw [hl k hk]
        congr 1
        have hpr := hearP_rng (df := M 3 6) (st := g8 w) (rm := g4 (M 3 13)) (v := setV k) hp (by omega) (fun j _ => setV_rng k j)
        rw [shS_congr (b := fun q => hearP (M 3 4).toNat (M 3 6) (g8 w) (g4 (M 3 13)) (aloV q) p) (fun q hq _ => hS q (by omega)), lin_hear hp]
        unfold homeAft aftD
        rw [if_pos hp, show max 0 (hearP (M 3 4).toNat (M 3 6) (g8 w) (g4 (M 3 13)) (setV k) p - 0) = hearP (M 3 4).toNat (M 3 6) (g8 w) (g4 (M 3 13)) (setV k) p by omega]
      · skip
        omega
    | succ q ih =>
      intro s M1 hs hE hD hS kk
      have e3 := hE 3 (by decide)
      refine st_iload_n dX0_lookOn_23 rfl ?_
      refine st_aload_n dX0_lookOn_24 rfl ?_
      refine st_getfr dX0_lookOn_25 f_X0_36 (by first | assumption | rfl) (by rfl) ?_
      refine st_getfi dX0_lookOn_28 f_X0_74 (by first | assumption | rfl) (by rfl) ?_
      rw [e3]
      refine st_icmp_ge (tgt := 73) dX0_lookOn_31 (by omega) (by omega) rfl (fun h => ?_) (fun h => ?_)
      · skip
        omega
      · refine st_aload_n dX0_lookOn_34 rfl ?_
        refine st_iload_n dX0_lookOn_35 rfl ?_
        refine c_V1v (d' := d - 1) dX0_lookOn_36 l_X0_85 k_X0_singAlone i_X0_singAlone (Or.inl ⟨_, _, _, _, _, (by first | assumption | rfl), by rfl⟩) (by omega) (Nat.le_of_ble_eq_true rfl) (C_singAlone (by omega) (by omega)) (fun M2 N2 hx => ?_)
        obtain ⟨q2, hE2, hv2⟩ := hx
        rw [q2]
        have hE3 : Exc caL M M2 := hE.tr (hE2.sub (by decide))
        have f3 := hE3 3 (by decide)
        refine st_aload_n dX0_lookOn_39 rfl ?_
        refine st_getfr dX0_lookOn_40 f_X0_27 (by first | assumption | rfl) (by rfl) ?_
        refine st_iload_n dX0_lookOn_43 rfl ?_
        refine st_aload_n dX0_lookOn_44 rfl ?_
        refine st_getfr dX0_lookOn_45 f_X0_36 (by first | assumption | rfl) (by rfl) ?_
        refine st_iload_n dX0_lookOn_48 rfl ?_
        refine st_iload_n dX0_lookOn_49 rfl ?_
        refine st_aload_n dX0_lookOn_50 rfl ?_
        refine st_getfr dX0_lookOn_51 f_X0_36 (by first | assumption | rfl) (by rfl) ?_
        refine st_getfi dX0_lookOn_54 f_X0_88 (by first | assumption | rfl) (by rfl) ?_
        refine st_aload_n dX0_lookOn_57 rfl ?_
        refine st_getfr dX0_lookOn_58 f_X0_24 (by first | assumption | rfl) (by rfl) ?_
        refine c_V4p (d' := d - 1) dX0_lookOn_61 l_X0_91 k_X2_heardBy i_X2_heardBy (Or.inl ⟨_, _, _, _, _, (by first | assumption | rfl), by rfl⟩) (by omega) (Nat.le_of_ble_eq_true rfl) (C_heardBy hH (by omega) (hM.exc hE3 (by decide) (by decide) (by decide) (by decide)) sh_99 (by decide) (by rw [f3]; exact hp) (by omega) (by rw [f3]; omega) (fun j hj => by rw [f3] at hj; rw [hv2 j (by omega)]; exact aloV_rng s j)) ?_
        rw [f3, hearP_congr (v' := aloV s) hp (fun _ _ => rfl) (fun _ _ => rfl) (fun j hj => hv2 j (by omega))]
        refine c_S3v (d' := d - 1) dX0_lookOn_64 l_X0_81 k_X10_put s_X10_put (by omega) (Nat.le_of_ble_eq_true rfl) (C_putI sh_100 (by decide) (by omega)) (fun M4 N4 hx => ?_)
        obtain ⟨r4, q4⟩ := hx
        rw [q4]
        refine st_iinc (L' := [_, _, _, _]) dX0_lookOn_67 rfl (by decide) rfl rfl ?_
        refine st_goto (tgt := 23) dX0_lookOn_70 rfl ?_
        refine AW.to (ih (s + 1) M4 (by omega) (r4 ▸ hE3.tr (Exc.up (by decide))) (by rw [r4, q_up_ne (by decide), hE2 102 (by decide)]; exact hD) (fun i hi => ?_) kk) (h2 := by simp)
        rw [r4]
        by_cases e : i = s
        · rw [e]; simp [q_up]
        · rw [← hS i (by omega), ← hE2 100 (by decide)]
          simp [q_up, e]
  sorry


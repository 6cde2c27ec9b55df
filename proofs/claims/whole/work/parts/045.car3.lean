/-! the system's Carrier: looks on -/
def caL : List Nat := [99, 100, 101, 102]
def digC (M : q_Mem) (w : Int) (p t : Nat) (row : Nat → Int) : Prop := ∀ k, k < 2 ^ (M 3 4).toNat → (0 ≤ row k ∧ row k < 1073741824) ∧ ∀ j, j < 10 → g8 (row k) j = if j < p ∨ (7 ≤ j ∧ j < 7 + t) then homeAft M 3 w (setV k) j else 0
theorem digC_up {M : q_Mem} {w : Int} {p t p' t' one : Nat} {row row' : Nat → Int} (h3 : 0 ≤ M 3 3 ∧ M 3 3 ≤ 8) (ho : one < 10) (h : digC M w p t row) (h2 : ∀ k, k < 2 ^ (M 3 4).toNat → row' k = w8 (row k) one (homeAft M 3 w (setV k) one)) (hc : ∀ j, j < 10 → ((j < p' ∨ (7 ≤ j ∧ j < 7 + t')) ↔ (j = one ∨ (j < p ∨ (7 ≤ j ∧ j < 7 + t))))) : digC M w p' t' row' := by
  intro k hk
  obtain ⟨h1, hg⟩ := h k hk
  have hr := homeAft_rng (M := M) (a := 3) (w := w) (v := setV k) h3 one
  rw [h2 k hk]
  refine ⟨w8_lt h1 ho hr, fun j hj => ?_⟩
  rw [g8_w8 h1 ho hr, hg j hj]
  by_cases e : j = one
  · rw [if_pos e, if_pos ((hc j hj).2 (Or.inl e)), e]
  · rw [if_neg e]
    by_cases e2 : j < p ∨ (7 ≤ j ∧ j < 7 + t)
    · rw [if_pos e2, if_pos ((hc j hj).2 (Or.inr e2))]
    · rw [if_neg e2, if_neg (fun z => ((hc j hj).1 z).elim e e2)]
theorem hear1 {np : Nat} {df : Int} {st rm : Nat → Int} {i p : Nat} (hi : i < np) : 0 ≤ hearP np df st rm (aloV i) p ∧ hearP np df st rm (aloV i) p ≤ 30 := by
  by_cases hd : df.toNat.testBit p = true
  · have e : hearP np df st rm (aloV i) p = aloV i p := if_pos hd
    rw [e]
    exact aloV_rng i p
  · have e : hearP np df st rm (aloV i) p = hsum (hearF st rm (aloV i) p) np := if_neg hd
    rw [e, hsum_at hi (fun j _ hj => by
      unfold hearF aloV
      rw [if_neg hj, fade_0]
      split
      · rfl
      · split <;> rfl)]
    exact hearF_rng (aloV_rng i i)
theorem C_lookOn {G : q_G} {d : Nat} {M : q_Mem} {N : q_MemL} {w : Int} (hd : 4 ≤ d) (hM : Hrg M 3) (hw : 0 ≤ w ∧ w < 1073741824) : AC0 G d m_X0_lookOn [.ref 94, I w] M N (CN (fun M' N' => N' = N ∧ Exc caL M M' ∧ ∀ k, k < 2 ^ (M 3 4).toNat → M' 102 k = nxt M 3 w (setV k))) := by
  have hH : isHome 3 := Or.inl rfl
  obtain ⟨h2, h3, h4, h5, h6, h13, hb, hwt, hv⟩ := id hM
  have hP7 : 2 ^ (M 3 4).toNat ≤ 2 ^ 7 := Nat.pow_le_pow_right (by omega) (by omega)
  have h128 : (2 : Nat) ^ 7 = 128 := rfl
  refine AC.of (L0 := [_, _, none, none]) pn_X0 (Nat.le_of_ble_eq_true rfl) rfl ?_
  refine st_aload_n dX0_lookOn_0 rfl ?_
  refine st_getfr dX0_lookOn_1 f_X0_33 (by first | assumption | rfl) (by rfl) ?_
  refine st_iconst dX0_lookOn_4 ?_
  refine c_S2v (d' := d - 1) dX0_lookOn_5 l_X0_53 k_J7_fill_53178 s_J7_fill_53178 (by omega) (Nat.le_of_ble_eq_true rfl) (C_fill sh_102 (by decide)) (fun M1 N1 hx => ?_)
  obtain ⟨q1, r1⟩ := hx
  rw [q1]
  have hE1 : Exc caL M M1 := by
    intro a ha
    simp only [caL, List.mem_cons, List.not_mem_nil, or_false, not_or] at ha
    rw [r1]
    funext j
    simp [ha]
  have hd1 : digC M w 0 0 (M1 102) := fun k hk => by
    have e : M1 102 k = 0 := by rw [r1]; simp [show k < 128 by omega]
    rw [e]
    exact ⟨by omega, fun j hj => by rw [g8_zero, if_neg (by omega)]⟩
  refine st_iconst dX0_lookOn_8 ?_
  refine st_istore_n (L' := [_, _, _, _]) dX0_lookOn_9 (by decide) rfl rfl ?_
  have shp : ∀ (Q : q_Q0) (p : Nat), p < (M 3 4).toNat → ∀ (q s : Nat) (M1 : q_Mem), s + q = (M 3 4).toNat → Exc caL M M1 → digC M w p 0 (M1 102) → (∀ i, i < s → M1 100 i = hearP (M 3 4).toNat (M 3 6) (g8 w) (g4 (M 3 13)) (aloV i) p) →
      (∀ (M2 : q_Mem) (l3 : Option Value), Exc caL M M2 → digC M w (p + 1) 0 (M2 102) → AW0 G d m_X0_lookOn 79 [some (.ref 94), some (I w), some (I p), l3] [] M2 N Q) →
      AW0 G d m_X0_lookOn 23 [some (.ref 94), some (I w), some (I p), some (I s)] [] M1 N Q := by
    intro Q p hp q
    induction q with
    | zero =>
      intro s M1 hs hE hD hS kk
      have e3 := hE 3 (by decide)
      have e4 := hE 4 (by decide)
      have hss : s = (M 3 4).toNat := by omega
      refine st_iload_n dX0_lookOn_23 rfl ?_
      refine st_aload_n dX0_lookOn_24 rfl ?_
      refine st_getfr dX0_lookOn_25 f_X0_36 (by first | assumption | rfl) (by rfl) ?_
      refine st_getfi dX0_lookOn_28 f_X0_74 (by first | assumption | rfl) (by rfl) ?_
      rw [e3]
      refine st_icmp_ge (tgt := 73) dX0_lookOn_31 (by omega) (by omega) rfl (fun h => ?_) (fun h => ?_)
      · refine st_aload_n dX0_lookOn_73 rfl ?_
        refine st_iload_n dX0_lookOn_74 rfl ?_
        refine st_iconst dX0_lookOn_75 ?_
        have hsr : ∀ i, i < (M 3 4).toNat → 0 ≤ M1 100 i ∧ M1 100 i ≤ 30 := fun i hi => by rw [hS i (by omega)]; exact hear1 hi
        refine c_V2v (d' := d - 1) dX0_lookOn_76 l_X0_95 k_X0_lift i_X0_lift (Or.inl ⟨_, _, _, _, _, (by first | assumption | rfl), by rfl⟩) (by omega) (Nat.le_of_ble_eq_true rfl) (C_lift (by omega) (by rw [e3]; exact h3) (by rw [e3]; exact h4) (by rw [e4]; exact hb) (by omega) (by omega) (by rw [e3]; exact hsr) (by rw [e3]; exact fun k hk => (hD k hk).1)) (fun M2 N2 hx => ?_)
        obtain ⟨q2, hE2, hl⟩ := hx
        rw [q2]
        rw [e3, e4] at hl
        refine kk M2 _ (hE.tr (hE2.sub (by decide))) (digC_up (one := p) h3 (by omega) hD (fun k hk => ?_) (fun j hj => by omega))
        rw [hl k hk]
        congr 1
        have hpr := hearP_rng (df := M 3 6) (st := g8 w) (rm := g4 (M 3 13)) (v := setV k) hp (by omega) (fun j _ => setV_rng k j)
        rw [shS_congr (b := fun q => hearP (M 3 4).toNat (M 3 6) (g8 w) (g4 (M 3 13)) (aloV q) p) (fun q hq _ => hS q (by omega)), lin_hear hp]
        unfold homeAft aftD
        rw [if_pos hp, show max 0 (hearP (M 3 4).toNat (M 3 6) (g8 w) (g4 (M 3 13)) (setV k) p - 0) = hearP (M 3 4).toNat (M 3 6) (g8 w) (g4 (M 3 13)) (setV k) p by omega]
      · skip
        omega
    | succ q ih =>
      intro s M1 hs hE hD hS kk
      have e3 := hE 3 (by decide)
      refine st_iload_n dX0_lookOn_23 rfl ?_
      refine st_aload_n dX0_lookOn_24 rfl ?_
      refine st_getfr dX0_lookOn_25 f_X0_36 (by first | assumption | rfl) (by rfl) ?_
      refine st_getfi dX0_lookOn_28 f_X0_74 (by first | assumption | rfl) (by rfl) ?_
      rw [e3]
      refine st_icmp_ge (tgt := 73) dX0_lookOn_31 (by omega) (by omega) rfl (fun h => ?_) (fun h => ?_)
      · skip
        omega
      · refine st_aload_n dX0_lookOn_34 rfl ?_
        refine st_iload_n dX0_lookOn_35 rfl ?_
        refine c_V1v (d' := d - 1) dX0_lookOn_36 l_X0_85 k_X0_singAlone i_X0_singAlone (Or.inl ⟨_, _, _, _, _, (by first | assumption | rfl), by rfl⟩) (by omega) (Nat.le_of_ble_eq_true rfl) (C_singAlone (by omega) (by omega)) (fun M2 N2 hx => ?_)
        obtain ⟨q2, hE2, hv2⟩ := hx
        rw [q2]
        have hE3 : Exc caL M M2 := hE.tr (hE2.sub (by decide))
        have f3 := hE3 3 (by decide)
        refine st_aload_n dX0_lookOn_39 rfl ?_
        refine st_getfr dX0_lookOn_40 f_X0_27 (by first | assumption | rfl) (by rfl) ?_
        refine st_iload_n dX0_lookOn_43 rfl ?_
        refine st_aload_n dX0_lookOn_44 rfl ?_
        refine st_getfr dX0_lookOn_45 f_X0_36 (by first | assumption | rfl) (by rfl) ?_
        refine st_iload_n dX0_lookOn_48 rfl ?_
        refine st_iload_n dX0_lookOn_49 rfl ?_
        refine st_aload_n dX0_lookOn_50 rfl ?_
        refine st_getfr dX0_lookOn_51 f_X0_36 (by first | assumption | rfl) (by rfl) ?_
        refine st_getfi dX0_lookOn_54 f_X0_88 (by first | assumption | rfl) (by rfl) ?_
        refine st_aload_n dX0_lookOn_57 rfl ?_
        refine st_getfr dX0_lookOn_58 f_X0_24 (by first | assumption | rfl) (by rfl) ?_
        refine c_V4p (d' := d - 1) dX0_lookOn_61 l_X0_91 k_X2_heardBy i_X2_heardBy (Or.inl ⟨_, _, _, _, _, (by first | assumption | rfl), by rfl⟩) (by omega) (Nat.le_of_ble_eq_true rfl) (C_heardBy hH (by omega) (hM.exc hE3 (by decide) (by decide) (by decide) (by decide)) sh_99 (by decide) (by rw [f3]; exact hp) (by omega) (by rw [f3]; omega) (fun j hj => by rw [f3] at hj; rw [hv2 j (by omega)]; exact aloV_rng s j)) ?_
        rw [f3, hearP_congr (v' := aloV s) hp (fun _ _ => rfl) (fun _ _ => rfl) (fun j hj => hv2 j (by omega))]
        refine c_S3v (d' := d - 1) dX0_lookOn_64 l_X0_81 k_X10_put s_X10_put (by omega) (Nat.le_of_ble_eq_true rfl) (C_putI sh_100 (by decide) (by omega)) (fun M4 N4 hx => ?_)
        obtain ⟨r4, q4⟩ := hx
        rw [q4]
        refine st_iinc (L' := [_, _, _, _]) dX0_lookOn_67 rfl (by decide) rfl rfl ?_
        refine st_goto (tgt := 23) dX0_lookOn_70 rfl ?_
        refine AW.to (ih (s + 1) M4 (by omega) (r4 ▸ hE3.tr (Exc.up (by decide))) (by rw [r4, q_up_ne (by decide), hE2 102 (by decide)]; exact hD) (fun i hi => ?_) kk) (h2 := by simp)
        rw [r4]
        by_cases e : i = s
        · rw [e]; simp [q_up]
        · rw [← hS i (by omega), ← hE2 100 (by decide)]
          simp [q_up, e]
  have sht : ∀ (Q : q_Q0) (t : Nat), t < (M 3 5).toNat → ∀ (q s : Nat) (M1 : q_Mem), s + q = (M 3 4).toNat → Exc caL M M1 → digC M w (M 3 4).toNat t (M1 102) → (∀ i, i < s → M1 100 i = if g4 (M 3 13) (7 + t) = g4 (M 3 13) i ∧ g8 w (7 + t) = g8 w i then 30 else 0) →
      (∀ (M2 : q_Mem) (l3 : Option Value), Exc caL M M2 → digC M w (M 3 4).toNat (t + 1) (M2 102) → AW0 G d m_X0_lookOn 163 [some (.ref 94), some (I w), some (I t), l3] [] M2 N Q) →
      AW0 G d m_X0_lookOn 100 [some (.ref 94), some (I w), some (I t), some (I s)] [] M1 N Q := by
    intro Q t ht q
    induction q with
    | zero =>
      intro s M1 hs hE hD hS kk
      have e3 := hE 3 (by decide)
      have e4 := hE 4 (by decide)
      have e6 := hE 6 (by decide)
      have hss : s = (M 3 4).toNat := by omega
      have hwt2 := hwt t
      rw [show 3 + 3 = 6 from rfl] at hwt2
      refine st_iload_n dX0_lookOn_100 rfl ?_
      refine st_aload_n dX0_lookOn_101 rfl ?_
      refine st_getfr dX0_lookOn_102 f_X0_36 (by first | assumption | rfl) (by rfl) ?_
      refine st_getfi dX0_lookOn_105 f_X0_74 (by first | assumption | rfl) (by rfl) ?_
      rw [e3]
      refine st_icmp_ge (tgt := 144) dX0_lookOn_108 (by omega) (by omega) rfl (fun h => ?_) (fun h => ?_)
      · refine st_aload_n dX0_lookOn_144 rfl ?_
        refine st_bipush dX0_lookOn_145 (by decide) ?_
        refine st_iload_n dX0_lookOn_147 rfl ?_
        refine st_iadd dX0_lookOn_148 ?_
        refine st_aload_n dX0_lookOn_149 rfl ?_
        refine st_getfr dX0_lookOn_150 f_X0_36 (by first | assumption | rfl) (by rfl) ?_
        refine st_getfr dX0_lookOn_153 f_X0_105 (by first | assumption | rfl) (by rfl) ?_
        refine st_iload_n dX0_lookOn_156 rfl ?_
        have hsr : ∀ i, i < (M 3 4).toNat → 0 ≤ M1 100 i ∧ M1 100 i ≤ 30 := fun i hi => by rw [hS i (by omega)]; split <;> omega
        refine c_S2p (d' := d - 1) dX0_lookOn_157 l_X0_66 k_X10_cell s_X10_cell (by omega) (Nat.le_of_ble_eq_true rfl) (C_cellI sh_6 (by decide) (by omega)) ?_
        rw [Int.toNat_natCast, e6, show (7 : Int) + (t : Int) = ((7 + t : Nat) : Int) by omega]
        refine c_V2v (d' := d - 1) dX0_lookOn_160 l_X0_95 k_X0_lift i_X0_lift (Or.inl ⟨_, _, _, _, _, (by first | assumption | rfl), by rfl⟩) (by omega) (Nat.le_of_ble_eq_true rfl) (C_lift (by omega) (by rw [e3]; exact h3) (by rw [e3]; exact h4) (by rw [e4]; exact hb) (by omega) hwt2 (by rw [e3]; exact hsr) (by rw [e3]; exact fun k hk => (hD k hk).1)) (fun M2 N2 hx => ?_)
        obtain ⟨q2, hE2, hl⟩ := hx
        rw [q2]
        rw [e3, e4] at hl
        refine kk M2 _ (hE.tr (hE2.sub (by decide))) (digC_up (one := 7 + t) h3 (by omega) hD (fun k hk => ?_) (fun j hj => by omega))
        rw [hl k hk]
        congr 1
        rw [shS_congr (b := fun q => if g4 (M 3 13) (7 + t) = g4 (M 3 13) q ∧ g8 w (7 + t) = g8 w q then 30 else 0) (fun q hq _ => hS q (by omega)), lin_thing]
        unfold homeAft aftD hearT
        rw [if_neg (by omega), if_pos (by omega), show 7 + t - 7 = t by omega, show M (3 + 3) t = M 6 t from rfl, Int.max_comm 0]
      · skip
        omega
    | succ q ih =>
      intro s M1 hs hE hD hS kk
      have e3 := hE 3 (by decide)
      refine st_iload_n dX0_lookOn_100 rfl ?_
      refine st_aload_n dX0_lookOn_101 rfl ?_
      refine st_getfr dX0_lookOn_102 f_X0_36 (by first | assumption | rfl) (by rfl) ?_
      refine st_getfi dX0_lookOn_105 f_X0_74 (by first | assumption | rfl) (by rfl) ?_
      rw [e3]
      refine st_icmp_ge (tgt := 144) dX0_lookOn_108 (by omega) (by omega) rfl (fun h => ?_) (fun h => ?_)
      · skip
        omega
      · refine st_aload_n dX0_lookOn_111 rfl ?_
        refine st_getfr dX0_lookOn_112 f_X0_27 (by first | assumption | rfl) (by rfl) ?_
        refine st_iload_n dX0_lookOn_115 rfl ?_
        refine st_aload_n dX0_lookOn_116 rfl ?_
        refine st_getfr dX0_lookOn_117 f_X0_36 (by first | assumption | rfl) (by rfl) ?_
        refine st_iload_n dX0_lookOn_120 rfl ?_
        refine st_iload_n dX0_lookOn_121 rfl ?_
        refine st_iload_n dX0_lookOn_122 rfl ?_
        refine c_V3p (d' := d - 1) dX0_lookOn_123 l_X0_102 k_X2_isWith i_X2_isWith (Or.inl ⟨_, _, _, _, _, (by first | assumption | rfl), by rfl⟩) (by omega) (Nat.le_of_ble_eq_true rfl) (C_isWith hH (by omega) (by rw [e3]; exact h13) (by omega) (by omega) (by omega)) ?_
        rw [e3]
        have fin : ∀ (z : Int), z = (if g4 (M 3 13) (7 + t) = g4 (M 3 13) s ∧ g8 w (7 + t) = g8 w s then 30 else 0) → AW0 G d m_X0_lookOn 135 [some (.ref 94), some (I w), some (I t), some (I s)] [I z, I s, .ref 100] M1 N Q := by
          intro z hz
          refine c_S3v (d' := d - 1) dX0_lookOn_135 l_X0_81 k_X10_put s_X10_put (by omega) (Nat.le_of_ble_eq_true rfl) (C_putI sh_100 (by decide) (by omega)) (fun M4 N4 hx => ?_)
          obtain ⟨r4, q4⟩ := hx
          rw [q4]
          refine st_iinc (L' := [_, _, _, _]) dX0_lookOn_138 rfl (by decide) rfl rfl ?_
          refine st_goto (tgt := 100) dX0_lookOn_141 rfl ?_
          refine AW.to (ih (s + 1) M4 (by omega) (r4 ▸ hE.tr (Exc.up (by decide))) (by rw [r4, q_up_ne (by decide)]; exact hD) (fun i hi => ?_) kk) (h2 := by simp)
          rw [r4]
          by_cases e : i = s
          · rw [e, ← hz]; simp [q_up]
          · rw [← hS i (by omega)]
            simp [q_up, e]
        refine b_eq (tgt := 134) dX0_lookOn_126 rfl (fun h7 => ?_) (fun h7 => ?_)
        · refine st_iconst dX0_lookOn_134 ?_
          exact fin 0 (if_neg h7).symm
        · refine st_bipush dX0_lookOn_129 (by decide) ?_
          refine st_goto (tgt := 135) dX0_lookOn_131 rfl ?_
          exact fin 30 (if_pos h7).symm
  have lt : ∀ (q t : Nat) (M1 : q_Mem), t + q = (M 3 5).toNat → Exc caL M M1 → digC M w (M 3 4).toNat t (M1 102) → {l3 : Option Value} → AW0 G d m_X0_lookOn 87 [some (.ref 94), some (I w), some (I t), l3] [] M1 N (CN (fun M' N' => N' = N ∧ Exc caL M M' ∧ ∀ k, k < 2 ^ (M 3 4).toNat → M' 102 k = nxt M 3 w (setV k))) := by
    intro q
    induction q with
    | zero =>
      intro t M1 ht hE hD l3
      have e3 := hE 3 (by decide)
      refine st_iload_n dX0_lookOn_87 rfl ?_
      refine st_aload_n dX0_lookOn_88 rfl ?_
      refine st_getfr dX0_lookOn_89 f_X0_36 (by first | assumption | rfl) (by rfl) ?_
      refine st_getfi dX0_lookOn_92 f_X0_99 (by first | assumption | rfl) (by rfl) ?_
      rw [e3]
      refine st_icmp_ge (tgt := 169) dX0_lookOn_95 (by omega) (by omega) rfl (fun h => ?_) (fun h => ?_)
      · skip
        refine r_v dX0_lookOn_169 rfl ⟨rfl, hE, fun k hk => nxt_eq h3 (hD k hk).1 (fun j hj => ?_)⟩
        rw [(hD k hk).2 j hj]
        split
        · rfl
        · unfold homeAft aftD
          rw [if_neg (by omega), if_neg (by omega)]
      · skip
        omega
    | succ q ih =>
      intro t M1 ht hE hD l3
      have e3 := hE 3 (by decide)
      refine st_iload_n dX0_lookOn_87 rfl ?_
      refine st_aload_n dX0_lookOn_88 rfl ?_
      refine st_getfr dX0_lookOn_89 f_X0_36 (by first | assumption | rfl) (by rfl) ?_
      refine st_getfi dX0_lookOn_92 f_X0_99 (by first | assumption | rfl) (by rfl) ?_
      rw [e3]
      refine st_icmp_ge (tgt := 169) dX0_lookOn_95 (by omega) (by omega) rfl (fun h => ?_) (fun h => ?_)
      · skip
        omega
      · refine st_iconst dX0_lookOn_98 ?_
        refine st_istore_n (L' := [_, _, _, _]) dX0_lookOn_99 (by decide) rfl rfl ?_
        refine AW.to (sht _ t (by omega) (M 3 4).toNat 0 M1 (by omega) hE hD (fun i hi => by omega) (fun M2 l3 hE2 hD2 => ?_))
        refine st_iinc (L' := [_, _, _, _]) dX0_lookOn_163 rfl (by decide) rfl rfl ?_
        refine st_goto (tgt := 87) dX0_lookOn_166 rfl ?_
        exact AW.to (ih (t + 1) M2 (by omega) hE2 hD2 (l3 := l3)) (h2 := by simp)
  have lp : ∀ (q p : Nat) (M1 : q_Mem), p + q = (M 3 4).toNat → Exc caL M M1 → digC M w p 0 (M1 102) → {l3 : Option Value} → AW0 G d m_X0_lookOn 10 [some (.ref 94), some (I w), some (I p), l3] [] M1 N (CN (fun M' N' => N' = N ∧ Exc caL M M' ∧ ∀ k, k < 2 ^ (M 3 4).toNat → M' 102 k = nxt M 3 w (setV k))) := by
    intro q
    induction q with
    | zero =>
      intro p M1 hp hE hD l3
      have e3 := hE 3 (by decide)
      refine st_iload_n dX0_lookOn_10 rfl ?_
      refine st_aload_n dX0_lookOn_11 rfl ?_
      refine st_getfr dX0_lookOn_12 f_X0_36 (by first | assumption | rfl) (by rfl) ?_
      refine st_getfi dX0_lookOn_15 f_X0_74 (by first | assumption | rfl) (by rfl) ?_
      rw [e3]
      refine st_icmp_ge (tgt := 85) dX0_lookOn_18 (by omega) (by omega) rfl (fun h => ?_) (fun h => ?_)
      · refine st_iconst dX0_lookOn_85 ?_
        refine st_istore_n (L' := [_, _, _, _]) dX0_lookOn_86 (by decide) rfl rfl ?_
        exact AW.to (lt (M 3 5).toNat 0 M1 (by omega) hE (by rw [show (M 3 4).toNat = p by omega]; exact hD) (l3 := l3))
      · skip
        omega
    | succ q ih =>
      intro p M1 hp hE hD l3
      have e3 := hE 3 (by decide)
      refine st_iload_n dX0_lookOn_10 rfl ?_
      refine st_aload_n dX0_lookOn_11 rfl ?_
      refine st_getfr dX0_lookOn_12 f_X0_36 (by first | assumption | rfl) (by rfl) ?_
      refine st_getfi dX0_lookOn_15 f_X0_74 (by first | assumption | rfl) (by rfl) ?_
      rw [e3]
      refine st_icmp_ge (tgt := 85) dX0_lookOn_18 (by omega) (by omega) rfl (fun h => ?_) (fun h => ?_)
      · skip
        omega
      · refine st_iconst dX0_lookOn_21 ?_
        refine st_istore_n (L' := [_, _, _, _]) dX0_lookOn_22 (by decide) rfl rfl ?_
        refine AW.to (shp _ p (by omega) (M 3 4).toNat 0 M1 (by omega) hE hD (fun i hi => by omega) (fun M2 l3 hE2 hD2 => ?_))
        refine st_iinc (L' := [_, _, _, _]) dX0_lookOn_79 rfl (by decide) rfl rfl ?_
        refine st_goto (tgt := 10) dX0_lookOn_82 rfl ?_
        exact AW.to (ih (p + 1) M2 (by omega) hE2 hD2 (l3 := l3)) (h2 := by simp)
  exact AW.to (lp (M 3 4).toNat 0 M1 (by omega) hE1 hd1 (l3 := none))


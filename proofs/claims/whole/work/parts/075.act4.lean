/-! the reference's acts: undo, ear -/
theorem his_same {B B1 V V1 : q_Mem} (h : HisR B V) (e : ∀ j, j ∈ [2, 4, 5, 15] → B1 3 j = B 3 j) (e7 : B1 7 = B 7) (e8 : B1 8 = B 8) (v : V1 112 45 = V 112 45) (v2 : V1 145 = V 145) : HisR B1 V1 := by
  obtain ⟨h45, vo, a1, a2, a3⟩ := h
  have e15 := e 15 (by decide)
  refine ⟨by rw [v, e15]; exact h45, vo, fun j hj => by rw [e15, e7]; exact a1 j hj, fun k hk j hj => ?_, fun k hk => ?_⟩
  · rw [e8]; exact a2 k (by rw [← e15]; exact hk) j hj
  · rw [e8]
    have := a3 k (by rw [← e15]; exact hk)
    unfold snapR at *
    rw [v2, e 4 (by decide), e 5 (by decide), e 2 (by decide)]
    exact this
theorem past_same {B B1 : q_Mem} (h : PastOk B) (e : ∀ j, j ∈ [4, 5, 15] → B1 3 j = B 3 j) (e8 : B1 8 = B 8) : PastOk B1 := by
  unfold PastOk at *
  rw [e 4 (by decide), e 5 (by decide), e 15 (by decide), e8]
  exact h
theorem tb_f {B : q_Mem} {j : Nat} (a : ¬ j = 15) (b : ¬ j = 11) (c : ¬ j = 12) (d : ¬ j = 13) : tbM B 3 3 j = B 3 j := by
  unfold tbM
  split
  · rw [q_up_ne (by decide)]; simp [q_up, a, b, c, d]
  · simp [q_up, a, b, c, d]
theorem tb_r {B : q_Mem} {a : Nat} (h : a ≠ 3) (h2 : a ≠ 7) : tbM B 3 a = B a := by
  unfold tbM
  split
  · rw [q_up_ne h2, q_up_ne h, q_up_ne h, q_up_ne h, q_up_ne h]
  · rw [q_up_ne h, q_up_ne h, q_up_ne h, q_up_ne h]
theorem tb_s {B : q_Mem} {k : Nat} (hk : B 3 15 = (k : Int) + 1) : tbM B 3 3 15 = k ∧ tbM B 3 3 11 = B 8 (5 * k) ∧ tbM B 3 3 12 = B 8 (5 * k + 1) ∧ tbM B 3 3 13 = B 8 (5 * k + 2) ∧ ∀ j : Nat, j < 42 → -1 ≤ B 8 (5 * k + 3) → tbM B 3 7 j = if (j : Int) = B 8 (5 * k + 3) then B 8 (5 * k + 4) else B 7 j := by
  unfold tbM
  have t : (B 3 15 - 1) * 5 = ((5 * k : Nat) : Int) := by omega
  have t1 : (B 3 15 - 1) * 5 + 1 = ((5 * k + 1 : Nat) : Int) := by omega
  have t2 : (B 3 15 - 1) * 5 + 2 = ((5 * k + 2 : Nat) : Int) := by omega
  have t3 : (B 3 15 - 1) * 5 + 3 = ((5 * k + 3 : Nat) : Int) := by omega
  have t4 : (B 3 15 - 1) * 5 + 4 = ((5 * k + 4 : Nat) : Int) := by omega
  rw [t1, t2, t3, t4, t]
  simp only [Int.toNat_natCast]
  rw [show (3 + 5 : Nat) = 8 from rfl, show (3 + 4 : Nat) = 7 from rfl]
  by_cases c : 0 ≤ B 8 (5 * k + 3) ∧ B 8 (5 * k + 3) < (42 : Nat)
  · rw [if_pos c]
    refine ⟨by simp [q_up]; omega, by simp [q_up], by simp [q_up], by simp [q_up], fun j hj _ => ?_⟩
    by_cases e : (j : Int) = B 8 (5 * k + 3)
    · rw [if_pos e, ← e]; simp [q_up]
    · rw [if_neg e]
      have : ¬ j = (B 8 (5 * k + 3)).toNat := by omega
      simp [q_up, this]
  · rw [if_neg c]
    refine ⟨by simp [q_up]; omega, by simp [q_up], by simp [q_up], by simp [q_up], fun j hj h1 => ?_⟩
    rw [if_neg (by omega)]
    simp [q_up]
theorem NowOk.tb {B : q_Mem} {k : Nat} (h : NowOk B) (hp : PastOk B) (hk : B 3 15 = (k : Int) + 1) : NowOk (tbM B 3) := by
  have h15 := h.2.2.2.2.2.2.2.2.2.2.1
  obtain ⟨p0, ⟨p1, -⟩, p2, p3, p4⟩ := hp k (by omega)
  have t : (B 3 15 - 1) * 5 = ((5 * k : Nat) : Int) := by omega
  have t1 : (B 3 15 - 1) * 5 + 1 = ((5 * k + 1 : Nat) : Int) := by omega
  have t2 : (B 3 15 - 1) * 5 + 2 = ((5 * k + 2 : Nat) : Int) := by omega
  have t3 : (B 3 15 - 1) * 5 + 3 = ((5 * k + 3 : Nat) : Int) := by omega
  have t4 : (B 3 15 - 1) * 5 + 4 = ((5 * k + 4 : Nat) : Int) := by omega
  unfold tbM
  simp only
  rw [t1, t2, t3, t4, t]
  simp only [Int.toNat_natCast]
  have hM4 := (((h.f15 (z := B 3 15 - 1) (by omega)).f11 p0).f12 p1).f13 p2
  split
  · exact hM4.r7 p4
  · exact hM4
/-- what was undone -/
theorem full_tb {B V V1 : q_Mem} {k : Nat} (hF : FullR B V) (hk : B 3 15 = (k : Int) + 1) (hK : MaB (q_up V 112 45 (k : Int)) V1 k) : FullR (tbM B 3) V1 := by
  obtain ⟨hN, e8, hz, hri, hpo, h45, vo, vo1, vo2, vo3⟩ := hF
  have hB := hN.1
  obtain ⟨h0, h1, h2, h3, h4, h5, h6, h11, h12, h13, h15, -⟩ := id hB
  obtain ⟨s15, s11, s12, s13, s7⟩ := tb_s hk
  obtain ⟨p0, ⟨p1, pz⟩, p2, p3, p4⟩ := hpo k (by omega)
  obtain ⟨m0, m1, m2, m6, m115, m116, m119, m120, m117⟩ := hK
  obtain ⟨n0, n1, n2, n3, n4, n5⟩ := vo3 k (by omega)
  have f : ∀ j, ¬ j = 15 → ¬ j = 11 → ¬ j = 12 → ¬ j = 13 → tbM B 3 3 j = B 3 j := fun j a b c d => tb_f a b c d
  have f4 := f 4 (by decide) (by decide) (by decide) (by decide)
  have f5 := f 5 (by decide) (by decide) (by decide) (by decide)
  have f2 := f 2 (by decide) (by decide) (by decide) (by decide)
  have r : ∀ a, a ≠ 3 → a ≠ 7 → tbM B 3 a = B a := fun a a3 a7 => tb_r a3 a7
  have vx : ∀ a, ¬ a = 112 → q_up V 112 45 (k : Int) a = V a := fun a ha => q_up_ne ha
  have hE1 : Exc [112, 113, 115, 116, 117, 119, 120] V V1 := (Exc.up (M := V) (a := 112) (i := 45) (z := (k : Int)) (L := [112, 113, 115, 116, 117, 119, 120]) (by decide)).tr m0
  have vk : ∀ j, j < 42 → vo k j = tbM B 3 7 j := fun j hj => by
    rw [s7 j hj p3.1, vo2 k (by omega) j hj, ← vo1 j hj, show (B 3 15).toNat = k + 1 by omega]
  rw [vx 145 (by decide)] at m6 m115 m116 m119 m120 m117
  refine ⟨⟨hB.tb hpo hk, ?_, ⟨fun q hq => ?_, fun t ht => ?_⟩, ⟨fun q hq => ?_, fun t ht => ?_⟩, ?_⟩, ?_, ?_, ?_, fun k' hk' => ?_, ?_, vo, fun j hj => ?_, fun k' hk' j hj => ?_, fun k' hk' => ?_⟩
  · refine RT.to hN.2.1 (fun j hj => ?_) (r 4 (by decide) (by decide)) (r 5 (by decide) (by decide)) (r 6 (by decide) (by decide)) (r 9 (by decide) (by decide)) hE1 (fun j j6 _ => by rw [m2 j j6, vx 113 (by decide)]) (by decide) (fun q' h' hq' hh' => ?_)
    · simp only [List.mem_cons, List.not_mem_nil, or_false] at hj
      exact f j (by omega) (by omega) (by omega) (by omega)
    · rw [m117, if_pos (by omega), n5 q' h' hq' hh', vk _ (by omega)]
  · rw [f4] at hq
    rw [s13, m115, if_pos (by omega)]
    exact n1 q hq
  · rw [f5] at ht
    rw [s13, m119, if_pos (by omega)]
    exact n3 t ht
  · rw [f4] at hq
    rw [s12, m116, if_pos (by omega)]
    exact n2 q hq
  · rw [f5] at ht
    rw [s12, m120, if_pos (by omega)]
    exact n4 t ht
  · rw [s11, m6]
    exact n0
  · rw [m2 8 (by decide), vx 113 (by decide), f 18 (by decide) (by decide) (by decide) (by decide)]
    exact e8
  · rw [f4, f5, s12]
    exact pz
  · rw [f 3 (by decide) (by decide) (by decide) (by decide), r 4 (by decide) (by decide)]
    exact hri
  · rw [s15] at hk'
    rw [f4, f5, r 8 (by decide) (by decide)]
    exact hpo k' (by omega)
  · rw [s15, m1 45 (by decide) (by decide)]
    simp [q_up]
  · rw [s15, Int.toNat_natCast]
    exact vk j hj
  · rw [s15] at hk'
    rw [r 8 (by decide) (by decide)]
    exact vo2 k' (by omega) j hj
  · rw [s15] at hk'
    rw [r 8 (by decide) (by decide)]
    have := vo3 k' (by omega)
    unfold snapR at *
    rw [f4, f5, f2, hE1 145 (by decide)]
    exact this
theorem C_rundo {G : q_G} {d : Nat} {B M : q_Mem} {N : q_MemL} (hd : 4 ≤ d) (hF : FullR B M) : AC0 G d m_X11_undo [.ref 112] M N (CV (fun x M' N' => N' = N ∧ x = I (A_undo B) ∧ ((B 3 15 = 0 ∧ M' = M) ∨ (0 < B 3 15 ∧ AcE M M' ∧ FullR (tbM B 3) M')))) := by
  obtain ⟨hN, e8, hz, hri, hpo, hhi⟩ := id hF
  obtain ⟨hB, hT, hP, hW, hb6⟩ := id hN
  obtain ⟨h0, h1, h2, h3, h4, h5, h6, h11, h12, h13, h15, -⟩ := id hB
  refine AC.of (L0 := [_]) pn_X11 (Nat.le_of_ble_eq_true rfl) rfl ?_
  refine st_aload_n dX11_undo_0 rfl ?_
  refine st_getfi dX11_undo_1 f_X11_357 (by first | with_reducible assumption | rfl) (by rfl) ?_
  rw [hhi.1]
  refine st_if_ne (tgt := 10) dX11_undo_4 (by omega) rfl (fun h => ?_) (fun h => ?_)
  · refine st_aload_n dX11_undo_10 rfl ?_
    refine st_dup dX11_undo_11 rfl ?_
    refine st_getfi dX11_undo_12 f_X11_357 (by first | with_reducible assumption | rfl) (by rfl) ?_
    refine st_iconst dX11_undo_15 ?_
    refine st_isub dX11_undo_16 ?_
    refine st_putfi dX11_undo_17 w_X11_357 (by first | with_reducible assumption | rfl) (by rfl) rfl rfl ?_
    refine st_aload_n dX11_undo_20 rfl ?_
    refine st_aload_n dX11_undo_21 rfl ?_
    refine st_getfi dX11_undo_22 f_X11_357 (by first | with_reducible assumption | rfl) (by rfl) ?_
    refine st_iconst dX11_undo_25 ?_
    obtain ⟨k, hk⟩ : ∃ k : Nat, B 3 15 = (k : Int) + 1 := ⟨(B 3 15 - 1).toNat, by omega⟩
    rw [hhi.1, hk, show (k : Int) + 1 - 1 = (k : Int) by omega]
    rw [show q_up M 112 45 (k : Int) 112 45 = (k : Int) by simp [q_up]]
    refine c_V2v (d' := d - 1) dX11_undo_26 l_X11_446 k_X11_movesAll i_X11_movesAll (Or.inl ⟨_, _, _, _, _, (by first | with_reducible assumption | rfl), by rfl⟩) (by omega) (Nat.le_of_ble_eq_true rfl) (C_movesAllB (k := k) (by omega) (by omega)) (fun M1 N1 hx1 => ?_)
    obtain ⟨rfl, hK⟩ := hx1
    refine st_aload_n dX11_undo_29 rfl ?_
    refine st_getfi dX11_undo_30 f_X11_357 (by first | with_reducible assumption | rfl) (by rfl) ?_
    rw [hK.2.1 45 (by decide) (by decide), show q_up M 112 45 (k : Int) 112 45 = (k : Int) by simp [q_up]]
    refine r_i dX11_undo_33 rfl ⟨rfl, by rw [A_undo, if_neg (by omega), hk, show (k : Int) + 1 - 1 = (k : Int) by omega], Or.inr ⟨by omega, ⟨((Exc.up (by decide)).tr hK.1).sub (by decide), fun j a b c => by rw [hK.2.1 j b c]; simp [q_up, a]⟩, full_tb hF hk hK⟩⟩
  · refine st_bipush dX11_undo_7 (by decide) ?_
    exact r_i dX11_undo_9 rfl ⟨rfl, by rw [A_undo, if_pos (by omega)], Or.inl ⟨by omega, rfl⟩⟩

theorem full_ears {B B1 V V1 : q_Mem} (hF : FullR B V) (hB1 : NowOk B1) (f : ∀ j, ¬ j = 17 → B1 3 j = B 3 j) (r : ∀ a, a ≠ 3 → a ≠ 9 → B1 a = B a) (hE : Exc [113, 122, 123, 124] V V1) (h113 : ∀ j, ¬ j = 7 → V1 113 j = V 113 j) (h7 : V1 113 7 = B1 3 17) (he : ∀ e, e < (B1 3 17).toNat → V1 122 e = B1 9 (e * 3) ∧ V1 123 e = B1 9 (e * 3 + 1) ∧ V1 124 e = B1 9 (e * 3 + 2)) : FullR B1 V1 := by
  obtain ⟨hN, e8, hz, hri, hpo, hhi⟩ := hF
  have f4 := f 4 (by decide)
  have f5 := f 5 (by decide)
  refine ⟨⟨hB1, ?_, ?_, ?_, ?_⟩, ?_, ?_, ?_, past_same hpo (fun j hj => f j ?_) (r 8 (by decide) (by decide)), his_same hhi (fun j hj => f j ?_) (r 7 (by decide) (by decide)) (r 8 (by decide) (by decide)) (by rw [hE 112 (by decide)]) (hE 145 (by decide))⟩
  · obtain ⟨⟨a1, a2, a3, a4, a5, a6, a7⟩, b, c, d, e⟩ := hN.2.1
    unfold RT
    rw [h113 0 (by decide), h113 1 (by decide), h113 2 (by decide), h113 3 (by decide), h113 4 (by decide), h113 5 (by decide), h7, f 1 (by decide), f 2 (by decide), f 3 (by decide), f4, f5, f 6 (by decide), hE 114 (by decide), hE 117 (by decide), hE 118 (by decide), hE 121 (by decide), r 4 (by decide) (by decide), r 5 (by decide) (by decide), r 6 (by decide) (by decide), r 7 (by decide) (by decide)]
    exact ⟨⟨a1, a2, a3, a4, a5, a6, rfl⟩, b, c, d, he⟩
  · rw [f 13 (by decide)]
    exact (hN.2.2.1.exc hE (by decide) (by decide)).home ⟨f4, f5⟩
  · rw [f 12 (by decide)]
    exact (hN.2.2.2.1.exc hE (by decide) (by decide)).home ⟨f4, f5⟩
  · rw [h113 6 (by decide), f 11 (by decide)]
    exact hN.2.2.2.2
  · rw [h113 8 (by decide), f 18 (by decide)]
    exact e8
  · rw [f4, f5, f 12 (by decide)]
    exact hz
  · rw [f 3 (by decide), r 4 (by decide) (by decide)]
    exact hri
  · intro e; subst e; simp at hj
  · intro e; subst e; simp at hj
theorem C_rear {G : q_G} {d : Nat} {B M : q_Mem} {N : q_MemL} {r s v : Int} (hd : 4 ≤ d) (hF : FullR B M) (hr : i32 r) (hs : i32 s) (hv : i32 v) : AC0 G d m_X11_ear [.ref 112, I r, I s, I v] M N (CV (fun x M' N' => N' = N ∧ ((r = -1 ∧ x = I 0 ∧ Exc [113, 122, 123, 124] M M' ∧ FullR (q_up B 3 17 0) M') ∨ (¬ r = -1 ∧ ¬ earOk B r s v ∧ x = I (-2) ∧ M' = M) ∨ (¬ r = -1 ∧ earOk B r s v ∧ x = I (B 3 17 + 1) ∧ Exc [113, 122, 123, 124] M M' ∧ FullR (U_ear B r s v) M')))) := by
  obtain ⟨hN, e8, hz, hri, hpo, hhi⟩ := id hF
  obtain ⟨hB, hT, hP, hW, hb6⟩ := id hN
  obtain ⟨h0, h1, h2, h3, h4, h5, h6, h11, h12, h13, h15, h17, -⟩ := id hB
  have hrr := hr
  have hvv := hv
  unfold i32 at hrr hvv
  have no : ¬ r = -1 → ¬ earOk B r s v → ∀ l4, AW0 G d m_X11_ear 59 [some (.ref 112), some (I r), some (I s), some (I v), l4] [] M N (CV (fun x M' N' => N' = N ∧ ((r = -1 ∧ x = I 0 ∧ Exc [113, 122, 123, 124] M M' ∧ FullR (q_up B 3 17 0) M') ∨ (¬ r = -1 ∧ ¬ earOk B r s v ∧ x = I (-2) ∧ M' = M) ∨ (¬ r = -1 ∧ earOk B r s v ∧ x = I (B 3 17 + 1) ∧ Exc [113, 122, 123, 124] M M' ∧ FullR (U_ear B r s v) M')))) := by
    intro h7 h8 l4
    refine st_bipush dX11_ear_59 (by decide) ?_
    exact r_i dX11_ear_61 rfl ⟨rfl, Or.inr (Or.inl ⟨h7, h8, rfl, rfl⟩)⟩
  refine AC.of (L0 := [_, _, _, _, none]) pn_X11 (Nat.le_of_ble_eq_true rfl) rfl ?_
  refine st_iload_n dX11_ear_0 rfl ?_
  refine st_iconst dX11_ear_1 ?_
  refine st_icmp_ne (tgt := 15) dX11_ear_2 (by omega) (by omega) rfl (fun h => ?_) (fun h => ?_)
  · refine st_aload_n dX11_ear_15 rfl ?_
    refine st_getfr dX11_ear_16 f_X11_9 (by first | with_reducible assumption | rfl) (by rfl) ?_
    refine st_bipush dX11_ear_19 (by decide) ?_
    refine st_ialdK (k' := 7) dX11_ear_21 (by first | with_reducible assumption | rfl) rfl (by omega) (hn := by first | decide | omega) ?_
    rw [hT.1.2.2.2.2.2.2]
    refine st_istore (L' := [_, _, _, _, _]) dX11_ear_22 (by decide) rfl rfl ?_
    refine st_aload_n dX11_ear_24 rfl ?_
    refine st_iload_n dX11_ear_25 rfl ?_
    refine c_V1p (d' := d - 1) dX11_ear_26 l_X11_423 k_X11_isRoom i_X11_isRoom (Or.inl ⟨_, _, _, _, _, (by first | with_reducible assumption | rfl), by rfl⟩) (by omega) (Nat.le_of_ble_eq_true rfl) (C_isRoom (by omega) hB hT hr) ?_
    refine b_eq (tgt := 59) dX11_ear_29 rfl (fun c7 => ?_) (fun c7 => ?_)
    · skip
      exact no h (fun z => c7 z.2.1) _
    · refine st_aload_n dX11_ear_32 rfl ?_
      refine st_iload_n dX11_ear_33 rfl ?_
      refine c_V1p (d' := d - 1) dX11_ear_34 l_X11_426 k_X11_isStorey i_X11_isStorey (Or.inl ⟨_, _, _, _, _, (by first | with_reducible assumption | rfl), by rfl⟩) (by omega) (Nat.le_of_ble_eq_true rfl) (C_isStorey (by omega) hB hT hs) ?_
      refine b_eq (tgt := 59) dX11_ear_37 rfl (fun c8 => ?_) (fun c8 => ?_)
      · skip
        exact no h (fun z => c8 z.2.2.1) _
      · refine st_iload_n dX11_ear_40 rfl ?_
        refine st_i2lK dX11_ear_41 (by omega) ?_
        refine st_lc0K dX11_ear_42 ?_
        refine st_ldc2 dX11_ear_43 l_X11_456 ?_
        refine AW.topv (show _ = J 30 from rfl) ?_
        refine c_S3p (d' := d - 1) dX11_ear_46 l_X11_182 k_X11_in s_X11_in (by omega) (Nat.le_of_ble_eq_true rfl) (C_in (by omega) (by decide) (by decide)) ?_
        refine b_eq (tgt := 59) dX11_ear_49 rfl (fun c9 => ?_) (fun c9 => ?_)
        · skip
          exact no h (fun z => c9 z.2.2.2) _
        · refine st_iload dX11_ear_52 rfl ?_
          refine st_bipush dX11_ear_54 (by decide) ?_
          refine st_icmp_ne (tgt := 62) dX11_ear_56 (by omega) (by omega) rfl (fun c10 => ?_) (fun c10 => ?_)
          · skip
            have hok : earOk B r s v := ⟨by omega, c7, c8, c9⟩
            obtain ⟨k, hk⟩ : ∃ k : Nat, B 3 17 = (k : Int) := ⟨(B 3 17).toNat, by omega⟩
            have k8 : k < 8 := by omega
            rw [hk]
            refine st_aload_n dX11_ear_62 rfl ?_
            refine st_getfr dX11_ear_63 f_X11_37 (by first | with_reducible assumption | rfl) (by rfl) ?_
            refine st_iload dX11_ear_66 rfl ?_
            refine st_iload_n dX11_ear_68 rfl ?_
            refine st_iastK (k' := k) dX11_ear_69 (by first | with_reducible assumption | rfl) rfl (by omega) (hn := by decide) ?_
            refine st_aload_n dX11_ear_70 rfl ?_
            refine st_getfr dX11_ear_71 f_X11_40 (by first | with_reducible assumption | rfl) (by rfl) ?_
            refine st_iload dX11_ear_74 rfl ?_
            refine st_iload_n dX11_ear_76 rfl ?_
            refine st_iastK (k' := k) dX11_ear_77 (by first | with_reducible assumption | rfl) rfl (by omega) (hn := by decide) ?_
            refine st_aload_n dX11_ear_78 rfl ?_
            refine st_getfr dX11_ear_79 f_X11_43 (by first | with_reducible assumption | rfl) (by rfl) ?_
            refine st_iload dX11_ear_82 rfl ?_
            refine st_iload_n dX11_ear_84 rfl ?_
            refine st_iastK (k' := k) dX11_ear_85 (by first | with_reducible assumption | rfl) rfl (by omega) (hn := by decide) ?_
            have e7 : q_up (q_up (q_up M 122 k r) 123 k s) 124 k v 113 7 = (k : Int) := by rw [q_up_ne (by decide), q_up_ne (by decide), q_up_ne (by decide), hT.1.2.2.2.2.2.2, hk]
            refine st_aload_n dX11_ear_86 rfl ?_
            refine st_getfr dX11_ear_87 f_X11_9 (by first | with_reducible assumption | rfl) (by rfl) ?_
            refine st_bipush dX11_ear_90 (by decide) ?_
            refine st_dup2 dX11_ear_92 rfl rfl ?_
            first | refine st_ialdK (k' := _) dX11_ear_93 (by first | with_reducible assumption | rfl) rfl (by omega) (hn := by first | decide | omega) ?_ | refine st_iald dX11_ear_93 (by first | with_reducible assumption | rfl) (by omega) (by omega) (hn := by first | decide | omega) ?_
            rw [show q_up (q_up (q_up M 122 k r) 123 k s) 124 k v 113 (Int.toNat 7) = (k : Int) from e7]
            refine st_iconst dX11_ear_94 ?_
            refine st_iadd dX11_ear_95 ?_
            first | refine st_iastK (k' := _) dX11_ear_96 (by first | with_reducible assumption | rfl) rfl (by omega) (hn := by first | decide | omega) ?_ | refine st_iast dX11_ear_96 (by first | with_reducible assumption | rfl) (by omega) (by omega) (hn := by first | decide | omega) ?_
            refine st_iload dX11_ear_97 rfl ?_
            refine st_iconst dX11_ear_99 ?_
            refine st_iadd dX11_ear_100 ?_
            refine r_i dX11_ear_101 rfl ⟨rfl, Or.inr (Or.inr ⟨h, hok, rfl, (((Exc.up (by decide)).tr (Exc.up (by decide))).tr (Exc.up (by decide))).tr (Exc.up (by decide)), full_ears hF ?_ (fun j hj => ?_) (fun a a3 a9 => ?_) ((((Exc.up (by decide)).tr (Exc.up (by decide))).tr (Exc.up (by decide))).tr (Exc.up (by decide))) (fun j hj => ?_) ?_ (fun e he => ?_)⟩)⟩
            · have ht : B 3 0 = 1 := told_of hB (by omega)
              exact (((hB.r9 (by omega)).r9 (by omega)).r9 (by omega)).f17 (by omega) (Or.inl ht)
            · unfold U_ear
              simp [q_up, hj]
            · unfold U_ear
              rw [q_up_ne a3, q_up_ne a9, q_up_ne a9, q_up_ne a9]
            · simp [q_up, hj]
            · unfold U_ear
              simp [q_up, hk]
            · have he2 : e < k + 1 := by
                unfold U_ear at he
                simp [q_up, hk] at he
                omega
              have hx := hT.2.2.2.2 e
              unfold U_ear
              rw [hk, show ((k : Int) * 3).toNat = k * 3 by omega, show ((k : Int) * 3 + 1).toNat = k * 3 + 1 by omega, show ((k : Int) * 3 + 2).toNat = k * 3 + 2 by omega]
              by_cases c : e = k
              · subst c
                simp [q_up]
              · have hx2 := hx (by omega)
                have z0 : ¬ e * 3 = k * 3 + 1 := by omega
                have z1 : ¬ e * 3 = k * 3 + 2 := by omega
                have z2 : ¬ e * 3 + 1 = k * 3 := by omega
                have z3 : ¬ e * 3 + 1 = k * 3 + 2 := by omega
                have z4 : ¬ e * 3 + 2 = k * 3 := by omega
                have z5 : ¬ e * 3 + 2 = k * 3 + 1 := by omega
                have z6 : ¬ e * 3 = k * 3 := by omega
                simp [q_up, c, z0, z1, z2, z3, z4, z5, z6, hx2]
          · skip
            exact no h (fun z => by have := z.1; omega) _
  · refine st_aload_n dX11_ear_5 rfl ?_
    refine st_getfr dX11_ear_6 f_X11_9 (by first | with_reducible assumption | rfl) (by rfl) ?_
    refine st_bipush dX11_ear_9 (by decide) ?_
    refine st_iconst dX11_ear_11 ?_
    refine st_iastK (k' := 7) dX11_ear_12 (by first | with_reducible assumption | rfl) rfl (by omega) (hn := by decide) ?_
    refine st_iconst dX11_ear_13 ?_
    refine r_i dX11_ear_14 rfl ⟨rfl, Or.inl ⟨by omega, rfl, Exc.up (by decide), full_ears hF (hB.f17 (by omega) (Or.inr rfl)) (fun j hj => by simp [q_up, hj]) (fun a a3 a9 => q_up_ne a3) (Exc.up (by decide)) (fun j hj => by simp [q_up, hj]) (by simp [q_up]) (fun e he => by simp [q_up] at he)⟩⟩


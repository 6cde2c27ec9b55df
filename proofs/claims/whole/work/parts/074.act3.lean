/-! the reference's acts: tune, walk, push, undo -/
theorem RT.to {X : List Nat} {B B1 M M1 : q_Mem} (h : RT B M) (hf : ∀ j, j ∈ [1, 2, 3, 4, 5, 6, 17] → B1 3 j = B 3 j) (e4 : B1 4 = B 4) (e5 : B1 5 = B 5) (e6 : B1 6 = B 6) (e9 : B1 9 = B 9) (hE : Exc X M M1) (hs : ∀ j, ¬ j = 6 → ¬ j = 8 → M1 113 j = M 113 j) (hx : 114 ∉ X ∧ 118 ∉ X ∧ 121 ∉ X ∧ 122 ∉ X ∧ 123 ∉ X ∧ 124 ∉ X) (e7 : ∀ q h, q < (B 3 4).toNat → h < (B 3 2).toNat → M1 117 (6 * q + h) = B1 7 (q * 6 + h)) : RT B1 M1 := by
  obtain ⟨x1, x3, x4, x5, x6, x7⟩ := hx
  unfold RT at *
  rw [hf 1 (by decide), hf 2 (by decide), hf 3 (by decide), hf 4 (by decide), hf 5 (by decide), hf 6 (by decide), hf 17 (by decide), e4, e5, e6, e9, hE _ x1, hE _ x3, hE _ x4, hE _ x5, hE _ x6, hE _ x7, hs 0 (by decide) (by decide), hs 1 (by decide) (by decide), hs 2 (by decide) (by decide), hs 3 (by decide) (by decide), hs 4 (by decide) (by decide), hs 5 (by decide) (by decide), hs 7 (by decide) (by decide)]
  exact ⟨h.1, h.2.1, fun q hq => ⟨fun h hh => e7 q h hq hh, (h.2.2.1 q hq).2⟩, h.2.2.2⟩
theorem full_tune {B V V1 : q_Mem} {q h : Nat} {v : Int} (hF : FullR B V) (hq : q < (B 3 4).toNat) (hh : h < (B 3 2).toNat) (hv : 0 ≤ v ∧ v ≤ 30) (hK : KaP V V1 (keN B) (keS B)) : FullR (q_up (keepM B ((q * 6 + h : Nat) : Int)) 7 (q * 6 + h) v) (q_up V1 117 (6 * q + h) v) := by
  have hfu := hF
  obtain ⟨hN, e8, hz, hri, hpo, hhi⟩ := hF
  have hB := hN.1
  obtain ⟨h0, h1, h2, h3, h4, h5, h6, h11, h12, -⟩ := id hB
  have hvp : -1 ≤ ((q * 6 + h : Nat) : Int) ∧ ((q * 6 + h : Nat) : Int) < 42 := by omega
  have hk := keepM_his (vp := ((q * 6 + h : Nat) : Int)) hB hvp
  have f : ∀ j, ¬ j = 15 → q_up (keepM B ((q * 6 + h : Nat) : Int)) 7 (q * 6 + h) v 3 j = B 3 j := fun j hj => by rw [q_up_ne (by decide), keepM_f hj]
  have r : ∀ a, a ≠ 3 → a ≠ 8 → a ≠ 7 → q_up (keepM B ((q * 6 + h : Nat) : Int)) 7 (q * 6 + h) v a = B a := fun a a3 a8 a7 => by rw [q_up_ne a7, keepM_row a3 a8]
  have r7 : ∀ j, q_up (keepM B ((q * 6 + h : Nat) : Int)) 7 (q * 6 + h) v 7 j = if j = q * 6 + h then v else B 7 j := fun j => by
    by_cases c : j = q * 6 + h
    · rw [if_pos c, c]; simp [q_up]
    · rw [if_neg c, ← keepM_row (M := B) (vp := ((q * 6 + h : Nat) : Int)) (k := 7) (by decide) (by decide)]; simp [q_up, c]
  have hE1 : Exc [112, 145, 117] V (q_up V1 117 (6 * q + h) v) := (hK.1.sub (by decide)).tr (Exc.up (by decide))
  have hh2 := his_keep (B1 := q_up (keepM B ((q * 6 + h : Nat) : Int)) 7 (q * 6 + h) v) (V1 := q_up V1 117 (6 * q + h) v) (vp := ((q * 6 + h : Nat) : Int)) hfu hvp (by rw [q_up_ne (by decide)]; exact hk.1) (fun k hk2 i hi => by rw [q_up_ne (by decide)]; exact hk.2.1 k hk2 i hi) (by rw [q_up_ne (by decide)]; exact hk.2.2.1) (by rw [q_up_ne (by decide)]; exact hk.2.2.2.1) (by rw [q_up_ne (by decide)]; exact hk.2.2.2.2.1) (by rw [q_up_ne (by decide)]; exact hk.2.2.2.2.2.1) (by rw [q_up_ne (by decide)]; exact hk.2.2.2.2.2.2) (fun j _ hj => by rw [r7, if_neg (by omega)]) ⟨f 4 (by decide), f 5 (by decide), f 2 (by decide)⟩ (by rw [q_up_ne (by decide)]; exact hK.2.2.1) (fun k hk2 i hi => by rw [q_up_ne (by decide)]; exact hK.2.2.2.1 k hk2 i hi) (fun i hi => by rw [q_up_ne (by decide)]; exact hK.2.2.2.2 i hi)
  refine ⟨⟨(hB.keep hvp).r7 hv, ?_, ?_, ?_, ?_⟩, ?_, ?_, ?_, hh2.2, hh2.1⟩
  · refine RT.to hN.2.1 (fun j hj => ?_) (r 4 (by decide) (by decide) (by decide)) (r 5 (by decide) (by decide) (by decide)) (r 6 (by decide) (by decide) (by decide)) (r 9 (by decide) (by decide) (by decide)) hE1 (fun j _ _ => by rw [hE1 113 (by decide)]) (by decide) (fun q' h' hq' hh' => ?_)
    · simp only [List.mem_cons, List.not_mem_nil, or_false] at hj
      exact f j (by omega)
    · rw [r7]
      by_cases c : q' * 6 + h' = q * 6 + h
      · rw [if_pos c, show 6 * q' + h' = 6 * q + h by omega]; simp [q_up]
      · rw [if_neg c, ← (hN.2.1.2.2.1 q' hq').1 h' hh', ← hK.1 117 (by decide)]
        simp [q_up, show ¬ 6 * q' + h' = 6 * q + h by omega]
  · rw [f 13 (by decide)]
    exact (hN.2.2.1.exc hE1 (by decide) (by decide)).home ⟨f 4 (by decide), f 5 (by decide)⟩
  · rw [f 12 (by decide)]
    exact (hN.2.2.2.1.exc hE1 (by decide) (by decide)).home ⟨f 4 (by decide), f 5 (by decide)⟩
  · rw [hE1 113 (by decide), f 11 (by decide)]
    exact hN.2.2.2.2
  · rw [hE1 113 (by decide), f 18 (by decide)]
    exact e8
  · rw [f 4 (by decide), f 5 (by decide), f 12 (by decide)]
    exact hz
  · rw [f 3 (by decide), r 4 (by decide) (by decide) (by decide)]
    exact hri
theorem C_rtune {G : q_G} {d : Nat} {B M : q_Mem} {N : q_MemL} {p h v : Int} (hd : 4 ≤ d) (hF : FullR B M) (hp : i32 p) (hh : i32 h) (hv : i32 v) : AC0 G d m_X11_tune [.ref 112, I p, I h, I v] M N (CV (fun x M' N' => N' = N ∧ ((¬ tuneOk B p h v ∧ x = I (-1) ∧ M' = M) ∨ (tuneOk B p h v ∧ x = I (B 7 (p * 6 + h).toNat) ∧ AcE M M' ∧ FullR (q_up (keepM B (p * 6 + h)) 7 (p * 6 + h).toNat v) M')))) := by
  obtain ⟨hN, e8, hz, hri, hpo, hhi⟩ := id hF
  obtain ⟨hB, hT, hP, hW, hb6⟩ := id hN
  obtain ⟨h0, h1, h2, h3, h4, h5, h6, h11, h12, -⟩ := id hB
  have hvv := hv
  unfold i32 at hvv
  have no : ¬ tuneOk B p h v → AW0 G d m_X11_tune 28 [some (.ref 112), some (I p), some (I h), some (I v), none] [] M N (CV (fun x M' N' => N' = N ∧ ((¬ tuneOk B p h v ∧ x = I (-1) ∧ M' = M) ∨ (tuneOk B p h v ∧ x = I (B 7 (p * 6 + h).toNat) ∧ AcE M M' ∧ FullR (q_up (keepM B (p * 6 + h)) 7 (p * 6 + h).toNat v) M')))) := by
    intro hn
    refine st_iconst dX11_tune_28 ?_
    exact r_i dX11_tune_29 rfl ⟨rfl, Or.inl ⟨hn, rfl, rfl⟩⟩
  refine AC.of (L0 := [_, _, _, _, none]) pn_X11 (Nat.le_of_ble_eq_true rfl) rfl ?_
  refine st_aload_n dX11_tune_0 rfl ?_
  refine st_iload_n dX11_tune_1 rfl ?_
  refine c_V1p (d' := d - 1) dX11_tune_2 l_X11_408 k_X11_isPerson i_X11_isPerson (Or.inl ⟨_, _, _, _, _, (by first | with_reducible assumption | rfl), by rfl⟩) (by omega) (Nat.le_of_ble_eq_true rfl) (C_isPerson (by omega) hB hT hp) ?_
  refine b_eq (tgt := 28) dX11_tune_5 rfl (fun c7 => ?_) (fun c7 => ?_)
  · skip
    exact no (fun z => c7 z.1)
  · refine st_aload_n dX11_tune_8 rfl ?_
    refine st_iload_n dX11_tune_9 rfl ?_
    refine c_V1p (d' := d - 1) dX11_tune_10 l_X11_415 k_X11_isHour i_X11_isHour (Or.inl ⟨_, _, _, _, _, (by first | with_reducible assumption | rfl), by rfl⟩) (by omega) (Nat.le_of_ble_eq_true rfl) (C_isHour (by omega) hB hT hh) ?_
    refine b_eq (tgt := 28) dX11_tune_13 rfl (fun c8 => ?_) (fun c8 => ?_)
    · skip
      exact no (fun z => c8 z.2.1)
    · refine st_iload_n dX11_tune_16 rfl ?_
      refine st_i2lK dX11_tune_17 (by omega) ?_
      refine st_lc0K dX11_tune_18 ?_
      refine st_ldc2 dX11_tune_19 l_X11_456 ?_
      refine AW.topv (show _ = J 30 from rfl) ?_
      refine c_S3p (d' := d - 1) dX11_tune_22 l_X11_182 k_X11_in s_X11_in (by omega) (Nat.le_of_ble_eq_true rfl) (C_in (by omega) (by omega) (by omega)) ?_
      refine b_ne (tgt := 30) dX11_tune_25 rfl (fun c9 => ?_) (fun c9 => ?_)
      · refine st_aload_n dX11_tune_30 rfl ?_
        have hok : tuneOk B p h v := ⟨c7, c8, c9⟩
        obtain ⟨q, rfl⟩ : ∃ q : Nat, p = q := ⟨p.toNat, by omega⟩
        obtain ⟨u, rfl⟩ : ∃ u : Nat, h = u := ⟨h.toNat, by omega⟩
        rw [show (q : Int) * 6 + (u : Int) = ((q * 6 + u : Nat) : Int) by omega, Int.toNat_natCast] at *
        refine c_V0v (d' := d - 1) dX11_tune_31 l_X11_450 k_X11_keepsAct i_X11_keepsAct (Or.inl ⟨_, _, _, _, _, (by first | with_reducible assumption | rfl), by rfl⟩) (by omega) (Nat.le_of_ble_eq_true rfl) (C_keepsAct (by omega) hB hhi.1) (fun M1 N1 hx1 => ?_)
        obtain ⟨rfl, hK⟩ := hx1
        refine st_aload_n dX11_tune_34 rfl ?_
        refine st_getfr dX11_tune_35 f_X11_22 (by first | with_reducible assumption | rfl) (by rfl) ?_
        refine st_bipush dX11_tune_38 (by decide) ?_
        refine st_iload_n dX11_tune_40 rfl ?_
        refine st_imul dX11_tune_41 ?_
        refine st_iload_n dX11_tune_42 rfl ?_
        refine st_iadd dX11_tune_43 ?_
        rw [show (6 : Int) * (q : Int) + (u : Int) = ((6 * q + u : Nat) : Int) by omega]
        first | refine st_ialdK (k' := _) dX11_tune_44 (by first | with_reducible assumption | rfl) rfl (by omega) (hn := by first | decide | omega) ?_ | refine st_iald dX11_tune_44 (by first | with_reducible assumption | rfl) (by omega) (by omega) (hn := by first | decide | omega) ?_
        rw [hK.1 117 (by decide), (hT.2.2.1 q (by omega)).1 u (by omega)]
        refine st_istore (L' := [_, _, _, _, _]) dX11_tune_45 (by decide) rfl rfl ?_
        refine st_aload_n dX11_tune_47 rfl ?_
        refine st_getfr dX11_tune_48 f_X11_22 (by first | with_reducible assumption | rfl) (by rfl) ?_
        refine st_bipush dX11_tune_51 (by decide) ?_
        refine st_iload_n dX11_tune_53 rfl ?_
        refine st_imul dX11_tune_54 ?_
        refine st_iload_n dX11_tune_55 rfl ?_
        refine st_iadd dX11_tune_56 ?_
        rw [show (6 : Int) * (q : Int) + (u : Int) = ((6 * q + u : Nat) : Int) by omega]
        refine st_iload_n dX11_tune_57 rfl ?_
        first | refine st_iastK (k' := _) dX11_tune_58 (by first | with_reducible assumption | rfl) rfl (by omega) (hn := by first | decide | omega) ?_ | refine st_iast dX11_tune_58 (by first | with_reducible assumption | rfl) (by omega) (by omega) (hn := by first | decide | omega) ?_
        refine st_iload dX11_tune_59 rfl ?_
        refine r_i dX11_tune_61 rfl ⟨rfl, Or.inr ⟨hok, rfl, ⟨(hK.1.sub (by decide)).tr (Exc.up (by decide)), fun j a b c => by rw [q_up_ne (by decide)]; exact hK.2.1 j a b c⟩, full_tune hF (by omega) (by omega) c9 hK⟩⟩
      · skip
        exact no (fun z => c9 z.2.2)
/-- one goes beside: a person, or a thing -/
theorem full_go {B V V1 V2 : q_Mem} {k : Nat} {z : Int} (hF : FullR B V) (hk : k < 10) (hz4 : 0 ≤ z ∧ z < 4) (hK : KaP V V1 (keN B) (keS B)) (hE : Exc [115, 119] V1 V2) (hr : ∀ q, q < (B 3 4).toNat → V2 115 q = if q = k then z else V 115 q) (hr2 : ∀ t, t < (B 3 5).toNat → V2 119 t = if 7 + t = k then z else V 119 t) : FullR (q_up (keepM B (-1)) 3 13 (w4 (B 3 13) k z)) V2 := by
  have hfu := hF
  obtain ⟨hN, e8, hz, hri, hpo, hhi⟩ := hF
  have hB := hN.1
  obtain ⟨h0, h1, h2, h3, h4, h5, h6, h11, h12, h13, -⟩ := id hB
  have hkm := keepM_his (vp := -1) hB (by omega)
  have f : ∀ j, ¬ j = 15 → ¬ j = 13 → q_up (keepM B (-1)) 3 13 (w4 (B 3 13) k z) 3 j = B 3 j := fun j hj hj2 => by rw [show q_up (keepM B (-1)) 3 13 (w4 (B 3 13) k z) 3 j = keepM B (-1) 3 j by simp [q_up, hj2], keepM_f hj]
  have f13 : q_up (keepM B (-1)) 3 13 (w4 (B 3 13) k z) 3 13 = w4 (B 3 13) k z := by simp [q_up]
  have r : ∀ a, a ≠ 3 → a ≠ 8 → q_up (keepM B (-1)) 3 13 (w4 (B 3 13) k z) a = B a := fun a a3 a8 => by rw [q_up_ne a3, keepM_row a3 a8]
  have r8 : ∀ j, q_up (keepM B (-1)) 3 13 (w4 (B 3 13) k z) 8 j = keepM B (-1) 8 j := fun j => by rw [q_up_ne (by decide)]
  have r15 : q_up (keepM B (-1)) 3 13 (w4 (B 3 13) k z) 3 15 = keepM B (-1) 3 15 := by simp [q_up]
  have hE1 : Exc [112, 145, 115, 119] V V2 := (hK.1.sub (by decide)).tr (hE.sub (by decide))
  have hh2 := his_keep (B1 := q_up (keepM B (-1)) 3 13 (w4 (B 3 13) k z)) (V1 := V2) (vp := -1) hfu (by omega) (by rw [r15]; exact hkm.1) (fun k hk2 i hi => by rw [r8]; exact hkm.2.1 k hk2 i hi) (by rw [r8]; exact hkm.2.2.1) (by rw [r8]; exact hkm.2.2.2.1) (by rw [r8]; exact hkm.2.2.2.2.1) (by rw [r8]; exact hkm.2.2.2.2.2.1) (by rw [r8]; exact hkm.2.2.2.2.2.2) (fun j _ hj => by rw [r 7 (by decide) (by decide)]) ⟨f 4 (by decide) (by decide), f 5 (by decide) (by decide), f 2 (by decide) (by decide)⟩ (by rw [hE 112 (by decide)]; exact hK.2.2.1) (fun k hk2 i hi => by rw [hE 145 (by decide)]; exact hK.2.2.2.1 k hk2 i hi) (fun i hi => by rw [hE 145 (by decide)]; exact hK.2.2.2.2 i hi)
  refine ⟨⟨(hB.keep (by omega)).f13 (w4_lt h13 hk hz4), ?_, ⟨fun q hq => ?_, fun t ht => ?_⟩, ?_, ?_⟩, ?_, ?_, ?_, hh2.2, hh2.1⟩
  · refine RT.to hN.2.1 (fun j hj => ?_) (r 4 (by decide) (by decide)) (r 5 (by decide) (by decide)) (r 6 (by decide) (by decide)) (r 9 (by decide) (by decide)) hE1 (fun j _ _ => by rw [hE1 113 (by decide)]) (by decide) (fun q' h' hq' hh' => ?_)
    · simp only [List.mem_cons, List.not_mem_nil, or_false] at hj
      exact f j (by omega) (by omega)
    · rw [r 7 (by decide) (by decide), hE1 117 (by decide)]
      exact (hN.2.1.2.2.1 q' hq').1 h' hh'
  · rw [f 4 (by decide) (by decide)] at hq
    rw [f13, g4_w4 h13 hk hz4, hr q hq]
    split
    · rfl
    · exact hN.2.2.1.1 q hq
  · rw [f 5 (by decide) (by decide)] at ht
    rw [f13, g4_w4 h13 hk hz4, hr2 t ht]
    split
    · rfl
    · exact hN.2.2.1.2 t ht
  · rw [f 12 (by decide) (by decide)]
    exact (hN.2.2.2.1.exc hE1 (by decide) (by decide)).home ⟨f 4 (by decide) (by decide), f 5 (by decide) (by decide)⟩
  · rw [hE1 113 (by decide), f 11 (by decide) (by decide)]
    exact hN.2.2.2.2
  · rw [hE1 113 (by decide), f 18 (by decide) (by decide)]
    exact e8
  · rw [f 4 (by decide) (by decide), f 5 (by decide) (by decide), f 12 (by decide) (by decide)]
    exact hz
  · rw [f 3 (by decide) (by decide), r 4 (by decide) (by decide)]
    exact hri
theorem C_isWay {G : q_G} {d : Nat} {M : q_Mem} {N : q_MemL} {w : Int} (hw : i32 w) : AC0 G d m_X11_isWay [I w] M N (CV (PU (Bz (w = -1 ∨ w = 1)) M N)) := by
  unfold i32 at hw
  refine AC.of (L0 := [_]) pn_X11 (Nat.le_of_ble_eq_true rfl) rfl ?_
  refine st_iload_n dX11_isWay_0 rfl ?_
  refine st_iconst dX11_isWay_1 ?_
  refine st_icmp_eq (tgt := 10) dX11_isWay_2 (by omega) (by omega) rfl (fun h => ?_) (fun h => ?_)
  · refine st_iconst dX11_isWay_10 ?_
    refine st_goto (tgt := 15) dX11_isWay_11 rfl ?_
    exact r_z dX11_isWay_15 rfl (by first | omega | (split <;> decide)) ⟨bz1 (Or.inr h), rfl, rfl⟩
  · refine st_iload_n dX11_isWay_5 rfl ?_
    refine st_iconst dX11_isWay_6 ?_
    refine st_icmp_ne (tgt := 14) dX11_isWay_7 (by omega) (by omega) rfl (fun h2 => ?_) (fun h2 => ?_)
    · refine st_iconst dX11_isWay_14 ?_
      exact r_z dX11_isWay_15 rfl (by first | omega | (split <;> decide)) ⟨bz0 (by omega), rfl, rfl⟩
    · refine st_iconst dX11_isWay_10 ?_
      refine st_goto (tgt := 15) dX11_isWay_11 rfl ?_
      exact r_z dX11_isWay_15 rfl (by first | omega | (split <;> decide)) ⟨bz1 (Or.inl (by omega)), rfl, rfl⟩
def goM (B : q_Mem) (k : Nat) (w : Int) : q_Mem := q_up (keepM B (-1)) 3 13 (w4 (B 3 13) k (g4 (B 3 13) k + w))
def walkOk (B : q_Mem) (p w : Int) : Prop := (0 ≤ p ∧ p < B 3 4) ∧ goOk B p.toNat w
theorem C_rwalk {G : q_G} {d : Nat} {B M : q_Mem} {N : q_MemL} {p w : Int} (hd : 4 ≤ d) (hF : FullR B M) (hp : i32 p) (hw : i32 w) : AC0 G d m_X11_walk [.ref 112, I p, I w] M N (CV (fun x M' N' => N' = N ∧ ((¬ walkOk B p w ∧ x = I (-1) ∧ M' = M) ∨ (walkOk B p w ∧ x = I (g4 (B 3 13) p.toNat + w) ∧ AcE M M' ∧ FullR (goM B p.toNat w) M')))) := by
  obtain ⟨hN, e8, hz, hri, hpo, hhi⟩ := id hF
  obtain ⟨hB, hT, hP, hW, hb6⟩ := id hN
  obtain ⟨h0, h1, h2, h3, h4, h5, h6, h11, h12, h13, -⟩ := id hB
  have no : ¬ walkOk B p w → AW0 G d m_X11_walk 30 [some (.ref 112), some (I p), some (I w)] [] M N (CV (fun x M' N' => N' = N ∧ ((¬ walkOk B p w ∧ x = I (-1) ∧ M' = M) ∨ (walkOk B p w ∧ x = I (g4 (B 3 13) p.toNat + w) ∧ AcE M M' ∧ FullR (goM B p.toNat w) M')))) := by
    intro hn
    refine st_iconst dX11_walk_30 ?_
    exact r_i dX11_walk_31 rfl ⟨rfl, Or.inl ⟨hn, rfl, rfl⟩⟩
  refine AC.of (L0 := [_, _, _]) pn_X11 (Nat.le_of_ble_eq_true rfl) rfl ?_
  refine st_aload_n dX11_walk_0 rfl ?_
  refine st_iload_n dX11_walk_1 rfl ?_
  refine c_V1p (d' := d - 1) dX11_walk_2 l_X11_408 k_X11_isPerson i_X11_isPerson (Or.inl ⟨_, _, _, _, _, (by first | with_reducible assumption | rfl), by rfl⟩) (by omega) (Nat.le_of_ble_eq_true rfl) (C_isPerson (by omega) hB hT hp) ?_
  refine b_eq (tgt := 30) dX11_walk_5 rfl (fun c7 => ?_) (fun c7 => ?_)
  · skip
    exact no (fun z => c7 z.1)
  · refine st_iload_n dX11_walk_8 rfl ?_
    refine c_S1p (d' := d - 1) dX11_walk_9 l_X11_458 k_X11_isWay s_X11_isWay (by omega) (Nat.le_of_ble_eq_true rfl) (C_isWay hw) ?_
    refine b_eq (tgt := 30) dX11_walk_12 rfl (fun c8 => ?_) (fun c8 => ?_)
    · skip
      exact no (fun z => c8 z.2.1)
    · skip
      obtain ⟨q, rfl⟩ : ∃ q : Nat, p = q := ⟨p.toNat, by omega⟩
      rw [Int.toNat_natCast] at *
      have gq := g4_lt (B 3 13) q
      refine st_aload_n dX11_walk_15 rfl ?_
      refine st_aload_n dX11_walk_16 rfl ?_
      refine st_getfr dX11_walk_17 f_X11_16 (by first | with_reducible assumption | rfl) (by rfl) ?_
      refine st_iload_n dX11_walk_20 rfl ?_
      first | refine st_ialdK (k' := _) dX11_walk_21 (by first | with_reducible assumption | rfl) rfl (by omega) (hn := by first | decide | omega) ?_ | refine st_iald dX11_walk_21 (by first | with_reducible assumption | rfl) (by omega) (by omega) (hn := by first | decide | omega) ?_
      rw [hP.1 q (by omega)]
      refine st_iload_n dX11_walk_22 rfl ?_
      refine st_iadd dX11_walk_23 ?_
      refine c_V1p (d' := d - 1) dX11_walk_24 l_X11_423 k_X11_isRoom i_X11_isRoom (Or.inl ⟨_, _, _, _, _, (by first | with_reducible assumption | rfl), by rfl⟩) (by omega) (Nat.le_of_ble_eq_true rfl) (C_isRoom (by omega) hB hT (by unfold i32; omega)) ?_
      refine b_ne (tgt := 32) dX11_walk_27 rfl (fun c9 => ?_) (fun c9 => ?_)
      · refine st_aload_n dX11_walk_32 rfl ?_
        have hok : walkOk B q w := ⟨c7, c8, by rw [Int.toNat_natCast]; omega⟩
        refine c_V0v (d' := d - 1) dX11_walk_33 l_X11_450 k_X11_keepsAct i_X11_keepsAct (Or.inl ⟨_, _, _, _, _, (by first | with_reducible assumption | rfl), by rfl⟩) (by omega) (Nat.le_of_ble_eq_true rfl) (C_keepsAct (by omega) hB hhi.1) (fun M1 N1 hx1 => ?_)
        obtain ⟨rfl, hK⟩ := hx1
        have e115 : M1 115 q = g4 (B 3 13) q := by rw [hK.1 115 (by decide)]; exact hP.1 q (by omega)
        refine st_aload_n dX11_walk_36 rfl ?_
        refine st_getfr dX11_walk_37 f_X11_16 (by first | with_reducible assumption | rfl) (by rfl) ?_
        refine st_iload_n dX11_walk_40 rfl ?_
        refine st_dup2 dX11_walk_41 rfl rfl ?_
        refine st_ialdK (k' := q) dX11_walk_42 sh_115 rfl (by omega) (hn := by decide) ?_
        rw [e115]
        refine st_iload_n dX11_walk_43 rfl ?_
        refine st_iadd dX11_walk_44 ?_
        refine st_iastK (k' := q) dX11_walk_45 sh_115 rfl (by omega) (hn := by decide) ?_
        refine st_aload_n dX11_walk_46 rfl ?_
        refine st_getfr dX11_walk_47 f_X11_16 (by first | with_reducible assumption | rfl) (by rfl) ?_
        refine st_iload_n dX11_walk_50 rfl ?_
        refine st_ialdK (k' := q) dX11_walk_51 sh_115 rfl (by omega) (hn := by decide) ?_
        rw [show q_up M1 115 q (g4 (B 3 13) q + w) 115 q = g4 (B 3 13) q + w by simp [q_up]]
        refine r_i dX11_walk_52 rfl ⟨rfl, Or.inr ⟨hok, rfl, ⟨(hK.1.sub (by decide)).tr (Exc.up (by decide)), fun j a b c => by rw [q_up_ne (by decide)]; exact hK.2.1 j a b c⟩, full_go hF (by omega) (by omega) hK (Exc.up (by decide)) (fun o ho => ?_) (fun t ht => ?_)⟩⟩
        · by_cases e : o = q
          · rw [if_pos e, e]; simp [q_up]
          · rw [if_neg e, ← hK.1 115 (by decide)]; simp [q_up, e]
        · rw [if_neg (by omega), q_up_ne (by decide), hK.1 119 (by decide)]
      · skip
        exact no (fun z => c9 (by have := z.2.2; rw [Int.toNat_natCast] at this; exact this))
theorem atF_cnt (B : q_Mem) (r s : Int) : ∀ n, n ≤ 7 → (atF B r s n = 0 ↔ ¬ 0 < cnt (fun k => g4 (B 3 13) k = r ∧ g8 (B 3 12) k = s) n)
  | 0, _ => by simp [atF, cnt, hsum]
  | n + 1, hn => by
    have ih := atF_cnt B r s n (by omega)
    have hc := cnt_rng (fun k => g4 (B 3 13) k = r ∧ g8 (B 3 12) k = s) n
    have hl := atF_rng B r s n (by omega)
    rw [cnt_succ]
    unfold atF
    by_cases c : g4 (B 3 13) n = r ∧ g8 (B 3 12) n = s
    · rw [if_pos c, if_pos c]
      have hb := orb_bit (atF B r s n) n n
      constructor
      · intro z
        rw [z] at hb
        simp at hb
      · intro z
        omega
    · rw [if_neg c, if_neg c]
      rw [ih]
      omega
def pushOk (B : q_Mem) (t w : Int) : Prop := ((0 ≤ t ∧ t < B 3 5) ∧ 0 < cnt (fun k => g4 (B 3 13) k = g4 (B 3 13) (7 + t.toNat) ∧ g8 (B 3 12) k = g8 (B 3 12) (7 + t.toNat)) (B 3 4).toNat) ∧ goOk B (7 + t.toNat) w
theorem C_rpush {G : q_G} {d : Nat} {B M : q_Mem} {N : q_MemL} {t w : Int} (hd : 4 ≤ d) (hF : FullR B M) (ht : i32 t) (hw : i32 w) : AC0 G d m_X11_push [.ref 112, I t, I w] M N (CV (fun x M' N' => N' = N ∧ ((¬ pushOk B t w ∧ x = I (-1) ∧ M' = M) ∨ (pushOk B t w ∧ x = I (g4 (B 3 13) (7 + t.toNat) + w) ∧ AcE M M' ∧ FullR (goM B (7 + t.toNat) w) M')))) := by
  obtain ⟨hN, e8, hz, hri, hpo, hhi⟩ := id hF
  obtain ⟨hB, hT, hP, hW, hb6⟩ := id hN
  obtain ⟨h0, h1, h2, h3, h4, h5, h6, h11, h12, h13, -⟩ := id hB
  have no : ¬ pushOk B t w → AW0 G d m_X11_push 49 [some (.ref 112), some (I t), some (I w)] [] M N (CV (fun x M' N' => N' = N ∧ ((¬ pushOk B t w ∧ x = I (-1) ∧ M' = M) ∨ (pushOk B t w ∧ x = I (g4 (B 3 13) (7 + t.toNat) + w) ∧ AcE M M' ∧ FullR (goM B (7 + t.toNat) w) M')))) := by
    intro hn
    refine st_iconst dX11_push_49 ?_
    exact r_i dX11_push_50 rfl ⟨rfl, Or.inl ⟨hn, rfl, rfl⟩⟩
  refine AC.of (L0 := [_, _, _]) pn_X11 (Nat.le_of_ble_eq_true rfl) rfl ?_
  refine st_aload_n dX11_push_0 rfl ?_
  refine st_iload_n dX11_push_1 rfl ?_
  refine c_V1p (d' := d - 1) dX11_push_2 l_X11_418 k_X11_isThing i_X11_isThing (Or.inl ⟨_, _, _, _, _, (by first | with_reducible assumption | rfl), by rfl⟩) (by omega) (Nat.le_of_ble_eq_true rfl) (C_isThing (by omega) hB hT ht) ?_
  refine b_eq (tgt := 49) dX11_push_5 rfl (fun c7 => ?_) (fun c7 => ?_)
  · skip
    exact no (fun z => c7 z.1.1)
  · refine st_iload_n dX11_push_8 rfl ?_
    refine c_S1p (d' := d - 1) dX11_push_9 l_X11_458 k_X11_isWay s_X11_isWay (by omega) (Nat.le_of_ble_eq_true rfl) (C_isWay hw) ?_
    refine b_eq (tgt := 49) dX11_push_12 rfl (fun c8 => ?_) (fun c8 => ?_)
    · skip
      exact no (fun z => c8 z.2.1)
    · skip
      obtain ⟨q, rfl⟩ : ∃ q : Nat, t = q := ⟨t.toNat, by omega⟩
      rw [Int.toNat_natCast] at *
      have gq := g4_lt (B 3 13) (7 + q)
      have gs := g8_lt (B 3 12) (7 + q)
      have hat := atF_cnt B (g4 (B 3 13) (7 + q)) (g8 (B 3 12) (7 + q)) (B 3 4).toNat (by omega)
      have har := atF_rng B (g4 (B 3 13) (7 + q)) (g8 (B 3 12) (7 + q)) (B 3 4).toNat (by omega)
      refine st_aload_n dX11_push_15 rfl ?_
      refine st_aload_n dX11_push_16 rfl ?_
      refine st_getfr dX11_push_17 f_X11_28 (by first | with_reducible assumption | rfl) (by rfl) ?_
      refine st_iload_n dX11_push_20 rfl ?_
      first | refine st_ialdK (k' := _) dX11_push_21 (by first | with_reducible assumption | rfl) rfl (by omega) (hn := by first | decide | omega) ?_ | refine st_iald dX11_push_21 (by first | with_reducible assumption | rfl) (by omega) (by omega) (hn := by first | decide | omega) ?_
      rw [hP.2 q (by omega)]
      refine st_iload_n dX11_push_22 rfl ?_
      refine st_iadd dX11_push_23 ?_
      refine c_V1p (d' := d - 1) dX11_push_24 l_X11_423 k_X11_isRoom i_X11_isRoom (Or.inl ⟨_, _, _, _, _, (by first | with_reducible assumption | rfl), by rfl⟩) (by omega) (Nat.le_of_ble_eq_true rfl) (C_isRoom (by omega) hB hT (by unfold i32; omega)) ?_
      refine b_eq (tgt := 49) dX11_push_27 rfl (fun c9 => ?_) (fun c9 => ?_)
      · skip
        exact no (fun z => c9 (by have := z.2.2; rw [Int.toNat_natCast] at this; exact this))
      · refine st_aload_n dX11_push_30 rfl ?_
        refine st_aload_n dX11_push_31 rfl ?_
        refine st_getfr dX11_push_32 f_X11_28 (by first | with_reducible assumption | rfl) (by rfl) ?_
        refine st_iload_n dX11_push_35 rfl ?_
        first | refine st_ialdK (k' := _) dX11_push_36 (by first | with_reducible assumption | rfl) rfl (by omega) (hn := by first | decide | omega) ?_ | refine st_iald dX11_push_36 (by first | with_reducible assumption | rfl) (by omega) (by omega) (hn := by first | decide | omega) ?_
        rw [hP.2 q (by omega)]
        refine st_aload_n dX11_push_37 rfl ?_
        refine st_getfr dX11_push_38 f_X11_31 (by first | with_reducible assumption | rfl) (by rfl) ?_
        refine st_iload_n dX11_push_41 rfl ?_
        first | refine st_ialdK (k' := _) dX11_push_42 (by first | with_reducible assumption | rfl) rfl (by omega) (hn := by first | decide | omega) ?_ | refine st_iald dX11_push_42 (by first | with_reducible assumption | rfl) (by omega) (by omega) (hn := by first | decide | omega) ?_
        rw [hW.2 q (by omega)]
        refine c_V2p (d' := d - 1) dX11_push_43 l_X11_429 k_X11_peopleAt i_X11_peopleAt (Or.inl ⟨_, _, _, _, _, (by first | with_reducible assumption | rfl), by rfl⟩) (by omega) (Nat.le_of_ble_eq_true rfl) (C_peopleAt hN (by unfold i32; omega) (by unfold i32; omega)) ?_
        refine st_if_ne (tgt := 51) dX11_push_46 (by omega) rfl (fun c10 => ?_) (fun c10 => ?_)
        · refine st_aload_n dX11_push_51 rfl ?_
          have hok : pushOk B q w := ⟨⟨c7, by rw [Int.toNat_natCast]; exact Decidable.byContradiction (fun z => c10 (hat.2 z))⟩, c8, by rw [Int.toNat_natCast]; omega⟩
          refine c_V0v (d' := d - 1) dX11_push_52 l_X11_450 k_X11_keepsAct i_X11_keepsAct (Or.inl ⟨_, _, _, _, _, (by first | with_reducible assumption | rfl), by rfl⟩) (by omega) (Nat.le_of_ble_eq_true rfl) (C_keepsAct (by omega) hB hhi.1) (fun M1 N1 hx1 => ?_)
          obtain ⟨rfl, hK⟩ := hx1
          have e119 : M1 119 q = g4 (B 3 13) (7 + q) := by rw [hK.1 119 (by decide)]; exact hP.2 q (by omega)
          refine st_aload_n dX11_push_55 rfl ?_
          refine st_getfr dX11_push_56 f_X11_28 (by first | with_reducible assumption | rfl) (by rfl) ?_
          refine st_iload_n dX11_push_59 rfl ?_
          refine st_dup2 dX11_push_60 rfl rfl ?_
          refine st_ialdK (k' := q) dX11_push_61 sh_119 rfl (by omega) (hn := by decide) ?_
          rw [e119]
          refine st_iload_n dX11_push_62 rfl ?_
          refine st_iadd dX11_push_63 ?_
          refine st_iastK (k' := q) dX11_push_64 sh_119 rfl (by omega) (hn := by decide) ?_
          refine st_aload_n dX11_push_65 rfl ?_
          refine st_getfr dX11_push_66 f_X11_28 (by first | with_reducible assumption | rfl) (by rfl) ?_
          refine st_iload_n dX11_push_69 rfl ?_
          refine st_ialdK (k' := q) dX11_push_70 sh_119 rfl (by omega) (hn := by decide) ?_
          rw [show q_up M1 119 q (g4 (B 3 13) (7 + q) + w) 119 q = g4 (B 3 13) (7 + q) + w by simp [q_up]]
          refine r_i dX11_push_71 rfl ⟨rfl, Or.inr ⟨hok, rfl, ⟨(hK.1.sub (by decide)).tr (Exc.up (by decide)), fun j a b c => by rw [q_up_ne (by decide)]; exact hK.2.1 j a b c⟩, full_go hF (by omega) (by omega) hK (Exc.up (by decide)) (fun o ho => ?_) (fun u hu => ?_)⟩⟩
          · rw [if_neg (by omega), q_up_ne (by decide), hK.1 115 (by decide)]
          · by_cases e : u = q
            · rw [if_pos (by omega), e]; simp [q_up]
            · rw [if_neg (by omega), ← hK.1 119 (by decide)]; simp [q_up, e]
        · skip
          exact no (fun z => hat.1 c10 (by have := z.1.2; rw [Int.toNat_natCast] at this; exact this))


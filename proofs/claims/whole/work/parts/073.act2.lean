/-! the reference's acts -/
theorem NowOk.f11 {M : q_Mem} {z : Int} (h : NowOk M) (hz : 0 ≤ z ∧ z ≤ 9999) : NowOk (q_up M 3 11 z) := by
  obtain ⟨h0, h1, h2, h3, h4, h5, h6, h11, h12, h13, h15, h17, h18, hb, hc, hw, hv, hp, he, ht1, ht0⟩ := h
  exact ⟨h0, h1, h2, h3, h4, h5, h6, hz, h12, h13, h15, h17, h18, hb, hc, hw, hv, hp, he, ht1, ht0⟩
theorem NowOk.f12 {M : q_Mem} {z : Int} (h : NowOk M) (hz : 0 ≤ z ∧ z < 1073741824) : NowOk (q_up M 3 12 z) := by
  obtain ⟨h0, h1, h2, h3, h4, h5, h6, h11, h12, h13, h15, h17, h18, hb, hc, hw, hv, hp, he, ht1, ht0⟩ := h
  exact ⟨h0, h1, h2, h3, h4, h5, h6, h11, hz, h13, h15, h17, h18, hb, hc, hw, hv, hp, he, ht1, ht0⟩
theorem NowOk.f13 {M : q_Mem} {z : Int} (h : NowOk M) (hz : 0 ≤ z ∧ z < 1048576) : NowOk (q_up M 3 13 z) := by
  obtain ⟨h0, h1, h2, h3, h4, h5, h6, h11, h12, h13, h15, h17, h18, hb, hc, hw, hv, hp, he, ht1, ht0⟩ := h
  exact ⟨h0, h1, h2, h3, h4, h5, h6, h11, h12, hz, h15, h17, h18, hb, hc, hw, hv, hp, he, ht1, ht0⟩
theorem NowOk.f15 {M : q_Mem} {z : Int} (h : NowOk M) (hz : 0 ≤ z ∧ z ≤ 20) : NowOk (q_up M 3 15 z) := by
  obtain ⟨h0, h1, h2, h3, h4, h5, h6, h11, h12, h13, h15, h17, h18, hb, hc, hw, hv, hp, he, ht1, ht0⟩ := h
  exact ⟨h0, h1, h2, h3, h4, h5, h6, h11, h12, h13, hz, h17, h18, hb, hc, hw, hv, hp, he, ht1, ht0⟩
theorem NowOk.f17 {M : q_Mem} {z : Int} (h : NowOk M) (hz : 0 ≤ z ∧ z ≤ 8) (ht : M 3 0 = 1 ∨ z = 0) : NowOk (q_up M 3 17 z) := by
  obtain ⟨h0, h1, h2, h3, h4, h5, h6, h11, h12, h13, h15, h17, h18, hb, hc, hw, hv, hp, he, ht1, ht0⟩ := h
  exact ⟨h0, h1, h2, h3, h4, h5, h6, h11, h12, h13, h15, hz, h18, hb, hc, hw, hv, hp, he, ht1, fun y => by
    have := ht0 y
    have y : M 3 0 = 0 := y
    exact ⟨this.1, this.2.1, this.2.2.1, this.2.2.2.1, this.2.2.2.2.1, by show z = 0; omega⟩⟩
theorem NowOk.f18 {M : q_Mem} {z : Int} (h : NowOk M) (hz : 0 ≤ z ∧ z < 2147483648) : NowOk (q_up M 3 18 z) := by
  obtain ⟨h0, h1, h2, h3, h4, h5, h6, h11, h12, h13, h15, h17, h18, hb, hc, hw, hv, hp, he, ht1, ht0⟩ := h
  exact ⟨h0, h1, h2, h3, h4, h5, h6, h11, h12, h13, h15, h17, hz, hb, hc, hw, hv, hp, he, ht1, ht0⟩
theorem NowOk.r7 {M : q_Mem} {i : Nat} {z : Int} (h : NowOk M) (hz : 0 ≤ z ∧ z ≤ 30) : NowOk (q_up M 7 i z) := by
  obtain ⟨h0, h1, h2, h3, h4, h5, h6, h11, h12, h13, h15, h17, h18, hb, hc, hw, hv, hp, he, ht1, ht0⟩ := h
  refine ⟨h0, h1, h2, h3, h4, h5, h6, h11, h12, h13, h15, h17, h18, hb, hc, hw, fun k => ?_, hp, he, ht1, ht0⟩
  show 0 ≤ (if 7 = 7 ∧ k = i then z else M 7 k) ∧ (if 7 = 7 ∧ k = i then z else M 7 k) ≤ 30
  have := hv k
  split
  · exact hz
  · exact this
theorem NowOk.r8 {M : q_Mem} {i : Nat} {z : Int} (h : NowOk M) (hz : -1 ≤ z ∧ z < 1073741824) : NowOk (q_up M 8 i z) := by
  obtain ⟨h0, h1, h2, h3, h4, h5, h6, h11, h12, h13, h15, h17, h18, hb, hc, hw, hv, hp, he, ht1, ht0⟩ := h
  refine ⟨h0, h1, h2, h3, h4, h5, h6, h11, h12, h13, h15, h17, h18, hb, hc, hw, hv, fun k => ?_, he, ht1, ht0⟩
  show -1 ≤ (if 8 = 8 ∧ k = i then z else M 8 k) ∧ (if 8 = 8 ∧ k = i then z else M 8 k) < 1073741824
  have := hp k
  split
  · exact hz
  · exact this
theorem NowOk.r9 {M : q_Mem} {i : Nat} {z : Int} (h : NowOk M) (hz : -1 ≤ z ∧ z ≤ 100) : NowOk (q_up M 9 i z) := by
  obtain ⟨h0, h1, h2, h3, h4, h5, h6, h11, h12, h13, h15, h17, h18, hb, hc, hw, hv, hp, he, ht1, ht0⟩ := h
  refine ⟨h0, h1, h2, h3, h4, h5, h6, h11, h12, h13, h15, h17, h18, hb, hc, hw, hv, hp, fun k => ?_, ht1, ht0⟩
  show -1 ≤ (if 9 = 9 ∧ k = i then z else M 9 k) ∧ (if 9 = 9 ∧ k = i then z else M 9 k) ≤ 100
  have := he k
  split
  · exact hz
  · exact this
theorem NowOk.cp {M : q_Mem} (h : NowOk M) : NowOk (q_cp M 8 8 5 0 95) := by
  obtain ⟨h0, h1, h2, h3, h4, h5, h6, h11, h12, h13, h15, h17, h18, hb, hc, hw, hv, hp, he, ht1, ht0⟩ := h
  refine ⟨h0, h1, h2, h3, h4, h5, h6, h11, h12, h13, h15, h17, h18, hb, hc, hw, hv, fun k => ?_, he, ht1, ht0⟩
  show -1 ≤ (if 8 = 8 then (if 0 ≤ k ∧ k < 0 + 95 then M 8 (5 + (k - 0)) else M 8 k) else M 8 k) ∧ (if 8 = 8 then (if 0 ≤ k ∧ k < 0 + 95 then M 8 (5 + (k - 0)) else M 8 k) else M 8 k) < 1073741824
  rw [if_pos rfl]
  split
  · exact hp _
  · exact hp k
theorem NowOk.keep {M : q_Mem} {vp : Int} (h : NowOk M) (hvp : -1 ≤ vp ∧ vp < 42) : NowOk (keepM M vp) := by
  obtain ⟨h0, h1, h2, h3, h4, h5, h6, h11, h12, h13, h15, h17, h18, hb, hc, hw, hv, hp, he, ht1, ht0⟩ := id h
  have hA : NowOk (remA M 3) := by
    unfold remA
    split
    · exact (h.cp).f15 (by omega)
    · exact h
  have h15A : 0 ≤ remA M 3 3 15 ∧ remA M 3 3 15 < 20 := by
    unfold remA
    split
    · simp [q_up]
    · omega
  obtain ⟨a0, a1, a2, a3, a4, a5, a6, a11, a12, a13, -, -, -, -, -, -, av, -⟩ := id hA
  have av7 := av vp.toNat
  unfold keepM remB
  refine NowOk.f15 (NowOk.r8 (NowOk.r8 (NowOk.r8 (NowOk.r8 (NowOk.r8 hA (by omega)) (by omega)) (by omega)) (by omega)) ?_) (by omega)
  split <;> omega
theorem RT.home {B B1 M : q_Mem} (h : RT B M) (hf : ∀ j, j ∈ [1, 2, 3, 4, 5, 6, 17] → B1 3 j = B 3 j) (e4 : B1 4 = B 4) (e5 : B1 5 = B 5) (e6 : B1 6 = B 6) (e9 : B1 9 = B 9) (e7 : ∀ q h, q < (B 3 4).toNat → h < (B 3 2).toNat → M 117 (6 * q + h) = B1 7 (q * 6 + h)) : RT B1 M := by
  unfold RT at *
  rw [hf 1 (by decide), hf 2 (by decide), hf 3 (by decide), hf 4 (by decide), hf 5 (by decide), hf 6 (by decide), hf 17 (by decide), e4, e5, e6, e9]
  exact ⟨h.1, h.2.1, fun q hq => ⟨fun h hh => e7 q h hq hh, (h.2.2.1 q hq).2⟩, h.2.2.2⟩
theorem RP.home {B B1 M : q_Mem} {p : Int} (h : RP B M p) (e : B1 3 4 = B 3 4 ∧ B1 3 5 = B 3 5) : RP B1 M p := by
  unfold RP at *
  rw [e.1, e.2]
  exact h
theorem RW.home {B B1 M : q_Mem} {p : Int} (h : RW B M p) (e : B1 3 4 = B 3 4 ∧ B1 3 5 = B 3 5) : RW B1 M p := by
  unfold RW at *
  rw [e.1, e.2]
  exact h
/-- the rows that an act may change -/
def acX : List Nat := [112, 113, 115, 116, 117, 119, 120, 143, 144, 145]
def AcE (M M1 : q_Mem) : Prop := Exc acX M M1 ∧ ∀ j, ¬ j = 45 → ¬ j = 46 → ¬ j = 47 → M1 112 j = M 112 j
theorem KaP.st {B M M1 : q_Mem} {w b : Int} {n s : Nat} (h : KaP M M1 n s) (hS : RS B M w b) : RS B M1 w b := hS.exc h.1 (by decide)
theorem sang_f {B : q_Mem} {z : Int} {j : Nat} (h11 : ¬ j = 11) (h12 : ¬ j = 12) (h15 : ¬ j = 15) : sangM B z 3 j = B 3 j := by
  unfold sangM
  rw [show q_up (q_up (keepM B (-1)) 3 12 z) 3 11 (B 3 11 + 1) 3 j = keepM B (-1) 3 j by simp [q_up, h11, h12], keepM_f h15]
theorem sang_r {B : q_Mem} {z : Int} {a : Nat} (h3 : a ≠ 3) (h8 : a ≠ 8) : sangM B z a = B a := by
  unfold sangM
  rw [q_up_ne h3, q_up_ne h3, keepM_row h3 h8]
theorem sang_h {B : q_Mem} {z : Int} {a j : Nat} (h : a = 8 ∨ (a = 3 ∧ j = 15)) : sangM B z a j = keepM B (-1) a j := by
  unfold sangM
  rcases h with rfl | ⟨rfl, rfl⟩
  · simp [q_up]
  · simp [q_up]
theorem Zd_nxt {B : q_Mem} (h3 : 0 ≤ B 3 3 ∧ B 3 3 ≤ 8) (w : Int) (v : Nat → Int) : Zd (B 3 4).toNat (B 3 5).toNat (nxt B 3 w v) := fun j hj hc => by
  rw [nxt_g8 h3 hj]
  unfold homeAft aftD
  rw [if_neg (fun y => hc (Or.inl y)), if_neg (fun y => hc (Or.inr y))]
/-- a beat that was kept -/
theorem full_sang {B V V1 V2 : q_Mem} {v : Nat → Int} (h : FullR B V) (hb : B 3 11 + 1 ≤ 9999) (hK : KaP V V1 (keN B) (keS B)) (hE : Exc [113, 116, 120, 143, 144] V1 V2) (h8 : V2 113 8 = V 113 8) (hS : RS B V2 (nxt B 3 (B 3 12) v) (B 3 11 + 1)) : FullR (sangM B (nxt B 3 (B 3 12) v)) V2 := by
  have hfu := h
  obtain ⟨hN, e8, hz, hri, hpo, hhi⟩ := h
  have hB := hN.1
  obtain ⟨h0, h1, h2, h3, h4, h5, h6, h11, h12, -⟩ := id hB
  have hnr := nxt_rng (M := B) (a := 3) (w := B 3 12) (v := v) h3
  have hB1 : NowOk (sangM B (nxt B 3 (B 3 12) v)) := ((hB.keep (by omega)).f12 hnr).f11 (by omega)
  have f12 : sangM B (nxt B 3 (B 3 12) v) 3 12 = nxt B 3 (B 3 12) v := by unfold sangM; simp [q_up]
  have f11 : sangM B (nxt B 3 (B 3 12) v) 3 11 = B 3 11 + 1 := by unfold sangM; simp [q_up]
  have f4 : sangM B (nxt B 3 (B 3 12) v) 3 4 = B 3 4 := sang_f (by decide) (by decide) (by decide)
  have f5 : sangM B (nxt B 3 (B 3 12) v) 3 5 = B 3 5 := sang_f (by decide) (by decide) (by decide)
  have f2 : sangM B (nxt B 3 (B 3 12) v) 3 2 = B 3 2 := sang_f (by decide) (by decide) (by decide)
  have hk := keepM_his (vp := -1) hB (by omega)
  have hh := his_keep (B1 := sangM B (nxt B 3 (B 3 12) v)) (V1 := V2) (vp := -1) hfu (by omega) (by rw [sang_h (Or.inr ⟨rfl, rfl⟩)]; exact hk.1) (fun k hk2 i hi => by rw [sang_h (Or.inl rfl)]; exact hk.2.1 k hk2 i hi) (by rw [sang_h (Or.inl rfl)]; exact hk.2.2.1) (by rw [sang_h (Or.inl rfl)]; exact hk.2.2.2.1) (by rw [sang_h (Or.inl rfl)]; exact hk.2.2.2.2.1) (by rw [sang_h (Or.inl rfl)]; exact hk.2.2.2.2.2.1) (by rw [sang_h (Or.inl rfl)]; exact hk.2.2.2.2.2.2) (fun j _ _ => by rw [sang_r (by decide) (by decide)]) ⟨f4, f5, f2⟩ (by rw [hE 112 (by decide)]; exact hK.2.2.1) (fun k hk2 i hi => by rw [hE 145 (by decide)]; exact hK.2.2.2.1 k hk2 i hi) (fun i hi => by rw [hE 145 (by decide)]; exact hK.2.2.2.2 i hi)
  refine ⟨⟨hB1, hS.1.home (fun j hj => ?_) (sang_r (by decide) (by decide)) (sang_r (by decide) (by decide)) (sang_r (by decide) (by decide)) (sang_r (by decide) (by decide)) (fun q h hq hh => by rw [sang_r (by decide) (by decide)]; exact (hS.1.2.2.1 q hq).1 h hh), ?_, ?_, ?_⟩, ?_, ?_, ?_, hh.2, hh.1⟩
  · simp only [List.mem_cons, List.not_mem_nil, or_false] at hj
    exact sang_f (by omega) (by omega) (by omega)
  · rw [sang_f (by decide) (by decide) (by decide)]
    exact hS.2.1.home ⟨f4, f5⟩
  · rw [f12]
    exact hS.2.2.1.home ⟨f4, f5⟩
  · rw [f11]
    exact hS.2.2.2
  · rw [h8, e8, sang_f (by decide) (by decide) (by decide)]
  · rw [f4, f5, f12]
    exact Zd_nxt h3 _ _
  · rw [sang_f (by decide) (by decide) (by decide), sang_r (by decide) (by decide)]
    exact hri
theorem C_rbeat {G : q_G} {d : Nat} {B M : q_Mem} {N : q_MemL} (hd : 4 ≤ d) (hF : FullR B M) : AC0 G d m_X11_beat [.ref 112] M N (CV (fun v M' N' => N' = N ∧ ((¬ beatOk B ∧ v = I (-1) ∧ M' = M) ∨ (beatOk B ∧ v = I (B 3 11 + 1) ∧ AcE M M' ∧ FullR (sangM B (nxt B 3 (B 3 12) (nowV B 0))) M')))) := by
  obtain ⟨hN, e8, hz, hri, hpo, hhi⟩ := id hF
  obtain ⟨hB, hT, hP, hW, hb6⟩ := id hN
  obtain ⟨h0, h1, h2, h3, h4, h5, h6, h11, h12, -⟩ := id hB
  have no : ¬ beatOk B → AW0 G d m_X11_beat 20 [some (.ref 112)] [] M N (CV (fun v M' N' => N' = N ∧ ((¬ beatOk B ∧ v = I (-1) ∧ M' = M) ∨ (beatOk B ∧ v = I (B 3 11 + 1) ∧ AcE M M' ∧ FullR (sangM B (nxt B 3 (B 3 12) (nowV B 0))) M')))) := by
    intro h
    refine st_iconst dX11_beat_20 ?_
    exact r_i dX11_beat_21 rfl ⟨rfl, Or.inl ⟨h, rfl, rfl⟩⟩
  refine AC.of (L0 := [_]) pn_X11 (Nat.le_of_ble_eq_true rfl) rfl ?_
  refine st_aload_n dX11_beat_0 rfl ?_
  refine c_V0p (d' := d - 1) dX11_beat_1 l_X11_186 k_X11_isHouse i_X11_isHouse (Or.inl ⟨_, _, _, _, _, (by first | with_reducible assumption | rfl), by rfl⟩) (by omega) (Nat.le_of_ble_eq_true rfl) (C_isHouse hB hT) ?_
  refine b_eq (tgt := 20) dX11_beat_4 rfl (fun h7 => ?_) (fun h7 => ?_)
  · skip
    exact no (fun z => h7 z.1)
  · refine st_aload_n dX11_beat_7 rfl ?_
    refine st_getfr dX11_beat_8 f_X11_9 (by first | with_reducible assumption | rfl) (by rfl) ?_
    refine st_bipush dX11_beat_11 (by decide) ?_
    refine st_ialdK (k' := 6) dX11_beat_13 (by first | with_reducible assumption | rfl) rfl (by omega) (hn := by first | decide | omega) ?_
    rw [hb6]
    refine st_sipush dX11_beat_14 (by decide) ?_
    refine st_icmp_ne (tgt := 22) dX11_beat_17 (by omega) (by omega) rfl (fun h8 => ?_) (fun h8 => ?_)
    · refine st_aload_n dX11_beat_22 rfl ?_
      have hok : beatOk B := ⟨h7, by omega⟩
      refine c_V0v (d' := d - 1) dX11_beat_23 l_X11_450 k_X11_keepsAct i_X11_keepsAct (Or.inl ⟨_, _, _, _, _, (by first | with_reducible assumption | rfl), by rfl⟩) (by omega) (Nat.le_of_ble_eq_true rfl) (C_keepsAct (by omega) hB hhi.1) (fun M1 N1 hx1 => ?_)
      obtain ⟨rfl, hK⟩ := hx1
      have hS1 := hK.st hN.2
      refine st_aload_n dX11_beat_26 rfl ?_
      refine c_V0v (d' := d - 1) dX11_beat_27 l_X11_412 k_X11_laysNow i_X11_laysNow (Or.inl ⟨_, _, _, _, _, (by first | with_reducible assumption | rfl), by rfl⟩) (by omega) (Nat.le_of_ble_eq_true rfl) (C_laysNow (by omega) hB hS1.1 hS1.2.2.2 (by omega) h7) (fun M2 N2 hx2 => ?_)
      obtain ⟨rfl, hE2, hv2, -⟩ := hx2
      have hS2 := hS1.exc hE2 (by decide)
      refine st_aload_n dX11_beat_30 rfl ?_
      refine c_V0v (d' := d - 1) dX11_beat_31 l_X11_453 k_X11_beats i_X11_beats (Or.inl ⟨_, _, _, _, _, (by first | with_reducible assumption | rfl), by rfl⟩) (by omega) (Nat.le_of_ble_eq_true rfl) (C_rBeats (by omega) hB hS2 (fun q hq => by rw [hv2 q hq]; exact nowV_rng hB _ _ q)) (fun M3 N3 hx3 => ?_)
      obtain ⟨rfl, hE3, hj3, -, -, hS3⟩ := hx3
      rw [nxt_congr (v' := nowV B 0) rfl rfl rfl hv2] at hS3
      refine st_aload_n dX11_beat_34 rfl ?_
      refine st_getfr dX11_beat_35 f_X11_9 (by first | with_reducible assumption | rfl) (by rfl) ?_
      refine st_bipush dX11_beat_38 (by decide) ?_
      refine st_ialdK (k' := 6) dX11_beat_40 (by first | with_reducible assumption | rfl) rfl (by omega) (hn := by first | decide | omega) ?_
      rw [hS3.2.2.2]
      have hEx : Exc [113, 116, 120, 143, 144] M1 M3 := (hE2.sub (by decide)).tr (hE3.sub (by decide))
      refine r_i dX11_beat_41 rfl ⟨rfl, Or.inr ⟨hok, rfl, ⟨(hK.1.sub (by decide)).tr (hEx.sub (by decide)), fun j a b c => by rw [hEx 112 (by decide)]; exact hK.2.1 j a b c⟩, full_sang hF hok.2 hK hEx (by rw [hj3 8 (by decide), hE2 113 (by decide), hK.1 113 (by decide)]) hS3⟩⟩
    · skip
      exact no (fun z => by have := z.2; omega)
theorem C_rsing {G : q_G} {d : Nat} {B M : q_Mem} {N : q_MemL} {p v : Int} (hd : 4 ≤ d) (hF : FullR B M) (hp : i32 p) (hv : i32 v) : AC0 G d m_X11_sing [.ref 112, I p, I v] M N (CV (fun x M' N' => N' = N ∧ ((¬ singOk B p v ∧ x = I (-1) ∧ M' = M) ∨ (singOk B p v ∧ x = I (g8 (nxt B 3 (B 3 12) (oneV B p.toNat v)) p.toNat) ∧ AcE M M' ∧ FullR (sangM B (nxt B 3 (B 3 12) (oneV B p.toNat v))) M')))) := by
  obtain ⟨hN, e8, hz, hri, hpo, hhi⟩ := id hF
  obtain ⟨hB, hT, hP, hW, hb6⟩ := id hN
  obtain ⟨h0, h1, h2, h3, h4, h5, h6, h11, h12, -⟩ := id hB
  have hvv := hv
  unfold i32 at hvv
  have no : ¬ singOk B p v → AW0 G d m_X11_sing 33 [some (.ref 112), some (I p), some (I v)] [] M N (CV (fun x M' N' => N' = N ∧ ((¬ singOk B p v ∧ x = I (-1) ∧ M' = M) ∨ (singOk B p v ∧ x = I (g8 (nxt B 3 (B 3 12) (oneV B p.toNat v)) p.toNat) ∧ AcE M M' ∧ FullR (sangM B (nxt B 3 (B 3 12) (oneV B p.toNat v))) M')))) := by
    intro h
    refine st_iconst dX11_sing_33 ?_
    exact r_i dX11_sing_34 rfl ⟨rfl, Or.inl ⟨h, rfl, rfl⟩⟩
  refine AC.of (L0 := [_, _, _]) pn_X11 (Nat.le_of_ble_eq_true rfl) rfl ?_
  refine st_aload_n dX11_sing_0 rfl ?_
  refine st_iload_n dX11_sing_1 rfl ?_
  refine c_V1p (d' := d - 1) dX11_sing_2 l_X11_408 k_X11_isPerson i_X11_isPerson (Or.inl ⟨_, _, _, _, _, (by first | with_reducible assumption | rfl), by rfl⟩) (by omega) (Nat.le_of_ble_eq_true rfl) (C_isPerson (by omega) hB hT hp) ?_
  refine b_eq (tgt := 33) dX11_sing_5 rfl (fun h7 => ?_) (fun h7 => ?_)
  · skip
    exact no (fun z => h7 z.1)
  · refine st_iload_n dX11_sing_8 rfl ?_
    refine st_i2lK dX11_sing_9 (by omega) ?_
    refine st_lc0K dX11_sing_10 ?_
    refine st_ldc2 dX11_sing_11 l_X11_456 ?_
    refine AW.topv (show _ = J 30 from rfl) ?_
    refine c_S3p (d' := d - 1) dX11_sing_14 l_X11_182 k_X11_in s_X11_in (by omega) (Nat.le_of_ble_eq_true rfl) (C_in (by omega) (by omega) (by omega)) ?_
    refine b_eq (tgt := 33) dX11_sing_17 rfl (fun h8 => ?_) (fun h8 => ?_)
    · skip
      exact no (fun z => h8 z.2.1)
    · refine st_aload_n dX11_sing_20 rfl ?_
      refine st_getfr dX11_sing_21 f_X11_9 (by first | with_reducible assumption | rfl) (by rfl) ?_
      refine st_bipush dX11_sing_24 (by decide) ?_
      refine st_ialdK (k' := 6) dX11_sing_26 (by first | with_reducible assumption | rfl) rfl (by omega) (hn := by first | decide | omega) ?_
      rw [hb6]
      refine st_sipush dX11_sing_27 (by decide) ?_
      refine st_icmp_ne (tgt := 35) dX11_sing_30 (by omega) (by omega) rfl (fun h9 => ?_) (fun h9 => ?_)
      · refine st_aload_n dX11_sing_35 rfl ?_
        have htold := told_of hB (Or.inl (by omega))
        have hok : singOk B p v := ⟨h7, h8, htold, by omega⟩
        obtain ⟨q, rfl⟩ : ∃ q : Nat, p = q := ⟨p.toNat, by omega⟩
        rw [Int.toNat_natCast] at *
        refine c_V0v (d' := d - 1) dX11_sing_36 l_X11_450 k_X11_keepsAct i_X11_keepsAct (Or.inl ⟨_, _, _, _, _, (by first | with_reducible assumption | rfl), by rfl⟩) (by omega) (Nat.le_of_ble_eq_true rfl) (C_keepsAct (by omega) hB hhi.1) (fun M1 N1 hx1 => ?_)
        obtain ⟨rfl, hK⟩ := hx1
        have hS1 := hK.st hN.2
        refine st_aload_n dX11_sing_39 rfl ?_
        refine c_V0v (d' := d - 1) dX11_sing_40 l_X11_412 k_X11_laysNow i_X11_laysNow (Or.inl ⟨_, _, _, _, _, (by first | with_reducible assumption | rfl), by rfl⟩) (by omega) (Nat.le_of_ble_eq_true rfl) (C_laysNow (by omega) hB hS1.1 hS1.2.2.2 (by omega) htold) (fun M2 N2 hx2 => ?_)
        obtain ⟨rfl, hE2, hv2, -⟩ := hx2
        have hS2 := hS1.exc hE2 (by decide)
        refine st_aload_n dX11_sing_43 rfl ?_
        refine st_getfr dX11_sing_44 f_X11_107 (by first | with_reducible assumption | rfl) (by rfl) ?_
        refine st_iload_n dX11_sing_47 rfl ?_
        refine st_iload_n dX11_sing_48 rfl ?_
        first | refine st_iastK (k' := _) dX11_sing_49 (by first | with_reducible assumption | rfl) rfl (by omega) (hn := by first | decide | omega) ?_ | refine st_iast dX11_sing_49 (by first | with_reducible assumption | rfl) (by omega) (by omega) (hn := by first | decide | omega) ?_
        refine st_aload_n dX11_sing_50 rfl ?_
        have hEa : Exc [143] M1 (q_up M2 143 q v) := hE2.tr (Exc.up (by decide))
        have hSa : RS B (q_up M2 143 q v) (B 3 12) (B 3 11) := hS1.exc hEa (by decide)
        have hva : ∀ o, o < (B 3 4).toNat → q_up M2 143 q v 143 o = oneV B q v o := by
          intro o ho
          unfold oneV
          by_cases e : o = q
          · rw [if_pos e, e]; simp [q_up]
          · rw [if_neg e]; show _ = toldV B 3 (B 3 11) 0 o; rw [← hv2 o ho]; simp [q_up, e]
        have rva : ∀ o, o < (B 3 4).toNat → 0 ≤ oneV B q v o ∧ oneV B q v o ≤ 30 := by
          intro o _
          have := nowV_rng hB (B 3 11) 0 o
          unfold oneV
          split <;> omega
        refine c_V0v (d' := d - 1) dX11_sing_51 l_X11_453 k_X11_beats i_X11_beats (Or.inl ⟨_, _, _, _, _, (by first | with_reducible assumption | rfl), by rfl⟩) (by omega) (Nat.le_of_ble_eq_true rfl) (C_rBeats (by omega) hB hSa (fun o ho => by rw [hva o ho]; exact rva o ho)) (fun M3 N3 hx3 => ?_)
        obtain ⟨rfl, hE3, hj3, -, -, hS3⟩ := hx3
        rw [nxt_congr (v' := oneV B q v) rfl rfl rfl hva] at hS3
        refine st_aload_n dX11_sing_54 rfl ?_
        refine st_getfr dX11_sing_55 f_X11_19 (by first | with_reducible assumption | rfl) (by rfl) ?_
        refine st_iload_n dX11_sing_58 rfl ?_
        first | refine st_ialdK (k' := _) dX11_sing_59 (by first | with_reducible assumption | rfl) rfl (by omega) (hn := by first | decide | omega) ?_ | refine st_iald dX11_sing_59 (by first | with_reducible assumption | rfl) (by omega) (by omega) (hn := by first | decide | omega) ?_
        rw [hS3.2.2.1.1 q (by omega)]
        have hEx : Exc [113, 116, 120, 143, 144] M1 M3 := (hEa.sub (by decide)).tr (hE3.sub (by decide))
        refine r_i dX11_sing_60 rfl ⟨rfl, Or.inr ⟨hok, rfl, ⟨(hK.1.sub (by decide)).tr (hEx.sub (by decide)), fun j a b c => by rw [hEx 112 (by decide)]; exact hK.2.1 j a b c⟩, full_sang hF hok.2.2.2 hK hEx (by rw [hj3 8 (by decide), hEa 113 (by decide), hK.1 113 (by decide)]) hS3⟩⟩
      · skip
        exact no (fun z => by have := z.2.2.2; omega)


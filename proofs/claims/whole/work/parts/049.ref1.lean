/-! the reference: what it leans on -/
theorem C_in {G : q_G} {d : Nat} {M : q_Mem} {N : q_MemL} {v lo hi : Int} (hv : -9223372036854775808 ≤ v ∧ v < 9223372036854775808) (hl : -9223372036854775808 ≤ lo ∧ lo < 9223372036854775808) (hh : -9223372036854775808 ≤ hi ∧ hi < 9223372036854775808) : AC0 G d m_X11_in [J v, J lo, J hi] M N (CV (PU (Bz (lo ≤ v ∧ v ≤ hi)) M N)) := by
  have r1 := cmpJ_rng v lo
  have r2 := cmpJ_rng v hi
  refine AC.of (L0 := [_, _, _, _, _, _]) pn_X11 (Nat.le_of_ble_eq_true rfl) rfl ?_
  refine st_lload_n dX11_in_0 rfl ?_
  refine st_lload_n dX11_in_1 rfl ?_
  refine st_lcmpJ dX11_in_2 (by omega) (by omega) ?_
  refine st_if_lt (tgt := 17) dX11_in_3 (by omega) rfl (fun h => ?_) (fun h => ?_)
  · refine st_iconst dX11_in_17 ?_
    rw [cmpJ_lt] at h
    exact r_z dX11_in_18 rfl (by first | omega | (split <;> decide)) ⟨bz0 (by omega), rfl, rfl⟩
  · refine st_lload_n dX11_in_6 rfl ?_
    refine st_lload dX11_in_7 rfl ?_
    refine st_lcmpJ dX11_in_9 (by omega) (by omega) ?_
    rw [cmpJ_lt] at h
    refine st_if_gt (tgt := 17) dX11_in_10 (by omega) rfl (fun h2 => ?_) (fun h2 => ?_)
    · refine st_iconst dX11_in_17 ?_
      rw [cmpJ_gt] at h2
      exact r_z dX11_in_18 rfl (by first | omega | (split <;> decide)) ⟨bz0 (by omega), rfl, rfl⟩
    · refine st_iconst dX11_in_13 ?_
      refine st_goto (tgt := 18) dX11_in_14 rfl ?_
      rw [cmpJ_gt] at h2
      exact r_z dX11_in_18 rfl (by first | omega | (split <;> decide)) ⟨bz1 (by omega), rfl, rfl⟩
theorem C_apart {G : q_G} {d : Nat} {M : q_Mem} {N : q_MemL} {a b : Int} (ha : -2147483648 ≤ a ∧ a < 2147483648) (hb : -2147483648 ≤ b ∧ b < 2147483648) : AC0 G d m_X11_apart [I a, I b] M N (CV (PU (I (if a < b then b - a else a - b)) M N)) := by
  refine AC.of (L0 := [_, _]) pn_X11 (Nat.le_of_ble_eq_true rfl) rfl ?_
  refine st_iload_n dX11_apart_0 rfl ?_
  refine st_iload_n dX11_apart_1 rfl ?_
  refine st_icmp_ge (tgt := 11) dX11_apart_2 (by omega) (by omega) rfl (fun h => ?_) (fun h => ?_)
  · refine st_iload_n dX11_apart_11 rfl ?_
    refine st_iload_n dX11_apart_12 rfl ?_
    refine st_isub dX11_apart_13 ?_
    rw [if_neg (by omega)]
    exact r_i dX11_apart_14 rfl ⟨rfl, rfl, rfl⟩
  · refine st_iload_n dX11_apart_5 rfl ?_
    refine st_iload_n dX11_apart_6 rfl ?_
    refine st_isub dX11_apart_7 ?_
    refine st_goto (tgt := 14) dX11_apart_8 rfl ?_
    rw [if_pos (by omega)]
    exact r_i dX11_apart_14 rfl ⟨rfl, rfl, rfl⟩
theorem C_bits {G : q_G} {d : Nat} {M : q_Mem} {N : q_MemL} {s : Int} (hs : 0 ≤ s ∧ s < 2147483648) : AC0 G d m_X11_bits [I s] M N (CV (PU (I (hsum (bitI s) 7)) M N)) := by
  refine AC.of (L0 := [_, none, none]) pn_X11 (Nat.le_of_ble_eq_true rfl) rfl ?_
  refine st_iconst dX11_bits_0 ?_
  refine st_istore_n (L' := [_, _, _]) dX11_bits_1 (by decide) rfl rfl ?_
  refine st_iconst dX11_bits_2 ?_
  refine st_istore_n (L' := [_, _, _]) dX11_bits_3 (by decide) rfl rfl ?_
  have loop : ∀ (q k : Nat), k + q = 7 → AW0 G d m_X11_bits 4 [some (I s), some (I (hsum (bitI s) k)), some (I k)] [] M N (CV (PU (I (hsum (bitI s) 7)) M N)) := by
    intro q
    induction q with
    | zero =>
      intro k hk
      refine st_iload_n dX11_bits_4 rfl ?_
      refine st_bipush dX11_bits_5 (by decide) ?_
      refine st_icmp_ge (tgt := 24) dX11_bits_7 (by omega) (by omega) rfl (fun h => ?_) (fun h => ?_)
      · refine st_iload_n dX11_bits_24 rfl ?_
        exact r_i dX11_bits_25 rfl ⟨by rw [show k = 7 by omega], rfl, rfl⟩
      · skip
        omega
    | succ q ih =>
      intro k hk
      refine st_iload_n dX11_bits_4 rfl ?_
      refine st_bipush dX11_bits_5 (by decide) ?_
      refine st_icmp_ge (tgt := 24) dX11_bits_7 (by omega) (by omega) rfl (fun h => ?_) (fun h => ?_)
      · skip
        omega
      · refine st_iload_n dX11_bits_10 rfl ?_
        refine st_iload_n dX11_bits_11 rfl ?_
        refine st_iload_n dX11_bits_12 rfl ?_
        refine st_ishr dX11_bits_13 ?_; refine st_iconst dX11_bits_14 ?_; refine st_iand dX11_bits_15 ?_; refine AW.top (z_bit (by omega) (by omega)) ?_
        refine st_iadd dX11_bits_16 ?_
        refine st_istore_n (L' := [_, _, _]) dX11_bits_17 (by decide) rfl rfl ?_
        refine st_iinc (L' := [_, _, _]) dX11_bits_18 rfl (by decide) rfl rfl ?_
        refine st_goto (tgt := 4) dX11_bits_21 rfl ?_
        exact AW.to (ih (k + 1) (by omega)) (h2 := by simp [hsum])
  exact loop 7 0 rfl
/-! the reference's rows against a home of the system, B's at 3: what is told -/
def RT (B M : q_Mem) : Prop :=
  (M 113 0 = B 3 1 ∧ M 113 1 = B 3 2 ∧ M 113 2 = max 0 (B 3 3 - 1) ∧ M 113 3 = B 3 4 ∧ M 113 4 = B 3 5 ∧ M 113 5 = B 3 6 ∧ M 113 7 = B 3 17) ∧
  (∀ s : Nat, (s : Int) ≤ max 0 (B 3 3 - 1) → hsum (M 114) s = B 4 s) ∧
  (∀ q, q < (B 3 4).toNat → (∀ h, h < (B 3 2).toNat → M 117 (6 * q + h) = B 7 (q * 6 + h)) ∧ M 118 q = B 5 q) ∧
  (∀ t, t < (B 3 5).toNat → M 121 t = B 6 t) ∧
  (∀ e, e < (B 3 17).toNat → M 122 e = B 9 (e * 3) ∧ M 123 e = B 9 (e * 3 + 1) ∧ M 124 e = B 9 (e * 3 + 2))
/-- where all are: rooms -/
def RP (B M : q_Mem) (p : Int) : Prop := (∀ q, q < (B 3 4).toNat → M 115 q = g4 p q) ∧ ∀ t, t < (B 3 5).toNat → M 119 t = g4 p (7 + t)
/-- where all are: storeys -/
def RW (B M : q_Mem) (w : Int) : Prop := (∀ q, q < (B 3 4).toNat → M 116 q = g8 w q) ∧ ∀ t, t < (B 3 5).toNat → M 120 t = g8 w (7 + t)
/-- all of it, at a situation and a beat -/
def RS (B M : q_Mem) (w b : Int) : Prop := RT B M ∧ RP B M (B 3 13) ∧ RW B M w ∧ M 113 6 = b
theorem RT.exc {X : List Nat} {B M M' : q_Mem} (h : RT B M) (hE : Exc X M M') (hs : ∀ j, ¬ j = 6 → ¬ j = 8 → M' 113 j = M 113 j) (h2 : 114 ∉ X ∧ 117 ∉ X ∧ 118 ∉ X ∧ 121 ∉ X ∧ 122 ∉ X ∧ 123 ∉ X ∧ 124 ∉ X) : RT B M' := by
  unfold RT at *
  obtain ⟨x1, x2, x3, x4, x5, x6, x7⟩ := h2
  rw [hE _ x1, hE _ x2, hE _ x3, hE _ x4, hE _ x5, hE _ x6, hE _ x7, hs 0 (by decide) (by decide), hs 1 (by decide) (by decide), hs 2 (by decide) (by decide), hs 3 (by decide) (by decide), hs 4 (by decide) (by decide), hs 5 (by decide) (by decide), hs 7 (by decide) (by decide)]
  exact h
theorem RP.exc {X : List Nat} {B M M' : q_Mem} {p : Int} (h : RP B M p) (hE : Exc X M M') (h1 : 115 ∉ X) (h2 : 119 ∉ X) : RP B M' p := by
  unfold RP at *
  rw [hE _ h1, hE _ h2]
  exact h
theorem RW.exc {X : List Nat} {B M M' : q_Mem} {p : Int} (h : RW B M p) (hE : Exc X M M') (h1 : 116 ∉ X) (h2 : 120 ∉ X) : RW B M' p := by
  unfold RW at *
  rw [hE _ h1, hE _ h2]
  exact h
def rfX : List Nat := [113, 114, 115, 116, 117, 118, 119, 120, 121, 122, 123, 124]
theorem RS.exc {X : List Nat} {B M M' : q_Mem} {w b : Int} (h : RS B M w b) (hE : Exc X M M') (hd : ∀ a, a ∈ X → a ∉ rfX) : RS B M' w b := by
  have f : ∀ a, a ∈ rfX → a ∉ X := fun a ha hx => hd a hx ha
  obtain ⟨h1, h2, h3, h4⟩ := h
  have e := hE 113 (f _ (by decide))
  refine ⟨h1.exc hE (fun j _ _ => by rw [e]) ⟨f _ (by decide), f _ (by decide), f _ (by decide), f _ (by decide), f _ (by decide), f _ (by decide), f _ (by decide)⟩, h2.exc hE (f _ (by decide)) (f _ (by decide)), h3.exc hE (f _ (by decide)) (f _ (by decide)), by rw [e]; exact h4⟩
theorem C_isHouse {G : q_G} {d : Nat} {B M : q_Mem} {N : q_MemL} (hB : NowOk B) (hT : RT B M) : AC0 G d m_X11_isHouse [.ref 112] M N (CV (PU (Bz (B 3 0 = 1)) M N)) := by
  obtain ⟨h0, h1, h2, h3, h4, h5, h6, h11, h12, h13, h15, h17, h18, hb, hc, hw, hv, hp, he, ht1, ht0⟩ := id hB
  obtain ⟨⟨t0, t1, t2, t3, t4, t5, t7⟩, ts, tp, tt, te⟩ := id hT
  refine AC.of (L0 := [_]) pn_X11 (Nat.le_of_ble_eq_true rfl) rfl ?_
  refine st_aload_n dX11_isHouse_0 rfl ?_
  refine st_getfr dX11_isHouse_1 f_X11_9 (by first | with_reducible assumption | rfl) (by rfl) ?_
  refine st_iconst dX11_isHouse_4 ?_
  refine st_ialdK (k' := 0) dX11_isHouse_5 (by first | with_reducible assumption | rfl) rfl (by omega) (hn := by first | decide | omega) ?_
  rw [t0]
  refine st_if_le (tgt := 13) dX11_isHouse_6 (by omega) rfl (fun h => ?_) (fun h => ?_)
  · refine st_iconst dX11_isHouse_13 ?_
    exact r_z dX11_isHouse_14 rfl (by first | omega | (split <;> decide)) ⟨bz0 (fun z => by have := ht1 z; omega), rfl, rfl⟩
  · refine st_iconst dX11_isHouse_9 ?_
    refine st_goto (tgt := 14) dX11_isHouse_10 rfl ?_
    have hh : B 3 0 = 1 := by
      rcases h0 with z | z
      · have := ht0 z
        omega
      · exact z
    exact r_z dX11_isHouse_14 rfl (by first | omega | (split <;> decide)) ⟨bz1 hh, rfl, rfl⟩
theorem C_isPerson {G : q_G} {d : Nat} {B M : q_Mem} {N : q_MemL} {v : Int} (hd : 1 ≤ d) (hB : NowOk B) (hT : RT B M) (hv0 : i32 v) : AC0 G d m_X11_isPerson [.ref 112, I v] M N (CV (PU (Bz (0 ≤ v ∧ v < B 3 4)) M N)) := by
  obtain ⟨h0, h1, h2, h3, h4, h5, h6, h11, h12, h13, h15, h17, h18, hb, hc, hw, hv, hp, he, ht1, ht0⟩ := id hB
  obtain ⟨⟨t0, t1, t2, t3, t4, t5, t7⟩, ts, tp, tt, te⟩ := id hT
  unfold i32 at hv0
  refine AC.of (L0 := [_, _]) pn_X11 (Nat.le_of_ble_eq_true rfl) rfl ?_
  refine st_iload_n dX11_isPerson_0 rfl ?_
  refine st_i2lK dX11_isPerson_1 (by omega) ?_
  refine st_lc0K dX11_isPerson_2 ?_
  refine st_aload_n dX11_isPerson_3 rfl ?_
  refine st_getfr dX11_isPerson_4 f_X11_9 (by first | with_reducible assumption | rfl) (by rfl) ?_
  refine st_iconst dX11_isPerson_7 ?_
  refine st_ialdK (k' := 3) dX11_isPerson_8 (by first | with_reducible assumption | rfl) rfl (by omega) (hn := by first | decide | omega) ?_
  rw [t3]
  refine st_iconst dX11_isPerson_9 ?_
  refine st_isub dX11_isPerson_10 ?_
  refine st_i2lK dX11_isPerson_11 (by omega) ?_
  refine c_S3p (d' := d - 1) dX11_isPerson_12 l_X11_182 k_X11_in s_X11_in (by omega) (Nat.le_of_ble_eq_true rfl) (C_in (by omega) (by omega) (by omega)) ?_
  exact r_z dX11_isPerson_15 rfl (by first | omega | (split <;> decide)) ⟨bz_iff (by omega), rfl, rfl⟩
theorem C_isThing {G : q_G} {d : Nat} {B M : q_Mem} {N : q_MemL} {v : Int} (hd : 1 ≤ d) (hB : NowOk B) (hT : RT B M) (hv0 : i32 v) : AC0 G d m_X11_isThing [.ref 112, I v] M N (CV (PU (Bz (0 ≤ v ∧ v < B 3 5)) M N)) := by
  obtain ⟨h0, h1, h2, h3, h4, h5, h6, h11, h12, h13, h15, h17, h18, hb, hc, hw, hv, hp, he, ht1, ht0⟩ := id hB
  obtain ⟨⟨t0, t1, t2, t3, t4, t5, t7⟩, ts, tp, tt, te⟩ := id hT
  unfold i32 at hv0
  refine AC.of (L0 := [_, _]) pn_X11 (Nat.le_of_ble_eq_true rfl) rfl ?_
  refine st_iload_n dX11_isThing_0 rfl ?_
  refine st_i2lK dX11_isThing_1 (by omega) ?_
  refine st_lc0K dX11_isThing_2 ?_
  refine st_aload_n dX11_isThing_3 rfl ?_
  refine st_getfr dX11_isThing_4 f_X11_9 (by first | with_reducible assumption | rfl) (by rfl) ?_
  refine st_iconst dX11_isThing_7 ?_
  refine st_ialdK (k' := 4) dX11_isThing_8 (by first | with_reducible assumption | rfl) rfl (by omega) (hn := by first | decide | omega) ?_
  rw [t4]
  refine st_iconst dX11_isThing_9 ?_
  refine st_isub dX11_isThing_10 ?_
  refine st_i2lK dX11_isThing_11 (by omega) ?_
  refine c_S3p (d' := d - 1) dX11_isThing_12 l_X11_182 k_X11_in s_X11_in (by omega) (Nat.le_of_ble_eq_true rfl) (C_in (by omega) (by omega) (by omega)) ?_
  exact r_z dX11_isThing_15 rfl (by first | omega | (split <;> decide)) ⟨bz_iff (by omega), rfl, rfl⟩
theorem C_isRoom {G : q_G} {d : Nat} {B M : q_Mem} {N : q_MemL} {v : Int} (hd : 1 ≤ d) (hB : NowOk B) (hT : RT B M) (hv0 : i32 v) : AC0 G d m_X11_isRoom [.ref 112, I v] M N (CV (PU (Bz (0 ≤ v ∧ v < B 3 1)) M N)) := by
  obtain ⟨h0, h1, h2, h3, h4, h5, h6, h11, h12, h13, h15, h17, h18, hb, hc, hw, hv, hp, he, ht1, ht0⟩ := id hB
  obtain ⟨⟨t0, t1, t2, t3, t4, t5, t7⟩, ts, tp, tt, te⟩ := id hT
  unfold i32 at hv0
  refine AC.of (L0 := [_, _]) pn_X11 (Nat.le_of_ble_eq_true rfl) rfl ?_
  refine st_iload_n dX11_isRoom_0 rfl ?_
  refine st_i2lK dX11_isRoom_1 (by omega) ?_
  refine st_lc0K dX11_isRoom_2 ?_
  refine st_aload_n dX11_isRoom_3 rfl ?_
  refine st_getfr dX11_isRoom_4 f_X11_9 (by first | with_reducible assumption | rfl) (by rfl) ?_
  refine st_iconst dX11_isRoom_7 ?_
  refine st_ialdK (k' := 0) dX11_isRoom_8 (by first | with_reducible assumption | rfl) rfl (by omega) (hn := by first | decide | omega) ?_
  rw [t0]
  refine st_iconst dX11_isRoom_9 ?_
  refine st_isub dX11_isRoom_10 ?_
  refine st_i2lK dX11_isRoom_11 (by omega) ?_
  refine c_S3p (d' := d - 1) dX11_isRoom_12 l_X11_182 k_X11_in s_X11_in (by omega) (Nat.le_of_ble_eq_true rfl) (C_in (by omega) (by omega) (by omega)) ?_
  exact r_z dX11_isRoom_15 rfl (by first | omega | (split <;> decide)) ⟨bz_iff (by omega), rfl, rfl⟩
theorem C_isHour {G : q_G} {d : Nat} {B M : q_Mem} {N : q_MemL} {v : Int} (hd : 1 ≤ d) (hB : NowOk B) (hT : RT B M) (hv0 : i32 v) : AC0 G d m_X11_isHour [.ref 112, I v] M N (CV (PU (Bz (0 ≤ v ∧ v < B 3 2)) M N)) := by
  obtain ⟨h0, h1, h2, h3, h4, h5, h6, h11, h12, h13, h15, h17, h18, hb, hc, hw, hv, hp, he, ht1, ht0⟩ := id hB
  obtain ⟨⟨t0, t1, t2, t3, t4, t5, t7⟩, ts, tp, tt, te⟩ := id hT
  unfold i32 at hv0
  refine AC.of (L0 := [_, _]) pn_X11 (Nat.le_of_ble_eq_true rfl) rfl ?_
  refine st_iload_n dX11_isHour_0 rfl ?_
  refine st_i2lK dX11_isHour_1 (by omega) ?_
  refine st_lc0K dX11_isHour_2 ?_
  refine st_aload_n dX11_isHour_3 rfl ?_
  refine st_getfr dX11_isHour_4 f_X11_9 (by first | with_reducible assumption | rfl) (by rfl) ?_
  refine st_iconst dX11_isHour_7 ?_
  refine st_ialdK (k' := 1) dX11_isHour_8 (by first | with_reducible assumption | rfl) rfl (by omega) (hn := by first | decide | omega) ?_
  rw [t1]
  refine st_iconst dX11_isHour_9 ?_
  refine st_isub dX11_isHour_10 ?_
  refine st_i2lK dX11_isHour_11 (by omega) ?_
  refine c_S3p (d' := d - 1) dX11_isHour_12 l_X11_182 k_X11_in s_X11_in (by omega) (Nat.le_of_ble_eq_true rfl) (C_in (by omega) (by omega) (by omega)) ?_
  exact r_z dX11_isHour_15 rfl (by first | omega | (split <;> decide)) ⟨bz_iff (by omega), rfl, rfl⟩
theorem C_isStorey {G : q_G} {d : Nat} {B M : q_Mem} {N : q_MemL} {v : Int} (hd : 1 ≤ d) (hB : NowOk B) (hT : RT B M) (hv0 : i32 v) : AC0 G d m_X11_isStorey [.ref 112, I v] M N (CV (PU (Bz (0 ≤ v ∧ v < B 3 3)) M N)) := by
  obtain ⟨h0, h1, h2, h3, h4, h5, h6, h11, h12, h13, h15, h17, h18, hb, hc, hw, hv, hp, he, ht1, ht0⟩ := id hB
  obtain ⟨⟨t0, t1, t2, t3, t4, t5, t7⟩, ts, tp, tt, te⟩ := id hT
  unfold i32 at hv0
  refine AC.of (L0 := [_, _]) pn_X11 (Nat.le_of_ble_eq_true rfl) rfl ?_
  refine st_aload_n dX11_isStorey_0 rfl ?_
  refine c_V0p (d' := d - 1) dX11_isStorey_1 l_X11_186 k_X11_isHouse i_X11_isHouse (Or.inl ⟨_, _, _, _, _, (by first | with_reducible assumption | rfl), by rfl⟩) (by omega) (Nat.le_of_ble_eq_true rfl) (C_isHouse hB hT) ?_
  refine b_eq (tgt := 27) dX11_isStorey_4 rfl (fun h7 => ?_) (fun h7 => ?_)
  · refine st_iconst dX11_isStorey_27 ?_
    have : ¬ B 3 0 = 1 := h7
    have h00 : B 3 0 = 0 := by omega
    have := ht0 h00
    exact r_z dX11_isStorey_28 rfl (by first | omega | (split <;> decide)) ⟨bz0 (by omega), rfl, rfl⟩
  · refine st_iload_n dX11_isStorey_7 rfl ?_
    refine st_i2lK dX11_isStorey_8 (by omega) ?_
    refine st_lc0K dX11_isStorey_9 ?_
    refine st_aload_n dX11_isStorey_10 rfl ?_
    refine st_getfr dX11_isStorey_11 f_X11_9 (by first | with_reducible assumption | rfl) (by rfl) ?_
    refine st_iconst dX11_isStorey_14 ?_
    refine st_ialdK (k' := 2) dX11_isStorey_15 (by first | with_reducible assumption | rfl) rfl (by omega) (hn := by first | decide | omega) ?_
    rw [t2]
    have := ht1 h7
    refine st_i2lK dX11_isStorey_16 (by omega) ?_
    refine c_S3p (d' := d - 1) dX11_isStorey_17 l_X11_182 k_X11_in s_X11_in (by omega) (Nat.le_of_ble_eq_true rfl) (C_in (by omega) (by omega) (by omega)) ?_
    refine b_eq (tgt := 27) dX11_isStorey_20 rfl (fun h8 => ?_) (fun h8 => ?_)
    · refine st_iconst dX11_isStorey_27 ?_
      exact r_z dX11_isStorey_28 rfl (by first | omega | (split <;> decide)) ⟨bz0 (by omega), rfl, rfl⟩
    · refine st_iconst dX11_isStorey_23 ?_
      refine st_goto (tgt := 28) dX11_isStorey_24 rfl ?_
      exact r_z dX11_isStorey_28 rfl (by first | omega | (split <;> decide)) ⟨bz1 (by omega), rfl, rfl⟩
theorem C_beginOf {G : q_G} {d : Nat} {M : q_Mem} {N : q_MemL} {s : Nat} (hs : s ≤ 7) : AC0 G d m_X11_beginOf [.ref 112, I s] M N (CV (PU (I (hsum (M 114) s)) M N)) := by
  refine AC.of (L0 := [_, _, none, none]) pn_X11 (Nat.le_of_ble_eq_true rfl) rfl ?_
  refine st_iconst dX11_beginOf_0 ?_
  refine st_istore_n (L' := [_, _, _, _]) dX11_beginOf_1 (by decide) rfl rfl ?_
  refine st_iconst dX11_beginOf_2 ?_
  refine st_istore_n (L' := [_, _, _, _]) dX11_beginOf_3 (by decide) rfl rfl ?_
  have loop : ∀ (q k : Nat), k + q = s → AW0 G d m_X11_beginOf 4 [some (.ref 112), some (I s), some (I (hsum (M 114) k)), some (I k)] [] M N (CV (PU (I (hsum (M 114) s)) M N)) := by
    intro q
    induction q with
    | zero =>
      intro k hk
      refine st_iload_n dX11_beginOf_4 rfl ?_
      refine st_iload_n dX11_beginOf_5 rfl ?_
      refine st_icmp_ge (tgt := 24) dX11_beginOf_6 (by omega) (by omega) rfl (fun h => ?_) (fun h => ?_)
      · refine st_iload_n dX11_beginOf_24 rfl ?_
        exact r_i dX11_beginOf_25 rfl ⟨by rw [show k = s by omega], rfl, rfl⟩
      · skip
        omega
    | succ q ih =>
      intro k hk
      refine st_iload_n dX11_beginOf_4 rfl ?_
      refine st_iload_n dX11_beginOf_5 rfl ?_
      refine st_icmp_ge (tgt := 24) dX11_beginOf_6 (by omega) (by omega) rfl (fun h => ?_) (fun h => ?_)
      · skip
        omega
      · refine st_iload_n dX11_beginOf_9 rfl ?_
        refine st_aload_n dX11_beginOf_10 rfl ?_
        refine st_getfr dX11_beginOf_11 f_X11_13 (by first | with_reducible assumption | rfl) (by rfl) ?_
        refine st_iload_n dX11_beginOf_14 rfl ?_
        first | refine st_ialdK (k' := _) dX11_beginOf_15 (by first | with_reducible assumption | rfl) rfl (by omega) (hn := by first | decide | omega) ?_ | refine st_iald dX11_beginOf_15 (by first | with_reducible assumption | rfl) (by omega) (by omega) (hn := by first | decide | omega) ?_
        refine st_iadd dX11_beginOf_16 ?_
        refine st_istore_n (L' := [_, _, _, _]) dX11_beginOf_17 (by decide) rfl rfl ?_
        refine st_iinc (L' := [_, _, _, _]) dX11_beginOf_18 rfl (by decide) rfl rfl ?_
        refine st_goto (tgt := 4) dX11_beginOf_21 rfl ?_
        exact AW.to (ih (k + 1) (by omega)) (h2 := by simp [hsum])
  exact loop s 0 (by omega)
theorem C_rStoreyOf {G : q_G} {d : Nat} {B M : q_Mem} {N : q_MemL} {x : Int} (hd : 1 ≤ d) (hB : NowOk B) (hT : RT B M) (hx : i32 x) : AC0 G d m_X11_storeyOf [.ref 112, I x] M N (CV (PU (I (stof (B 4) x ((B 3 3).toNat - 1) 0)) M N)) := by
  obtain ⟨h0, h1, h2, h3, h4, h5, h6, h11, h12, h13, h15, h17, h18, hb, hc, hw, hv, hp, he, ht1, ht0⟩ := id hB
  obtain ⟨⟨t0, t1, t2, t3, t4, t5, t7⟩, ts, tp, tt, te⟩ := id hT
  unfold i32 at hx
  refine AC.of (L0 := [_, _, none]) pn_X11 (Nat.le_of_ble_eq_true rfl) rfl ?_
  refine st_iconst dX11_storeyOf_0 ?_
  refine st_istore_n (L' := [_, _, _]) dX11_storeyOf_1 (by decide) rfl rfl ?_
  have loop : ∀ (m k : Nat), k + m = (B 3 3).toNat - 1 → AW0 G d m_X11_storeyOf 2 [some (.ref 112), some (I x), some (I k)] [] M N (CV (PU (I (stof (B 4) x m k)) M N)) := by
    intro m
    induction m with
    | zero =>
      intro k hk
      refine st_iload_n dX11_storeyOf_2 rfl ?_
      refine st_aload_n dX11_storeyOf_3 rfl ?_
      refine st_getfr dX11_storeyOf_4 f_X11_9 (by first | with_reducible assumption | rfl) (by rfl) ?_
      refine st_iconst dX11_storeyOf_7 ?_
      refine st_ialdK (k' := 2) dX11_storeyOf_8 (by first | with_reducible assumption | rfl) rfl (by omega) (hn := by first | decide | omega) ?_
      rw [t2]
      refine st_icmp_ge (tgt := 29) dX11_storeyOf_9 (by omega) (by omega) rfl (fun h => ?_) (fun h => ?_)
      · refine st_iload_n dX11_storeyOf_29 rfl ?_
        exact r_i dX11_storeyOf_30 rfl ⟨rfl, rfl, rfl⟩
      · skip
        omega
    | succ m ih =>
      intro k hk
      have hbk := hb (k + 1)
      refine st_iload_n dX11_storeyOf_2 rfl ?_
      refine st_aload_n dX11_storeyOf_3 rfl ?_
      refine st_getfr dX11_storeyOf_4 f_X11_9 (by first | with_reducible assumption | rfl) (by rfl) ?_
      refine st_iconst dX11_storeyOf_7 ?_
      refine st_ialdK (k' := 2) dX11_storeyOf_8 (by first | with_reducible assumption | rfl) rfl (by omega) (hn := by first | decide | omega) ?_
      rw [t2]
      refine st_icmp_ge (tgt := 29) dX11_storeyOf_9 (by omega) (by omega) rfl (fun h => ?_) (fun h => ?_)
      · skip
        omega
      · refine st_iload_n dX11_storeyOf_12 rfl ?_
        refine st_aload_n dX11_storeyOf_13 rfl ?_
        refine st_iload_n dX11_storeyOf_14 rfl ?_
        refine st_iconst dX11_storeyOf_15 ?_
        refine st_iadd dX11_storeyOf_16 ?_
        rw [show (k : Int) + 1 = ((k + 1 : Nat) : Int) by omega]
        refine c_V1p (d' := d - 1) dX11_storeyOf_17 l_X11_190 k_X11_beginOf i_X11_beginOf (Or.inl ⟨_, _, _, _, _, (by first | with_reducible assumption | rfl), by rfl⟩) (by omega) (Nat.le_of_ble_eq_true rfl) (C_beginOf (s := k + 1) (by omega)) ?_
        rw [ts (k + 1) (by omega)]
        unfold stof
        rw [show B (3 + 1) (k + 1) = B 4 (k + 1) from rfl] at hbk
        refine st_icmp_lt (tgt := 29) dX11_storeyOf_20 (by omega) (by omega) rfl (fun h2 => ?_) (fun h2 => ?_)
        · refine st_iload_n dX11_storeyOf_29 rfl ?_
          rw [if_neg (by omega)]
          exact r_i dX11_storeyOf_30 rfl ⟨rfl, rfl, rfl⟩
        · refine st_iinc (L' := [_, _, _]) dX11_storeyOf_23 rfl (by decide) rfl rfl ?_
          refine st_goto (tgt := 2) dX11_storeyOf_26 rfl ?_
          rw [if_pos (by omega)]
          exact AW.to (ih (k + 1) (by omega)) (h2 := by simp)
  exact loop _ 0 (Nat.zero_add _)
theorem C_hourNow {G : q_G} {d : Nat} {B M : q_Mem} {N : q_MemL} {b : Int} (hB : NowOk B) (hT : RT B M) (hb6 : M 113 6 = b) (hb0 : 0 ≤ b ∧ b < 2147483648) (htl : B 3 0 = 1) : AC0 G d m_X11_hourNow [.ref 112] M N (CV (PU (I (hourOf (B 3 2) b)) M N)) := by
  obtain ⟨h0, h1, h2, h3, h4, h5, h6, h11, h12, h13, h15, h17, h18, hb, hc, hw, hv, hp, he, ht1, ht0⟩ := id hB
  obtain ⟨⟨t0, t1, t2, t3, t4, t5, t7⟩, ts, tp, tt, te⟩ := id hT
  have hh := ht1 htl
  refine AC.of (L0 := [_]) pn_X11 (Nat.le_of_ble_eq_true rfl) rfl ?_
  refine st_aload_n dX11_hourNow_0 rfl ?_
  refine st_getfr dX11_hourNow_1 f_X11_9 (by first | with_reducible assumption | rfl) (by rfl) ?_
  refine st_bipush dX11_hourNow_4 (by decide) ?_
  refine st_ialdK (k' := 6) dX11_hourNow_6 (by first | with_reducible assumption | rfl) rfl (by omega) (hn := by first | decide | omega) ?_
  refine st_aload_n dX11_hourNow_7 rfl ?_
  refine st_getfr dX11_hourNow_8 f_X11_9 (by first | with_reducible assumption | rfl) (by rfl) ?_
  refine st_iconst dX11_hourNow_11 ?_
  refine st_ialdK (k' := 1) dX11_hourNow_12 (by first | with_reducible assumption | rfl) rfl (by omega) (hn := by first | decide | omega) ?_
  rw [hb6, t1]
  refine st_iremK dX11_hourNow_13 (by omega) (by omega) ?_
  exact r_i dX11_hourNow_14 rfl ⟨by unfold hourOf; rw [if_pos (by omega)], rfl, rfl⟩
theorem C_laysVoices {G : q_G} {d : Nat} {B M : q_Mem} {N : q_MemL} {u : Nat} (hB : NowOk B) (hT : RT B M) (hh : u < (B 3 2).toNat) : AC0 G d m_X11_laysVoices [.ref 112, I u] M N (CN (fun M' N' => N' = N ∧ Exc [143] M M' ∧ (∀ q, q < (B 3 4).toNat → M' 143 q = B 7 (q * 6 + u)) ∧ ∀ q, (B 3 4).toNat ≤ q → M' 143 q = M 143 q)) := by
  obtain ⟨h0, h1, h2, h3, h4, h5, h6, h11, h12, h13, h15, h17, h18, hb, hc, hw, hv, hp, he, ht1, ht0⟩ := id hB
  obtain ⟨⟨t0, t1, t2, t3, t4, t5, t7⟩, ts, tp, tt, te⟩ := id hT
  refine AC.of (L0 := [_, _, none]) pn_X11 (Nat.le_of_ble_eq_true rfl) rfl ?_
  refine st_iconst dX11_laysVoices_0 ?_
  refine st_istore_n (L' := [_, _, _]) dX11_laysVoices_1 (by decide) rfl rfl ?_
  have loop : ∀ (q k : Nat) (M1 : q_Mem), k + q = (B 3 4).toNat → Exc [143] M M1 → (∀ q, q < k → M1 143 q = B 7 (q * 6 + u)) → (∀ q, k ≤ q → M1 143 q = M 143 q) → AW0 G d m_X11_laysVoices 2 [some (.ref 112), some (I u), some (I k)] [] M1 N (CN (fun M' N' => N' = N ∧ Exc [143] M M' ∧ (∀ q, q < (B 3 4).toNat → M' 143 q = B 7 (q * 6 + u)) ∧ ∀ q, (B 3 4).toNat ≤ q → M' 143 q = M 143 q)) := by
    intro q
    induction q with
    | zero =>
      intro k M1 hk hE hv2 hv3
      have e := hE 113 (by decide)
      refine st_iload_n dX11_laysVoices_2 rfl ?_
      refine st_aload_n dX11_laysVoices_3 rfl ?_
      refine st_getfr dX11_laysVoices_4 f_X11_9 (by first | with_reducible assumption | rfl) (by rfl) ?_
      refine st_iconst dX11_laysVoices_7 ?_
      refine st_ialdK (k' := 3) dX11_laysVoices_8 (by first | with_reducible assumption | rfl) rfl (by omega) (hn := by first | decide | omega) ?_
      rw [e, t3]
      refine st_icmp_ge (tgt := 35) dX11_laysVoices_9 (by omega) (by omega) rfl (fun h => ?_) (fun h => ?_)
      · skip
        exact r_v dX11_laysVoices_35 rfl ⟨rfl, hE, fun q hq => hv2 q (by omega), fun q hq => hv3 q (by omega)⟩
      · skip
        omega
    | succ q ih =>
      intro k M1 hk hE hv2 hv3
      have e := hE 113 (by decide)
      have e117 := hE 117 (by decide)
      refine st_iload_n dX11_laysVoices_2 rfl ?_
      refine st_aload_n dX11_laysVoices_3 rfl ?_
      refine st_getfr dX11_laysVoices_4 f_X11_9 (by first | with_reducible assumption | rfl) (by rfl) ?_
      refine st_iconst dX11_laysVoices_7 ?_
      refine st_ialdK (k' := 3) dX11_laysVoices_8 (by first | with_reducible assumption | rfl) rfl (by omega) (hn := by first | decide | omega) ?_
      rw [e, t3]
      refine st_icmp_ge (tgt := 35) dX11_laysVoices_9 (by omega) (by omega) rfl (fun h => ?_) (fun h => ?_)
      · skip
        omega
      · refine st_aload_n dX11_laysVoices_12 rfl ?_
        refine st_getfr dX11_laysVoices_13 f_X11_107 (by first | with_reducible assumption | rfl) (by rfl) ?_
        refine st_iload_n dX11_laysVoices_16 rfl ?_
        refine st_aload_n dX11_laysVoices_17 rfl ?_
        refine st_getfr dX11_laysVoices_18 f_X11_22 (by first | with_reducible assumption | rfl) (by rfl) ?_
        refine st_bipush dX11_laysVoices_21 (by decide) ?_
        refine st_iload_n dX11_laysVoices_23 rfl ?_
        refine st_imul dX11_laysVoices_24 ?_
        refine st_iload_n dX11_laysVoices_25 rfl ?_
        refine st_iadd dX11_laysVoices_26 ?_
        rw [show (6 : Int) * (k : Int) + (u : Int) = ((6 * k + u : Nat) : Int) by omega]
        first | refine st_ialdK (k' := _) dX11_laysVoices_27 (by first | with_reducible assumption | rfl) rfl (by omega) (hn := by first | decide | omega) ?_ | refine st_iald dX11_laysVoices_27 (by first | with_reducible assumption | rfl) (by omega) (by omega) (hn := by first | decide | omega) ?_
        rw [e117, (tp k (by omega)).1 u hh]
        first | refine st_iastK (k' := _) dX11_laysVoices_28 (by first | with_reducible assumption | rfl) rfl (by omega) (hn := by first | decide | omega) ?_ | refine st_iast dX11_laysVoices_28 (by first | with_reducible assumption | rfl) (by omega) (by omega) (hn := by first | decide | omega) ?_
        refine st_iinc (L' := [_, _, _]) dX11_laysVoices_29 rfl (by decide) rfl rfl ?_
        refine st_goto (tgt := 2) dX11_laysVoices_32 rfl ?_
        refine AW.to (ih (k + 1) (q_up M1 143 k (B 7 (k * 6 + u))) (by omega) (hE.tr (Exc.up (by decide))) (fun q hq => ?_) (fun q hq => ?_)) (h2 := by simp)
        · by_cases e : q = k
          · rw [e]; simp [q_up]
          · rw [← hv2 q (by omega)]; simp [q_up, e]
        · rw [← hv3 q (by omega)]; simp [q_up, show ¬ q = k by omega]
  exact loop (B 3 4).toNat 0 M (by omega) Exc.rf (fun q hq => by omega) (fun q hq => rfl)
theorem C_laysNow {G : q_G} {d : Nat} {B M : q_Mem} {N : q_MemL} {b : Int} (hd : 1 ≤ d) (hB : NowOk B) (hT : RT B M) (hb6 : M 113 6 = b) (hb0 : 0 ≤ b ∧ b < 2147483648) (htl : B 3 0 = 1) : AC0 G d m_X11_laysNow [.ref 112] M N (CN (fun M' N' => N' = N ∧ Exc [143] M M' ∧ (∀ q, q < (B 3 4).toNat → M' 143 q = toldV B 3 b 0 q) ∧ ∀ q, (B 3 4).toNat ≤ q → M' 143 q = M 143 q)) := by
  obtain ⟨h0, h1, h2, h3, h4, h5, h6, h11, h12, h13, h15, h17, h18, hb, hc, hw, hv, hp, he, ht1, ht0⟩ := id hB
  obtain ⟨⟨t0, t1, t2, t3, t4, t5, t7⟩, ts, tp, tt, te⟩ := id hT
  have hh := ht1 htl
  have hr := hourOf_rng (h := B 3 2) hb0.1
  refine AC.of (L0 := [_]) pn_X11 (Nat.le_of_ble_eq_true rfl) rfl ?_
  refine st_aload_n dX11_laysNow_0 rfl ?_
  refine st_aload_n dX11_laysNow_1 rfl ?_
  refine c_V0p (d' := d - 1) dX11_laysNow_2 l_X11_390 k_X11_hourNow i_X11_hourNow (Or.inl ⟨_, _, _, _, _, (by first | with_reducible assumption | rfl), by rfl⟩) (by omega) (Nat.le_of_ble_eq_true rfl) (C_hourNow hB hT hb6 hb0 htl) ?_
  rw [show hourOf (B 3 2) b = (((hourOf (B 3 2) b).toNat : Nat) : Int) by omega]
  refine c_V1v (d' := d - 1) dX11_laysNow_5 l_X11_393 k_X11_laysVoices i_X11_laysVoices (Or.inl ⟨_, _, _, _, _, (by first | with_reducible assumption | rfl), by rfl⟩) (by omega) (Nat.le_of_ble_eq_true rfl) (C_laysVoices hB hT (by omega)) (fun M1 N1 hx => ?_)
  obtain ⟨q1, hE, hv1, hv2⟩ := hx
  rw [q1]
  exact r_v dX11_laysNow_8 rfl ⟨rfl, hE, fun q hq => by rw [hv1 q hq]; unfold toldV; simp, hv2⟩


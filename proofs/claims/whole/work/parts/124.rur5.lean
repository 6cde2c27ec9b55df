/-! the reference reads a rule: what waits in a test -/
/-- what waits on top is put down -/
def pop (x : Int) : List Int → List Int → List Int × List Int
  | [], E => ([], E)
  | y :: K, E => if y = x then pop x K (E ++ [y]) else (y :: K, E)
theorem pop_c {x y : Int} {K E : List Int} : pop x (y :: K) E = if y = x then pop x K (E ++ [y]) else (y :: K, E) := rfl
theorem pop_stl : ∀ (K E : List Int), SK K → pop 22 (pop 21 K E).1 (pop 21 K E).2 = stl 2 K E ∧ pop 23 (stl 2 K E).1 (stl 2 K E).2 = stl 1 K E
  | [], E, _ => ⟨rfl, rfl⟩
  | x :: K, E, h => by
    obtain ⟨h1, h2, h3⟩ := h
    have l21 : lvl 21 = 3 := by decide
    have l22 : lvl 22 = 2 := by decide
    have l23 : lvl 23 = 1 := by decide
    have l24 : lvl 24 = 0 := by decide
    -- behind an or
    have oc : ∀ (K E : List Int), (∀ y, K.head? = some y → y = 24) → pop 23 K E = (K, E) ∧ stl 1 K E = (K, E) := by
      intro K E hK
      cases K with
      | nil => exact ⟨rfl, rfl⟩
      | cons y r =>
        have := hK y rfl
        subst this
        rw [pop_c, if_neg (by decide), stl_c, if_pos (by rw [l24]; decide)]
        exact ⟨rfl, rfl⟩
    rcases h1 with rfl | rfl | rfl | rfl
    · have ih := pop_stl K (E ++ [21]) h3
      rw [pop_c, if_pos rfl, stl_c, if_neg (by rw [l21]; decide), stl_c, if_neg (by rw [l21]; decide)]
      exact ih
    · rw [pop_c, if_neg (by decide)]
      dsimp only
      rw [pop_c, if_pos rfl, stl_c, if_neg (by rw [l22]; decide), stl_c, if_neg (by rw [l22]; decide)]
      cases K with
      | nil => exact ⟨rfl, rfl⟩
      | cons y r =>
        have hy := (h2 y rfl).1 rfl
        have hp : pop 22 (y :: r) (E ++ [22]) = (y :: r, E ++ [22]) := by rw [pop_c, if_neg (by omega)]
        have hs : stl 2 (y :: r) (E ++ [22]) = (y :: r, E ++ [22]) := by
          rw [stl_c, if_pos (by rcases hy with rfl | rfl <;> decide)]
        rw [hp, hs]
        refine ⟨rfl, ?_⟩
        dsimp only
        rcases hy with rfl | rfl
        · rw [pop_c, if_pos rfl, stl_c, if_neg (by rw [l23]; decide)]
          have := oc r (E ++ [22] ++ [23]) (fun z hz => (h3.2.1 z hz).2 rfl)
          rw [this.1, this.2]
        · rw [pop_c, if_neg (by decide), stl_c, if_pos (by rw [l24]; decide)]
    · rw [pop_c, if_neg (by decide)]
      dsimp only
      rw [pop_c, if_neg (by decide), stl_c, if_pos (by rw [l23]; decide), stl_c, if_neg (by rw [l23]; decide)]
      refine ⟨rfl, ?_⟩
      dsimp only
      rw [pop_c, if_pos rfl]
      have := oc K (E ++ [23]) (fun z hz => (h2 z hz).2 rfl)
      rw [this.1, this.2]
    · rw [pop_c, if_neg (by decide)]
      dsimp only
      rw [pop_c, if_neg (by decide), stl_c, if_pos (by rw [l24]; decide), stl_c, if_pos (by rw [l24]; decide)]
      refine ⟨rfl, ?_⟩
      dsimp only
      rw [pop_c, if_neg (by decide)]
abbrev RS2 (s : Nat) : q_Mem → q_Mem → Prop := RFk s [112, 133, 134, 139] [21, 22, 25, 26, 27, 28]
theorem RS1.to {s : Nat} {V V1 : q_Mem} (h : RS1 s V V1) : RS2 s V V1 := RFk.sub h (by decide) (by decide)
theorem RS2.r132 {s : Nat} {V V1 : q_Mem} {f : Nat → Int} (h : RS2 s V V1) (hf : V 132 = f) : V1 132 = f := by
  rw [h.1 132 (by decide)]
  exact hf
/-- what waits -/
def VK (K : List Int) (V : q_Mem) : Prop := V 112 28 = (K.length : Int) ∧ V 112 26 = (dK K : Int) ∧ WR (fun j => V 139 j + 12) K
theorem VK.rs {s : Nat} {K : List Int} {V V1 : q_Mem} (h : VK K V) (h2 : RS1 s V V1) : VK K V1 := by
  unfold VK at *
  rw [h2.2.1 28 (by decide), h2.2.1 26 (by decide), h2.1 139 (by decide)]
  exact h
theorem VK.fx {K : List Int} {V V1 : q_Mem} (h : VK K V) (hf : fx V V1) (hE : Exc [112] V V1) : VK K V1 := by
  unfold VK at *
  rw [hf 28 (by decide), hf 26 (by decide), hE 139 (by decide)]
  exact h
theorem VR.f26 {s c i : Nat} {E : List Int} {V : q_Mem} {z : Int} (h : VR s c E V) (hi : i = 26 ∨ i = 28) : VR s c E (q_up V 112 i z) := by
  obtain ⟨a, b, e, f, g⟩ := h
  refine ⟨?_, ?_, ?_, ?_, fun j hj => ?_⟩
  · simp only [q_up]
    rw [if_neg (by omega), a]
  · simp only [q_up]
    rw [if_neg (by omega), b]
  · simp only [q_up]
    rw [if_neg (by omega), e]
  · simp only [q_up]
    rw [if_neg (by omega), f]
  · rw [q_up_ne (by decide), q_up_ne (by decide)]
    exact g j hj
theorem VR.row {s c a i : Nat} {E : List Int} {V : q_Mem} {z : Int} (h : VR s c E V) (ha : ¬ a = 112 ∧ ¬ a = 133 ∧ ¬ a = 134) : VR s c E (q_up V a i z) := by
  unfold VR at *
  rw [q_up_ne (fun e => ha.1 e.symm), q_up_ne (fun e => ha.2.1 e.symm), q_up_ne (fun e => ha.2.2 e.symm)]
  exact h
def topK : List Int → Int
  | [] => -1
  | x :: _ => x - 12
theorem C_top {G : q_G} {d : Nat} {V : q_Mem} {N : q_MemL} {K : List Int} (hK : VK K V) (hl : K.length ≤ 100) : AC0 G d m_X11_top [.ref 112] V N (CV (PU (I (topK K)) V N)) := by
  obtain ⟨k1, k2, k3⟩ := hK
  refine AC.of (L0 := [_]) pn_X11 (Nat.le_of_ble_eq_true rfl) rfl ?_
  refine st_aload_n dX11_top_0 rfl ?_
  refine st_getfi dX11_top_1 f_X11_289 (by first | with_reducible assumption | rfl) (by rfl) ?_
  rw [k1]
  cases K with
  | nil =>
    refine st_if_ne (tgt := 11) dX11_top_4 (by omega) rfl (fun c1 => ?_) (fun c1 => ?_)
    · skip
      simp at c1
    · refine st_iconst dX11_top_7 ?_
      refine st_goto (tgt := 22) dX11_top_8 rfl ?_
      refine r_i dX11_top_22 rfl ⟨rfl, rfl, rfl⟩
  | cons x r =>
    simp only [List.length_cons] at hl
    simp only [List.length_cons]
    refine st_if_ne (tgt := 11) dX11_top_4 (by omega) rfl (fun c1 => ?_) (fun c1 => ?_)
    · refine st_aload_n dX11_top_11 rfl ?_
      refine st_getfr dX11_top_12 f_X11_93 (by first | with_reducible assumption | rfl) (by rfl) ?_
      refine st_aload_n dX11_top_15 rfl ?_
      refine st_getfi dX11_top_16 f_X11_289 (by first | with_reducible assumption | rfl) (by rfl) ?_
      rw [k1]
      simp only [List.length_cons]
      refine st_iconst dX11_top_19 ?_
      refine st_isub dX11_top_20 ?_
      have e : V 139 (((r.length + 1 : Nat) : Int) - 1).toNat = x - 12 := by
        rw [show (((r.length + 1 : Nat) : Int) - 1).toNat = r.length by omega]
        have : V 139 r.length + 12 = x := k3.1
        omega
      refine st_iald dX11_top_21 (by first | with_reducible assumption | rfl) (by omega) (by omega) ?_ (by decide)
      rw [e]
      refine r_i dX11_top_22 rfl ⟨rfl, rfl, rfl⟩
    · skip
      omega
theorem VK.push {K : List Int} {V V1 : q_Mem} {x : Int} (h : VK K V) (h1 : V1 112 28 = (K.length : Int) + 1) (h2 : V1 112 26 = (dK (x :: K) : Int)) (h3 : V1 139 = upR (V 139) K.length (x - 12)) : VK (x :: K) V1 := by
  refine ⟨by simp [h1], h2, ?_⟩
  have : (fun j => V1 139 j + 12) = upR (fun j => V 139 j + 12) K.length x := by
    rw [h3]
    funext j
    unfold upR
    split
    · omega
    · rfl
  rw [this]
  exact h.2.2.push
/-- a word that joins is held -/
theorem C_opensJ {G : q_G} {d : Nat} {V : q_Mem} {N : q_MemL} {s c n p : Nat} {K E : List Int} {x : Int} (hp : RP1 V n p) (hV : VR s c E V) (hK : VK K V) (hl : K.length ≤ 100) (hx : x = 22 ∨ x = 23) : AC0 G d m_X11_opens [.ref 112, I (x - 12)] V N (CN (fun V1 N1 => N1 = N ∧ RS2 s V V1 ∧ RP1 V1 n p ∧ VR s c E V1 ∧ VK (x :: K) V1)) := by
  have k1 := hK.1
  refine AC.of (L0 := [_, _]) pn_X11 (Nat.le_of_ble_eq_true rfl) rfl ?_
  refine st_iload_n dX11_opens_0 rfl ?_
  refine st_bipush dX11_opens_1 (by decide) ?_
  refine st_icmp_eq (tgt := 12) dX11_opens_3 (by omega) (by omega) rfl (fun c1 => ?_) (fun c1 => ?_)
  · skip
    omega
  · refine st_iload_n dX11_opens_6 rfl ?_
    refine st_bipush dX11_opens_7 (by decide) ?_
    refine st_icmp_ne (tgt := 40) dX11_opens_9 (by omega) (by omega) rfl (fun c2 => ?_) (fun c2 => ?_)
    · refine st_aload_n dX11_opens_40 rfl ?_
      refine st_getfr dX11_opens_41 f_X11_93 (by first | with_reducible assumption | rfl) (by rfl) ?_
      refine st_aload_n dX11_opens_44 rfl ?_
      refine st_getfi dX11_opens_45 f_X11_289 (by first | with_reducible assumption | rfl) (by rfl) ?_
      rw [k1]
      refine st_iload_n dX11_opens_48 rfl ?_
      first | refine st_iastK (k' := _) dX11_opens_49 (by first | with_reducible assumption | rfl) rfl (by omega) (hn := by first | decide | omega) ?_ | refine st_iast dX11_opens_49 (by first | with_reducible assumption | rfl) (by omega) (by omega) (hn := by first | decide | omega) ?_
      refine st_aload_n dX11_opens_50 rfl ?_
      refine st_dup dX11_opens_51 rfl ?_
      refine st_getfi dX11_opens_52 f_X11_289 (by first | with_reducible assumption | rfl) (by rfl) ?_
      rw [show q_up V 139 K.length (x - 12) 112 28 = (K.length : Int) by rw [q_up_ne (by decide)]; exact k1]
      refine st_iconst dX11_opens_55 ?_
      refine st_iadd dX11_opens_56 ?_
      refine st_putfi dX11_opens_57 w_X11_289 (by first | with_reducible assumption | rfl) (by rfl) rfl rfl ?_
      refine r_v dX11_opens_60 rfl ⟨rfl, (RFk.upr (by simp) (by decide)).tr (RFk.up (by simp) (by simp)), (hp.row (by decide)).f23 (by decide), (hV.row (by decide)).f26 (Or.inr rfl), hK.push (by simp [q_up]) ?_ ?_⟩
      · rw [dK_c, if_neg (by omega), Nat.zero_add]
        simp [q_up]
        exact hK.2.1
      · rw [q_up_ne (by decide), q_upR]
    · skip
      omega
/-- one that opens is held -/
theorem C_opensO {G : q_G} {d : Nat} {V : q_Mem} {N : q_MemL} {s c n p : Nat} {K E : List Int} {x : Int} (hp : RP1 V n p) (hV : VR s c E V) (hK : VK K V) (hl : K.length ≤ 100) (hx : x = 21 ∨ x = 24) (h10 : dK K < 10) : AC0 G d m_X11_opens [.ref 112, I (x - 12)] V N (CN (fun V1 N1 => N1 = N ∧ RS2 s V V1 ∧ RP1 V1 n p ∧ VR s c E V1 ∧ VK (x :: K) V1)) := by
  have k1 := hK.1
  have k2 := hK.2.1
  have at12 : AW0 G d m_X11_opens 12 [some (.ref 112), some (I (x - 12))] [] V N (CN (fun V1 N1 => N1 = N ∧ RS2 s V V1 ∧ RP1 V1 n p ∧ VR s c E V1 ∧ VK (x :: K) V1)) := by
    refine st_aload_n dX11_opens_12 rfl ?_
    refine st_getfi dX11_opens_13 f_X11_292 (by first | with_reducible assumption | rfl) (by rfl) ?_
    rw [k2]
    refine st_bipush dX11_opens_16 (by decide) ?_
    refine st_icmp_ne (tgt := 30) dX11_opens_18 (by omega) (by omega) rfl (fun c3 => ?_) (fun c3 => ?_)
    · refine st_aload_n dX11_opens_30 rfl ?_
      refine st_dup dX11_opens_31 rfl ?_
      refine st_getfi dX11_opens_32 f_X11_292 (by first | with_reducible assumption | rfl) (by rfl) ?_
      rw [k2]
      refine st_iconst dX11_opens_35 ?_
      refine st_iadd dX11_opens_36 ?_
      refine st_putfi dX11_opens_37 w_X11_292 (by first | with_reducible assumption | rfl) (by rfl) rfl rfl ?_
      refine st_aload_n dX11_opens_40 rfl ?_
      refine st_getfr dX11_opens_41 f_X11_93 (by first | with_reducible assumption | rfl) (by rfl) ?_
      refine st_aload_n dX11_opens_44 rfl ?_
      refine st_getfi dX11_opens_45 f_X11_289 (by first | with_reducible assumption | rfl) (by rfl) ?_
      rw [show q_up V 112 26 ((dK K : Int) + 1) 112 28 = (K.length : Int) by simp [q_up, k1]]
      refine st_iload_n dX11_opens_48 rfl ?_
      first | refine st_iastK (k' := _) dX11_opens_49 (by first | with_reducible assumption | rfl) rfl (by omega) (hn := by first | decide | omega) ?_ | refine st_iast dX11_opens_49 (by first | with_reducible assumption | rfl) (by omega) (by omega) (hn := by first | decide | omega) ?_
      refine st_aload_n dX11_opens_50 rfl ?_
      refine st_dup dX11_opens_51 rfl ?_
      refine st_getfi dX11_opens_52 f_X11_289 (by first | with_reducible assumption | rfl) (by rfl) ?_
      rw [show q_up (q_up V 112 26 ((dK K : Int) + 1)) 139 K.length (x - 12) 112 28 = (K.length : Int) by rw [q_up_ne (by decide)]; simp [q_up, k1]]
      refine st_iconst dX11_opens_55 ?_
      refine st_iadd dX11_opens_56 ?_
      refine st_putfi dX11_opens_57 w_X11_289 (by first | with_reducible assumption | rfl) (by rfl) rfl rfl ?_
      refine r_v dX11_opens_60 rfl ⟨rfl, ((RFk.up (by simp) (by simp)).tr (RFk.upr (by simp) (by decide))).tr (RFk.up (by simp) (by simp)), ((hp.f23 (by decide)).row (by decide)).f23 (by decide), ((hV.f26 (Or.inl rfl)).row (by decide)).f26 (Or.inr rfl), hK.push (by simp [q_up]) ?_ ?_⟩
      · rw [dK_c, if_pos (by omega)]
        simp [q_up]
        omega
      · rw [q_up_ne (by decide), q_upR, q_up_ne (by decide)]
    · skip
      omega
  refine AC.of (L0 := [_, _]) pn_X11 (Nat.le_of_ble_eq_true rfl) rfl ?_
  refine st_iload_n dX11_opens_0 rfl ?_
  refine st_bipush dX11_opens_1 (by decide) ?_
  refine st_icmp_eq (tgt := 12) dX11_opens_3 (by omega) (by omega) rfl (fun c1 => ?_) (fun c1 => ?_)
  · skip
    exact at12
  · refine st_iload_n dX11_opens_6 rfl ?_
    refine st_bipush dX11_opens_7 (by decide) ?_
    refine st_icmp_ne (tgt := 40) dX11_opens_9 (by omega) (by omega) rfl (fun c2 => ?_) (fun c2 => ?_)
    · skip
      omega
    · skip
      exact at12
/-- one too deep -/
theorem C_opensF {G : q_G} {d : Nat} {V : q_Mem} {N : q_MemL} {s c n p : Nat} {K E : List Int} {x : Int} (hd : 1 ≤ d) (hp : RP1 V n p) (hV : VR s c E V) (hE : E.length ≤ 300) (hc : c ≤ 60) (hK : VK K V) (hl : K.length ≤ 100) (hx : x = 21 ∨ x = 24) (h10 : dK K = 10) : AC0 G d m_X11_opens [.ref 112, I (x - 12)] V N (CN (fun V1 N1 => N1 = N ∧ RS2 s V V1 ∧ V1 112 21 = (p : Int) ∧ RE1 V1 n (1 + 8 * (p : Int) + 2) ∧ VE s 100 V1)) := by
  have k1 := hK.1
  have k2 := hK.2.1
  have hp0 := hp
  obtain ⟨a, b, e, hpn, h22⟩ := hp
  have at12 : AW0 G d m_X11_opens 12 [some (.ref 112), some (I (x - 12))] [] V N (CN (fun V1 N1 => N1 = N ∧ RS2 s V V1 ∧ V1 112 21 = (p : Int) ∧ RE1 V1 n (1 + 8 * (p : Int) + 2) ∧ VE s 100 V1)) := by
    refine st_aload_n dX11_opens_12 rfl ?_
    refine st_getfi dX11_opens_13 f_X11_292 (by first | with_reducible assumption | rfl) (by rfl) ?_
    rw [k2]
    refine st_bipush dX11_opens_16 (by decide) ?_
    refine st_icmp_ne (tgt := 30) dX11_opens_18 (by omega) (by omega) rfl (fun c3 => ?_) (fun c3 => ?_)
    · skip
      omega
    · refine st_aload_n dX11_opens_21 rfl ?_
      refine st_iconst dX11_opens_22 ?_
      refine st_aload_n dX11_opens_23 rfl ?_
      refine st_getfi dX11_opens_24 f_X11_223 (by first | with_reducible assumption | rfl) (by rfl) ?_
      rw [e]
      refine c_V2v (d' := d - 1) dX11_opens_27 l_X11_259 k_X11_fails i_X11_fails (Or.inl ⟨_, _, _, _, _, (by first | with_reducible assumption | rfl), by rfl⟩) (by omega) (Nat.le_of_ble_eq_true rfl) (C_rfails (by rw [h22]; unfold i32; omega)) (fun V1 N1 hx => ?_)
      obtain ⟨rfl, hM⟩ := hx
      rw [h22, flt, if_pos rfl] at hM
      have f1 : fx V V1 := by rw [hM]; exact fx.up (by omega)
      have x1 : Exc [112] V V1 := by rw [hM]; exact Exc.up (by simp)
      have P1 : RE1 V1 n (1 + 8 * (p : Int) + 2) := by
        rw [hM]
        exact ⟨by simp [q_up, a], b, by simp [q_up]; omega, by simp [q_up], by omega, by omega, by omega⟩
      have p1 : V1 112 21 = (p : Int) := by rw [hM]; simp [q_up, e]
      have W1 : VR s c E V1 := hV.fx f1 x1
      have z28 : V1 112 28 = (K.length : Int) := by rw [hM]; simp [q_up, k1]
      have z26 : V1 112 26 = (dK K : Int) := by rw [hM]; simp [q_up, k2]
      refine st_aload_n dX11_opens_30 rfl ?_
      refine st_dup dX11_opens_31 rfl ?_
      refine st_getfi dX11_opens_32 f_X11_292 (by first | with_reducible assumption | rfl) (by rfl) ?_
      rw [z26]
      refine st_iconst dX11_opens_35 ?_
      refine st_iadd dX11_opens_36 ?_
      refine st_putfi dX11_opens_37 w_X11_292 (by first | with_reducible assumption | rfl) (by rfl) rfl rfl ?_
      refine st_aload_n dX11_opens_40 rfl ?_
      refine st_getfr dX11_opens_41 f_X11_93 (by first | with_reducible assumption | rfl) (by rfl) ?_
      refine st_aload_n dX11_opens_44 rfl ?_
      refine st_getfi dX11_opens_45 f_X11_289 (by first | with_reducible assumption | rfl) (by rfl) ?_
      rw [show q_up V1 112 26 ((dK K : Int) + 1) 112 28 = (K.length : Int) by simp [q_up, z28]]
      refine st_iload_n dX11_opens_48 rfl ?_
      first | refine st_iastK (k' := _) dX11_opens_49 (by first | with_reducible assumption | rfl) rfl (by omega) (hn := by first | decide | omega) ?_ | refine st_iast dX11_opens_49 (by first | with_reducible assumption | rfl) (by omega) (by omega) (hn := by first | decide | omega) ?_
      refine st_aload_n dX11_opens_50 rfl ?_
      refine st_dup dX11_opens_51 rfl ?_
      refine st_getfi dX11_opens_52 f_X11_289 (by first | with_reducible assumption | rfl) (by rfl) ?_
      rw [show q_up (q_up V1 112 26 ((dK K : Int) + 1)) 139 K.length (x - 12) 112 28 = (K.length : Int) by rw [q_up_ne (by decide)]; simp [q_up, z28]]
      refine st_iconst dX11_opens_55 ?_
      refine st_iadd dX11_opens_56 ?_
      refine st_putfi dX11_opens_57 w_X11_289 (by first | with_reducible assumption | rfl) (by rfl) rfl rfl ?_
      refine r_v dX11_opens_60 rfl ⟨rfl, (RS1.to (f1.rs x1)).tr (((RFk.up (by simp) (by simp)).tr (RFk.upr (by simp) (by decide))).tr (RFk.up (by simp) (by simp))), by simp [q_up, p1], ((P1.f23 (by decide)).row (by decide)).f23 (by decide), (((W1.f26 (Or.inl rfl)).row (by decide)).f26 (Or.inr rfl)).ve hE (by omega)⟩
  refine AC.of (L0 := [_, _]) pn_X11 (Nat.le_of_ble_eq_true rfl) rfl ?_
  refine st_iload_n dX11_opens_0 rfl ?_
  refine st_bipush dX11_opens_1 (by decide) ?_
  refine st_icmp_eq (tgt := 12) dX11_opens_3 (by omega) (by omega) rfl (fun c1 => ?_) (fun c1 => ?_)
  · skip
    exact at12
  · refine st_iload_n dX11_opens_6 rfl ?_
    refine st_bipush dX11_opens_7 (by decide) ?_
    refine st_icmp_ne (tgt := 40) dX11_opens_9 (by omega) (by omega) rfl (fun c2 => ?_) (fun c2 => ?_)
    · skip
      omega
    · skip
      exact at12
theorem C_answers {G : q_G} {d : Nat} {V : q_Mem} {N : q_MemL} {s c n p : Nat} {x : Int} {K E : List Int} (hd : 2 ≤ d) (hp : RP1 V n p) (hV : VR s c E V) (hs : s ≤ 5) (hK : VK K V) (hl : K.length ≤ 100) (hE : K.length + E.length ≤ 299) (hm : ∀ y, y ∈ K → 21 ≤ y ∧ y ≤ 24) (hx : x = 21 ∨ x = 22 ∨ x = 23) : AC0 G d m_X11_answers [.ref 112, I (x - 12)] V N (CN (fun V1 N1 => N1 = N ∧ RS2 s V V1 ∧ RP1 V1 n p ∧ VR s c (pop x K E).2 V1 ∧ VK (pop x K E).1 V1)) := by
  have loop : ∀ (K E : List Int) (V1 : q_Mem), K.length ≤ 100 → K.length + E.length ≤ 299 → (∀ y, y ∈ K → 21 ≤ y ∧ y ≤ 24) → RP1 V1 n p → VR s c E V1 → VK K V1 → RS2 s V V1 → AW0 G d m_X11_answers 0 [some (.ref 112), some (I (x - 12))] [] V1 N (CN (fun V1 N1 => N1 = N ∧ RS2 s V V1 ∧ RP1 V1 n p ∧ VR s c (pop x K E).2 V1 ∧ VK (pop x K E).1 V1)) := by
    intro K
    induction K with
    | nil =>
      intro E V1 hl hE hm P1 W1 K1 R1
      refine st_aload_n dX11_answers_0 rfl ?_
      refine c_V0p (d' := d - 1) dX11_answers_1 l_X11_295 k_X11_top i_X11_top (Or.inl ⟨_, _, _, _, _, (by first | with_reducible assumption | rfl), by rfl⟩) (by omega) (Nat.le_of_ble_eq_true rfl) (C_top K1 hl) ?_
      rw [show topK [] = -1 from rfl]
      refine st_iload_n dX11_answers_4 rfl ?_
      refine st_icmp_ne (tgt := 54) dX11_answers_5 (by omega) (by omega) rfl (fun c1 => ?_) (fun c1 => ?_)
      · skip
        refine r_v dX11_answers_54 rfl ⟨rfl, R1, P1, W1, K1⟩
      · skip
        omega
    | cons y K ih =>
      intro E V1 hl hE hm P1 W1 K1 R1
      have hl2 : K.length ≤ 99 := by simp only [List.length_cons] at hl; omega
      have hE2 : K.length + 1 + E.length ≤ 299 := by simp only [List.length_cons] at hE; omega
      have hyr : y = x ∨ ¬ y = x := by omega
      rw [pop_c]
      have hk28 : V1 112 28 = ((K.length + 1 : Nat) : Int) := K1.1
      have hk26 := K1.2.1
      have hy := hm y (by simp)
      have hy32 : i32 (y - 12) := by
        unfold i32
        omega
      refine st_aload_n dX11_answers_0 rfl ?_
      refine c_V0p (d' := d - 1) dX11_answers_1 l_X11_295 k_X11_top i_X11_top (Or.inl ⟨_, _, _, _, _, (by first | with_reducible assumption | rfl), by rfl⟩) (by omega) (Nat.le_of_ble_eq_true rfl) (C_top K1 hl) ?_
      rw [show topK (y :: K) = y - 12 from rfl]
      refine st_iload_n dX11_answers_4 rfl ?_
      unfold i32 at hy32
      refine st_icmp_ne (tgt := 54) dX11_answers_5 (by omega) (by omega) rfl (fun c1 => ?_) (fun c1 => ?_)
      · skip
        rw [if_neg (by omega)]
        refine r_v dX11_answers_54 rfl ⟨rfl, R1, P1, W1, K1⟩
      · refine st_aload_n dX11_answers_8 rfl ?_
        refine st_getfi dX11_answers_9 f_X11_220 (by first | with_reducible assumption | rfl) (by rfl) ?_
        have hyx : y = x := by omega
        subst hyx
        rw [if_pos rfl, P1.2.2.2.2]
        refine st_if_ne (tgt := 54) dX11_answers_12 (by omega) rfl (fun c2 => ?_) (fun c2 => ?_)
        · skip
          exact absurd rfl c2
        · refine st_aload_n dX11_answers_15 rfl ?_
          refine st_iload_n dX11_answers_16 rfl ?_
          refine st_iconst dX11_answers_17 ?_
          refine c_V2v (d' := d - 1) dX11_answers_18 l_X11_273 k_X11_entry i_X11_entry (Or.inl ⟨_, _, _, _, _, (by first | with_reducible assumption | rfl), by rfl⟩) (by omega) (Nat.le_of_ble_eq_true rfl) (C_entry (x := y) P1 W1 hs (by omega) (Or.inr (Or.inr ⟨by omega, by rcases hx with rfl | rfl | rfl <;> rfl⟩))) (fun V2 N2 hx => ?_)
          obtain ⟨rfl, R2, P2, W2⟩ := hx
          have K2 : VK (y :: K) V2 := K1.rs R2
          have j28 : V2 112 28 = ((K.length + 1 : Nat) : Int) := K2.1
          have j26 := K2.2.1
          refine st_aload_n dX11_answers_21 rfl ?_
          refine st_dup dX11_answers_22 rfl ?_
          refine st_getfi dX11_answers_23 f_X11_289 (by first | with_reducible assumption | rfl) (by rfl) ?_
          rw [j28]
          refine st_iconst dX11_answers_26 ?_
          refine st_isub dX11_answers_27 ?_
          refine st_putfi dX11_answers_28 w_X11_289 (by first | with_reducible assumption | rfl) (by rfl) rfl rfl ?_
          refine st_aload_n dX11_answers_31 rfl ?_
          refine st_dup dX11_answers_32 rfl ?_
          refine st_getfi dX11_answers_33 f_X11_292 (by first | with_reducible assumption | rfl) (by rfl) ?_
          rw [show q_up V2 112 28 (((K.length + 1 : Nat) : Int) - 1) 112 26 = (dK (y :: K) : Int) by simp [q_up, j26]]
          have nx : ∀ z : Int, (dK (y :: K) : Int) - z = (dK K : Int) → AW0 G d m_X11_answers 47 [some (.ref 112), some (I (y - 12))] [I z, I (dK (y :: K)), .ref 112] (q_up V2 112 28 (((K.length + 1 : Nat) : Int) - 1)) N2 (CN (fun V1 N1 => N1 = N2 ∧ RS2 s V V1 ∧ RP1 V1 n p ∧ VR s c (pop y K (E ++ [y])).2 V1 ∧ VK (pop y K (E ++ [y])).1 V1)) := by
            intro z hz
            refine st_isub dX11_answers_47 ?_
            rw [hz]
            refine st_putfi dX11_answers_48 w_X11_292 (by first | with_reducible assumption | rfl) (by rfl) rfl rfl ?_
            refine st_goto (tgt := 0) dX11_answers_51 rfl ?_
            refine ih (E ++ [y]) _ (by omega) (by simp; omega) (fun z hz => hm z (by simp [hz])) ((P2.f23 (by decide)).f23 (by decide)) ((W2.f26 (Or.inr rfl)).f26 (Or.inl rfl)) ?_ ((R1.tr (RS1.to R2)).tr ((RFk.up (by simp) (by simp)).tr (RFk.up (by simp) (by simp))))
            refine ⟨by simp [q_up], by simp [q_up], ?_⟩
            rw [q_up_ne (by decide), q_up_ne (by decide)]
            exact K2.2.2.2
          refine st_iload_n dX11_answers_36 rfl ?_
          refine st_bipush dX11_answers_37 (by decide) ?_
          refine st_icmp_ne (tgt := 46) dX11_answers_39 (by omega) (by omega) rfl (fun c3 => ?_) (fun c3 => ?_)
          · refine st_iconst dX11_answers_46 ?_
            exact nx 0 (by rw [dK_c, if_neg (by omega)]; omega)
          · refine st_iconst dX11_answers_42 ?_
            refine st_goto (tgt := 47) dX11_answers_43 rfl ?_
            exact nx 1 (by rw [dK_c, if_pos (by omega)]; omega)
  refine AC.of (L0 := [_, _]) pn_X11 (Nat.le_of_ble_eq_true rfl) rfl ?_
  exact loop K E V hl hE hm hp hV hK RFk.rf


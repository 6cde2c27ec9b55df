/-! the reference reads a house: a clause behind its word -/
/-- what is told so far, on both sides -/
def HR (B V : q_Mem) : Prop := (V 125 0 = B 10 1 ∧ V 125 1 = B 10 2 ∧ V 125 2 = max 0 (B 10 3 - 1) ∧ V 125 3 = B 10 4 ∧ V 125 4 = B 10 5 ∧ V 125 5 = B 10 6) ∧
  (∀ s : Nat, (s : Int) ≤ max 0 (B 10 3 - 1) → hsum (V 126) s = B 11 s) ∧
  (∀ q, q < (B 10 4).toNat → V 127 q = g4 (B 10 13) q ∧ V 129 q = B 12 q ∧ ∀ h, h < (B 10 2).toNat → V 128 (6 * q + h) = B 14 (6 * q + h)) ∧
  (∀ t, t < (B 10 5).toNat → V 130 t = g4 (B 10 13) (7 + t) ∧ V 131 t = B 13 t)
/-- the tapes are alike -/
def tb (B V : q_Mem) (n : Nat) : Prop := ∀ j, j < n → V 132 j = B 2 j ∧ -128 ≤ B 2 j ∧ B 2 j ≤ 127
/-- the tape of the reference: n bytes, at a place, without a fault -/
def RP1 (V : q_Mem) (n p : Nat) : Prop := V 112 20 = (n : Int) ∧ n ≤ 400 ∧ V 112 21 = (p : Int) ∧ p ≤ n ∧ V 112 22 = 0
def fx (V V1 : q_Mem) : Prop := ∀ j, j ∉ [21, 22] → V1 112 j = V 112 j
theorem fx.rf {V : q_Mem} : fx V V := fun _ _ => rfl
theorem fx.tr {V V1 V2 : q_Mem} (h : fx V V1) (h2 : fx V1 V2) : fx V V2 := fun j hj => (h2 j hj).trans (h j hj)
theorem fx.up {V : q_Mem} {a i : Nat} {z : Int} (h : ¬ a = 112 ∨ i = 21 ∨ i = 22) : fx V (q_up V a i z) := by
  intro j hj
  simp at hj
  simp only [q_up]
  rw [if_neg (by omega)]
theorem fx.exc {X : List Nat} {V V1 : q_Mem} (h : Exc X V V1) (hX : 112 ∉ X) : fx V V1 := fun j _ => by rw [h 112 hX]
/-- with a fault -/
def RE1 (V : q_Mem) (n : Nat) (F : Int) : Prop := V 112 20 = (n : Int) ∧ n ≤ 400 ∧ (0 ≤ V 112 21 ∧ V 112 21 ≤ 400) ∧ V 112 22 = F ∧ ¬ F = 0 ∧ 0 ≤ F ∧ F ≤ 3300
theorem RP1.exc {X : List Nat} {V V1 : q_Mem} {n p : Nat} (h : RP1 V n p) (hE : Exc X V V1) (hX : 112 ∉ X) : RP1 V1 n p := by
  unfold RP1 at *
  rw [hE 112 hX]
  exact h
theorem RE1.exc {X : List Nat} {V V1 : q_Mem} {n : Nat} {F : Int} (h : RE1 V n F) (hE : Exc X V V1) (hX : 112 ∉ X) : RE1 V1 n F := by
  unfold RE1 at *
  rw [hE 112 hX]
  exact h
theorem tb.exc {X : List Nat} {B V V1 : q_Mem} {n : Nat} (h : tb B V n) (hE : Exc X V V1) (hX : 132 ∉ X) : tb B V1 n := by
  unfold tb at *
  rw [hE 132 hX]
  exact h
theorem tb.excB {X : List Nat} {B B1 V : q_Mem} {n : Nat} (h : tb B V n) (hE : Exc X B B1) (hX : 2 ∉ X) : tb B1 V n := by
  unfold tb at *
  rw [hE 2 hX]
  exact h
/-- an amount, against the system's number -/
def raQ (B V : q_Mem) (n : Nat) (lo hi : Int) (x : Value) (V1 : q_Mem) : Prop := (∃ v B1, rd B n lo hi = .ok (v, B1) ∧ x = I v ∧ V1 = q_up V 112 21 (B1 1 2)) ∨ (∃ F z, rd B n lo hi = .error F ∧ x = I z ∧ (0 ≤ z ∧ z ≤ 99999) ∧ Exc [112] V V1 ∧ fx V V1 ∧ RE1 V1 n F)
theorem C_ram {G : q_G} {d : Nat} {B V : q_Mem} {N : q_MemL} {n p : Nat} {lo hi : Int} (hd : 3 ≤ d) (hB : TP B n p) (hV : RP1 V n p) (ht : tb B V n) (hlo : i32 lo) (hhi : i32 hi) : AC0 G d m_X11_amount [.ref 112, I lo, I hi] V N (CV (fun x V1 N1 => N1 = N ∧ raQ B V n lo hi x V1)) := by
  have hc : ∀ j, j < n → V 132 j = B 2 j := fun j hj => (ht j hj).1
  obtain ⟨a, b, c, e, f⟩ := hV
  refine AC.mono (fun v S' M' N' hq => ?_) (C_amount hd a b c (by omega) f hlo hhi)
  obtain ⟨hS, x, hv, hN, hM, hx, hdg⟩ := hq
  refine ⟨hS, x, hv, hN, ?_⟩
  have hp : (B 1 2).toNat = p := by have := hB.2.2.1; omega
  have hs := skip_le (B 2) n p
  have hk := num_ok (B 2) n (skip (B 2) n p)
  rw [skip_congr hc, numK_congr hc, numF_congr hc] at hM
  rw [skip_congr hc, numV_congr hc] at hx
  unfold raQ rd
  rw [hp]
  generalize hF : numF (B 2) n (skip (B 2) n p) lo hi = F at *
  have hFr := numF_rng (f := B 2) (n := n) (q := skip (B 2) n p) (lo := lo) (hi := hi) (by omega)
  rw [hF] at hFr
  by_cases h0 : F = 0
  · left
    refine ⟨_, _, by rw [if_pos h0], hx, ?_⟩
    rw [hM, h0]
    rw [q_up_id (M := q_up V 112 21 ((skip (B 2) n p + numK (B 2) n (skip (B 2) n p) : Nat) : Int)) (a := 112) (i := 22) (by simp [q_up, f])]
    simp [q_up]
  · right
    refine ⟨F, _, by rw [if_neg h0], hx, hk.2, ?_, ?_, ?_⟩
    · rw [hM]
      exact (Exc.up (by simp)).tr (Exc.up (by simp))
    · rw [hM]
      exact (fx.up (by simp)).tr (fx.up (by simp))
    · rw [hM]
      exact ⟨by simp [q_up, a], b, by simp [q_up]; omega, by simp [q_up], h0, hFr.2⟩
theorem C_rblanksE {G : q_G} {d : Nat} {V : q_Mem} {N : q_MemL} {n : Nat} {F : Int} (hd : 1 ≤ d) (h : RE1 V n F) : AC0 G d m_X11_blanks [.ref 112] V N (CN (fun V1 N1 => N1 = N ∧ Exc [112] V V1 ∧ fx V V1 ∧ RE1 V1 n F)) := by
  obtain ⟨a, b, c, e, f⟩ := h
  obtain ⟨p, hp⟩ : ∃ p : Nat, V 112 21 = (p : Int) := ⟨(V 112 21).toNat, by omega⟩
  have hs := skip_le (V 132) n p
  refine AC.mono (fun v S' M' N' hq => ?_) (C_blanks hd a b hp (by omega))
  obtain ⟨hS, hv, hN, hM⟩ := hq
  refine ⟨hS, hv, hN, ?_, ?_, ?_⟩
  · rw [hM]
    exact Exc.up (by simp)
  · rw [hM]
    exact fx.up (by simp)
  · rw [hM]
    refine ⟨by simp [q_up, a], b, ?_, by simp [q_up, e], f⟩
    simp [q_up]
    by_cases hpn : p ≤ n
    · have := hs.2.1 hpn
      omega
    · rw [hs.2.2 (by omega)]
      omega
theorem C_ramE {G : q_G} {d : Nat} {V : q_Mem} {N : q_MemL} {n : Nat} {lo hi F : Int} (hd : 3 ≤ d) (h : RE1 V n F) : AC0 G d m_X11_amount [.ref 112, I lo, I hi] V N (CV (fun x V1 N1 => N1 = N ∧ x = I 0 ∧ Exc [112] V V1 ∧ fx V V1 ∧ RE1 V1 n F)) := by
  refine AC.of (L0 := [_, _, _, none, none]) pn_X11 (Nat.le_of_ble_eq_true rfl) rfl ?_
  refine st_aload_n dX11_amount_0 rfl ?_
  refine c_V0v (d' := d - 1) dX11_amount_1 l_X11_243 k_X11_blanks i_X11_blanks (Or.inl ⟨_, _, _, _, _, (by first | with_reducible assumption | rfl), by rfl⟩) (by omega) (Nat.le_of_ble_eq_true rfl) (C_rblanksE (by omega) h) (fun V1 N1 hx => ?_)
  obtain ⟨rfl, hE, hfx, hT⟩ := hx
  have hF := hT.2.2.2.1
  have hF2 := hT.2.2.2.2.2
  refine st_aload_n dX11_amount_4 rfl ?_
  refine st_getfi dX11_amount_5 f_X11_223 (by first | with_reducible assumption | rfl) (by rfl) ?_
  refine st_istore_n (L' := [_, _, _, _, _]) dX11_amount_8 (by decide) rfl rfl ?_
  refine st_aload_n dX11_amount_9 rfl ?_
  refine st_getfi dX11_amount_10 f_X11_220 (by first | with_reducible assumption | rfl) (by rfl) ?_
  rw [hF]
  refine st_if_ne (tgt := 26) dX11_amount_13 (by omega) rfl (fun c => ?_) (fun c => ?_)
  · refine st_iconst dX11_amount_26 ?_
    refine st_istore (L' := [_, _, _, _, _]) dX11_amount_27 (by decide) rfl rfl ?_
    refine st_aload_n dX11_amount_29 rfl ?_
    refine st_getfi dX11_amount_30 f_X11_220 (by first | with_reducible assumption | rfl) (by rfl) ?_
    rw [hF]
    refine st_if_ne (tgt := 55) dX11_amount_33 (by omega) rfl (fun c2 => ?_) (fun c2 => ?_)
    · refine st_iload dX11_amount_55 rfl ?_
      refine r_i dX11_amount_57 rfl ⟨rfl, rfl, hE, hfx, hT⟩
    · skip
      exact absurd c2 hT.2.2.2.2.1
  · skip
    exact absurd c hT.2.2.2.2.1
/-- how the reference's part ends, against the system's -/
def hpQ (X : List Nat) (n : Nat) (r : Except Int q_Mem) (V V1 : q_Mem) : Prop := Exc X V V1 ∧ fx V V1 ∧ ((∃ B1 p, r = .ok B1 ∧ HR B1 V1 ∧ TP B1 n p ∧ RP1 V1 n p) ∨ ∃ F, r = .error F ∧ RE1 V1 n F)
theorem RP1.up {V : q_Mem} {n p q : Nat} (h : RP1 V n p) (hq : q ≤ n) : RP1 (q_up V 112 21 (q : Int)) n q := by
  obtain ⟨a, b, c, d, e⟩ := h
  exact ⟨by simp [q_up, a], b, by simp [q_up], hq, by simp [q_up, e]⟩
theorem RP1.upB {B1 V : q_Mem} {n p q : Nat} (h : RP1 V n p) (hT : TP B1 n q) : RP1 (q_up V 112 21 (B1 1 2)) n q := by
  rw [hT.2.2.1]
  exact h.up hT.2.2.2.1
/-- the voices of a person -/
theorem C_rtold {G : q_G} {d : Nat} {B V : q_Mem} {N : q_MemL} {n p : Nat} (hd : 4 ≤ d) (hB : TP B n p) (hV : RP1 V n p) (ht : tb B V n) (hH : HP B) (hR : HR B V) (h7 : B 10 4 < 7) (hk0 : ∀ j : Nat, B 10 4 ≤ j → B 12 j = 0) : AC0 G d m_X11_readsPerson [.ref 112] V N (CN (fun V1 N1 => N1 = N ∧ hpQ [112, 125, 127, 128, 129] n (hRest n 2 B) V V1)) := by
  obtain ⟨⟨r1, r2⟩, ⟨r3, r4⟩, ⟨r5, r6⟩, ⟨r7, r8⟩, ⟨r9, r10⟩, r11, r12⟩ := hH
  obtain ⟨⟨u0, u1, u2, u3, u4, u5⟩, us, uq, ut⟩ := hR
  obtain ⟨q, hq⟩ : ∃ q : Nat, B 10 4 = (q : Int) := ⟨(B 10 4).toNat, by omega⟩
  obtain ⟨hs, hh⟩ : ∃ s : Nat, B 10 2 = (s : Int) := ⟨(B 10 2).toNat, by omega⟩
  have hq7 : q < 7 := by omega
  -- in a fault
  have err : ∀ (m k : Nat) (V1 : q_Mem) (F : Int), k + m = hs → RE1 V1 n F → Exc [112, 125, 127, 128, 129] V V1 → fx V V1 → V1 125 = V 125 → AW0 G d m_X11_readsPerson 28 [some (.ref 112), some (I q), some (I k)] [] V1 N (CN (fun V1 N1 => N1 = N ∧ Exc [112, 125, 127, 128, 129] V V1 ∧ fx V V1 ∧ RE1 V1 n F)) := by
    intro m
    induction m with
    | zero =>
      intro k V1 F hk hT hE hfx e5
      refine st_iload_n dX11_readsPerson_28 rfl ?_
      refine st_aload_n dX11_readsPerson_29 rfl ?_
      refine st_getfr dX11_readsPerson_30 f_X11_46 (by first | with_reducible assumption | rfl) (by rfl) ?_
      refine st_iconst dX11_readsPerson_33 ?_
      refine st_ialdK (k' := 1) dX11_readsPerson_34 (by first | with_reducible assumption | rfl) rfl (by omega) (hn := by first | decide | omega) ?_
      rw [e5, u1, hh]
      refine st_icmp_ge (tgt := 62) dX11_readsPerson_35 (by omega) (by omega) rfl (fun c => ?_) (fun c => ?_)
      · refine st_aload_n dX11_readsPerson_62 rfl ?_
        refine st_getfr dX11_readsPerson_63 f_X11_58 (by first | with_reducible assumption | rfl) (by rfl) ?_
        refine st_iload_n dX11_readsPerson_66 rfl ?_
        refine st_iconst dX11_readsPerson_67 ?_
        first | refine st_iastK (k' := _) dX11_readsPerson_68 (by first | with_reducible assumption | rfl) rfl (by omega) (hn := by first | decide | omega) ?_ | refine st_iast dX11_readsPerson_68 (by first | with_reducible assumption | rfl) (by omega) (by omega) (hn := by first | decide | omega) ?_
        refine st_aload_n dX11_readsPerson_69 rfl ?_
        refine st_getfr dX11_readsPerson_70 f_X11_46 (by first | with_reducible assumption | rfl) (by rfl) ?_
        refine st_iconst dX11_readsPerson_73 ?_
        refine st_dup2 dX11_readsPerson_74 rfl rfl ?_
        first | refine st_ialdK (k' := _) dX11_readsPerson_75 (by first | with_reducible assumption | rfl) rfl (by omega) (hn := by first | decide | omega) ?_ | refine st_iald dX11_readsPerson_75 (by first | with_reducible assumption | rfl) (by omega) (by omega) (hn := by first | decide | omega) ?_
        refine st_iconst dX11_readsPerson_76 ?_
        refine st_iadd dX11_readsPerson_77 ?_
        first | refine st_iastK (k' := _) dX11_readsPerson_78 (by first | with_reducible assumption | rfl) rfl (by omega) (hn := by first | decide | omega) ?_ | refine st_iast dX11_readsPerson_78 (by first | with_reducible assumption | rfl) (by omega) (by omega) (hn := by first | decide | omega) ?_
        refine r_v dX11_readsPerson_79 rfl ⟨rfl, (hE.tr (Exc.up (by simp))).tr (Exc.up (by simp)), (hfx.tr (fx.up (by simp))).tr (fx.up (by simp)), (hT.exc (Exc.up (L := [129]) (by simp)) (by simp)).exc (Exc.up (L := [125]) (by simp)) (by simp)⟩
      · skip
        omega
    | succ m ih =>
      intro k V1 F hk hT hE hfx e5
      refine st_iload_n dX11_readsPerson_28 rfl ?_
      refine st_aload_n dX11_readsPerson_29 rfl ?_
      refine st_getfr dX11_readsPerson_30 f_X11_46 (by first | with_reducible assumption | rfl) (by rfl) ?_
      refine st_iconst dX11_readsPerson_33 ?_
      refine st_ialdK (k' := 1) dX11_readsPerson_34 (by first | with_reducible assumption | rfl) rfl (by omega) (hn := by first | decide | omega) ?_
      rw [e5, u1, hh]
      refine st_icmp_ge (tgt := 62) dX11_readsPerson_35 (by omega) (by omega) rfl (fun c => ?_) (fun c => ?_)
      · skip
        omega
      · refine st_aload_n dX11_readsPerson_38 rfl ?_
        refine st_getfr dX11_readsPerson_39 f_X11_55 (by first | with_reducible assumption | rfl) (by rfl) ?_
        refine st_bipush dX11_readsPerson_42 (by decide) ?_
        refine st_iload_n dX11_readsPerson_44 rfl ?_
        refine st_imul dX11_readsPerson_45 ?_
        refine st_iload_n dX11_readsPerson_46 rfl ?_
        refine st_iadd dX11_readsPerson_47 ?_
        refine st_aload_n dX11_readsPerson_48 rfl ?_
        refine st_iconst dX11_readsPerson_49 ?_
        refine st_bipush dX11_readsPerson_50 (by decide) ?_
        refine c_V2i (d' := d - 1) dX11_readsPerson_52 l_X11_324 k_X11_amount i_X11_amount (Or.inl ⟨_, _, _, _, _, (by first | with_reducible assumption | rfl), by rfl⟩) (by omega) (Nat.le_of_ble_eq_true rfl) (C_ramE (by omega) hT) (fun x V2 N2 hx => ?_)
        obtain ⟨rfl, rfl, k1, k2, k3⟩ := hx
        first | refine st_iastK (k' := _) dX11_readsPerson_55 (by first | with_reducible assumption | rfl) rfl (by omega) (hn := by first | decide | omega) ?_ | refine st_iast dX11_readsPerson_55 (by first | with_reducible assumption | rfl) (by omega) (by omega) (hn := by first | decide | omega) ?_
        refine st_iinc (L' := [_, _, _]) dX11_readsPerson_56 rfl (by decide) rfl rfl ?_
        refine st_goto (tgt := 28) dX11_readsPerson_59 rfl ?_
        exact AW.to (ih (k + 1) (q_up V2 128 ((6 : Int) * (q : Int) + (k : Int)).toNat 0) F (by omega) (k3.exc (Exc.up (L := [128]) (by simp)) (by simp)) ((hE.tr (k1.sub (by simp))).tr (Exc.up (by simp))) ((hfx.tr k2).tr (fx.up (by simp))) (by rw [q_up_ne (by decide), k1 125 (by simp), e5])) (h2 := by simp)
  have errQ : ∀ (k : Nat) (V1 : q_Mem) (F : Int) (r : Except Int q_Mem), k ≤ hs → RE1 V1 n F → Exc [112, 125, 127, 128, 129] V V1 → fx V V1 → V1 125 = V 125 → r = .error F → AW0 G d m_X11_readsPerson 28 [some (.ref 112), some (I q), some (I k)] [] V1 N (CN (fun V1 N1 => N1 = N ∧ hpQ [112, 125, 127, 128, 129] n r V V1)) := by
    intro k V1 F r hk hT hE hfx e5 hr
    refine AW.mono (fun v S' M' N' hx => ?_) (err (hs - k) k V1 F (by omega) hT hE hfx e5)
    obtain ⟨s1, s2, s3, s4, s5, s6⟩ := hx
    exact ⟨s1, s2, s3, s4, s5, Or.inr ⟨F, hr, s6⟩⟩
  -- as told
  have lp : ∀ (m k : Nat) (B1 V1 : q_Mem) (p1 : Nat), k + m = hs → TP B1 n p1 → RP1 V1 n p1 → tb B1 V1 n → Exc [112, 125, 127, 128, 129] V V1 → fx V V1 → V1 125 = V 125 → B1 10 = upR (B 10) 13 (B1 10 13) → B1 11 = B 11 → B1 12 = B 12 → B1 13 = B 13 → (∀ j, j < q + 1 → V1 127 j = g4 (B1 10 13) j) → (∀ t, t < (B 10 5).toNat → V 130 t = g4 (B1 10 13) (7 + t)) → (∀ a, a < q → V1 129 a = B 12 a ∧ ∀ h, h < hs → V1 128 (6 * a + h) = B1 14 (6 * a + h)) → (∀ h, h < k → V1 128 (6 * q + h) = B1 14 (6 * q + h)) → AW0 G d m_X11_readsPerson 28 [some (.ref 112), some (I q), some (I k)] [] V1 N (CN (fun V1 N1 => N1 = N ∧ hpQ [112, 125, 127, 128, 129] n (match hVo n q m k B1 with | .error F => .error F | .ok M2 => .ok (q_up M2 10 4 (B 10 4 + 1))) V V1)) := by
    intro m
    induction m with
    | zero =>
      intro k B1 V1 p1 hk hT hT2 htb hE hfx e5 f10 f11 f12 f13 g1 g2 g3 g4'
      refine st_iload_n dX11_readsPerson_28 rfl ?_
      refine st_aload_n dX11_readsPerson_29 rfl ?_
      refine st_getfr dX11_readsPerson_30 f_X11_46 (by first | with_reducible assumption | rfl) (by rfl) ?_
      refine st_iconst dX11_readsPerson_33 ?_
      refine st_ialdK (k' := 1) dX11_readsPerson_34 (by first | with_reducible assumption | rfl) rfl (by omega) (hn := by first | decide | omega) ?_
      rw [e5, u1, hh]
      refine st_icmp_ge (tgt := 62) dX11_readsPerson_35 (by omega) (by omega) rfl (fun c => ?_) (fun c => ?_)
      · refine st_aload_n dX11_readsPerson_62 rfl ?_
        refine st_getfr dX11_readsPerson_63 f_X11_58 (by first | with_reducible assumption | rfl) (by rfl) ?_
        refine st_iload_n dX11_readsPerson_66 rfl ?_
        refine st_iconst dX11_readsPerson_67 ?_
        first | refine st_iastK (k' := _) dX11_readsPerson_68 (by first | with_reducible assumption | rfl) rfl (by omega) (hn := by first | decide | omega) ?_ | refine st_iast dX11_readsPerson_68 (by first | with_reducible assumption | rfl) (by omega) (by omega) (hn := by first | decide | omega) ?_
        refine st_aload_n dX11_readsPerson_69 rfl ?_
        refine st_getfr dX11_readsPerson_70 f_X11_46 (by first | with_reducible assumption | rfl) (by rfl) ?_
        refine st_iconst dX11_readsPerson_73 ?_
        refine st_dup2 dX11_readsPerson_74 rfl rfl ?_
        first | refine st_ialdK (k' := _) dX11_readsPerson_75 (by first | with_reducible assumption | rfl) rfl (by omega) (hn := by first | decide | omega) ?_ | refine st_iald dX11_readsPerson_75 (by first | with_reducible assumption | rfl) (by omega) (by omega) (hn := by first | decide | omega) ?_
        rw [show q_up V1 129 q 0 125 (Int.toNat 3) = (q : Int) by show q_up V1 129 q 0 125 3 = _; rw [q_up_ne (by decide), e5, u3, hq]]
        refine st_iconst dX11_readsPerson_76 ?_
        refine st_iadd dX11_readsPerson_77 ?_
        first | refine st_iastK (k' := _) dX11_readsPerson_78 (by first | with_reducible assumption | rfl) rfl (by omega) (hn := by first | decide | omega) ?_ | refine st_iast dX11_readsPerson_78 (by first | with_reducible assumption | rfl) (by omega) (by omega) (hn := by first | decide | omega) ?_
        have hhk : hs = k := by omega
        have b4 : ∀ i, ¬ i = 13 → B1 10 i = B 10 i := fun i hi => by rw [f10]; simp [upR, hi]
        refine r_v dX11_readsPerson_79 rfl ⟨rfl, (hE.tr (Exc.up (by simp))).tr (Exc.up (by simp)), (hfx.tr (fx.up (by simp))).tr (fx.up (by simp)), Or.inl ⟨_, p1, rfl, ?_, hT.exc (Exc.up (L := [10]) (by simp)) (by simp), (hT2.exc (Exc.up (L := [129]) (by simp)) (by simp)).exc (Exc.up (L := [125]) (by simp)) (by simp)⟩⟩
        have c1 : q_up B1 10 4 (B 10 4 + 1) 10 4 = ((q + 1 : Nat) : Int) := by simp [q_up]; omega
        have c2 : ∀ i, ¬ i = 4 → q_up B1 10 4 (B 10 4 + 1) 10 i = B1 10 i := fun i hi => by simp [q_up, hi]
        have c3 : ∀ a, ¬ a = 10 → q_up B1 10 4 (B 10 4 + 1) a = B1 a := fun a ha => q_up_ne ha
        refine ⟨⟨?_, ?_, ?_, ?_, ?_, ?_⟩, ?_, ?_, ?_⟩
        · rw [c2 1 (by decide), b4 1 (by decide), ← u0]
          simp [q_up, e5]
        · rw [c2 2 (by decide), b4 2 (by decide), ← u1]
          simp [q_up, e5]
        · rw [c2 3 (by decide), b4 3 (by decide), ← u2]
          simp [q_up, e5]
        · rw [c1]
          simp [q_up]
        · rw [c2 5 (by decide), b4 5 (by decide), ← u4]
          simp [q_up, e5]
        · rw [c2 6 (by decide), b4 6 (by decide), ← u5]
          simp [q_up, e5]
        · intro s hs'
          rw [c2 3 (by decide), b4 3 (by decide)] at hs'
          rw [c3 11 (by decide), f11, q_up_ne (by decide), q_up_ne (by decide), hE 126 (by simp)]
          exact us s hs'
        · rw [c1, c2 13 (by decide), c2 2 (by decide), b4 2 (by decide), c3 12 (by decide), c3 14 (by decide), f12, hh, Int.toNat_natCast, Int.toNat_natCast]
          intro a ha
          rw [q_up_ne (show (127 : Nat) ≠ 125 by decide), q_up_ne (show (127 : Nat) ≠ 129 by decide), q_up_ne (show (129 : Nat) ≠ 125 by decide), q_up_ne (show (128 : Nat) ≠ 125 by decide), q_up_ne (show (128 : Nat) ≠ 129 by decide), q_upR]
          by_cases e : a = q
          · subst e
            refine ⟨g1 a (by omega), ?_, fun h hh' => g4' h (by omega)⟩
            simp only [upR, if_pos]
            rw [hk0 a (by omega)]
          · refine ⟨g1 a (by omega), ?_, (g3 a (by omega)).2⟩
            simp only [upR]
            rw [if_neg e]
            exact (g3 a (by omega)).1
        · rw [c2 5 (by decide), c2 13 (by decide), b4 5 (by decide), c3 13 (by decide), f13]
          intro t ht'
          rw [q_up_ne (by decide), q_up_ne (by decide), q_up_ne (by decide), q_up_ne (by decide), hE 130 (by simp), hE 131 (by simp)]
          exact ⟨g2 t ht', (ut t ht').2⟩
      · skip
        omega
    | succ m ih =>
      intro k B1 V1 p1 hk hT hT2 htb hE hfx e5 f10 f11 f12 f13 g1 g2 g3 g4'
      refine st_iload_n dX11_readsPerson_28 rfl ?_
      refine st_aload_n dX11_readsPerson_29 rfl ?_
      refine st_getfr dX11_readsPerson_30 f_X11_46 (by first | with_reducible assumption | rfl) (by rfl) ?_
      refine st_iconst dX11_readsPerson_33 ?_
      refine st_ialdK (k' := 1) dX11_readsPerson_34 (by first | with_reducible assumption | rfl) rfl (by omega) (hn := by first | decide | omega) ?_
      rw [e5, u1, hh]
      refine st_icmp_ge (tgt := 62) dX11_readsPerson_35 (by omega) (by omega) rfl (fun c => ?_) (fun c => ?_)
      · skip
        omega
      · refine st_aload_n dX11_readsPerson_38 rfl ?_
        refine st_getfr dX11_readsPerson_39 f_X11_55 (by first | with_reducible assumption | rfl) (by rfl) ?_
        refine st_bipush dX11_readsPerson_42 (by decide) ?_
        refine st_iload_n dX11_readsPerson_44 rfl ?_
        refine st_imul dX11_readsPerson_45 ?_
        refine st_iload_n dX11_readsPerson_46 rfl ?_
        refine st_iadd dX11_readsPerson_47 ?_
        refine st_aload_n dX11_readsPerson_48 rfl ?_
        refine st_iconst dX11_readsPerson_49 ?_
        refine st_bipush dX11_readsPerson_50 (by decide) ?_
        refine c_V2i (d' := d - 1) dX11_readsPerson_52 l_X11_324 k_X11_amount i_X11_amount (Or.inl ⟨_, _, _, _, _, (by first | with_reducible assumption | rfl), by rfl⟩) (by omega) (Nat.le_of_ble_eq_true rfl) (C_ram (by omega) hT hT2 htb (by unfold i32; omega) (by unfold i32; omega)) (fun x V2 N2 hx => ?_)
        obtain ⟨rfl, hx⟩ := hx
        unfold hVo
        rcases hx with ⟨v2, B2, hr, rfl, rfl⟩ | ⟨F, z, hr, rfl, hz, k1, k2, k3⟩
        · obtain ⟨k1, ⟨p2, k2⟩, k3, -⟩ := rd_ok hT hr
          rw [hr]
          first | refine st_iastK (k' := _) dX11_readsPerson_55 (by first | with_reducible assumption | rfl) rfl (by omega) (hn := by first | decide | omega) ?_ | refine st_iast dX11_readsPerson_55 (by first | with_reducible assumption | rfl) (by omega) (by omega) (hn := by first | decide | omega) ?_
          refine st_iinc (L' := [_, _, _]) dX11_readsPerson_56 rfl (by decide) rfl rfl ?_
          refine st_goto (tgt := 28) dX11_readsPerson_59 rfl ?_
          have hE2 : Exc [112, 125, 127, 128, 129] V1 (q_up (q_up V1 112 21 (B2 1 2)) 128 (6 * q + k) v2) := (Exc.up (by simp)).tr (Exc.up (by simp))
          have e13 : q_up B2 14 (6 * q + k) v2 10 13 = B1 10 13 := by rw [q_up_ne (by decide), k1 10 (by simp)]
          have ih2 := ih (k + 1) (q_up B2 14 (6 * q + k) v2) (q_up (q_up V1 112 21 (B2 1 2)) 128 (6 * q + k) v2) p2 (by omega) (k2.exc (Exc.up (L := [14]) (by simp)) (by simp)) ((hT2.upB k2).exc (Exc.up (L := [128]) (by simp)) (by simp)) (((htb.exc (Exc.up (L := [112]) (by simp)) (by simp)).exc (Exc.up (L := [128]) (by simp)) (by simp)).excB ((k1.sub (L' := [1, 14]) (by simp)).tr (Exc.up (by simp))) (by simp)) (hE.tr hE2) (hfx.tr ((fx.up (by simp)).tr (fx.up (by simp)))) (by rw [q_up_ne (by decide), q_up_ne (by decide), e5]) (by rw [e13, q_up_ne (by decide), k1 10 (by simp), ← f10]) (by rw [q_up_ne (by decide), k1 11 (by simp), f11]) (by rw [q_up_ne (by decide), k1 12 (by simp), f12]) (by rw [q_up_ne (by decide), k1 13 (by simp), f13]) (by rw [e13, q_up_ne (by decide), q_up_ne (by decide)]; exact g1) (by rw [e13]; exact g2) (by
              intro a ha
              rw [q_up_ne (by decide), q_up_ne (by decide), q_upR, q_upR, q_up_ne (by decide), k1 14 (by simp)]
              refine ⟨(g3 a ha).1, fun h hh' => ?_⟩
              simp only [upR]
              rw [if_neg (by omega), if_neg (by omega)]
              exact (g3 a ha).2 h hh') (by
              intro h hh'
              rw [q_upR, q_upR, q_up_ne (by decide), k1 14 (by simp)]
              simp only [upR]
              by_cases e : h = k
              · rw [if_pos (by omega), if_pos (by omega)]
              · rw [if_neg (by omega), if_neg (by omega)]
                exact g4' h (by omega))
          refine AW.to ih2 (h2 := by simp) (h4 := ?_)
          rw [show ((6 : Int) * (q : Int) + (k : Int)).toNat = 6 * q + k by omega]
        · rw [hr]
          first | refine st_iastK (k' := _) dX11_readsPerson_55 (by first | with_reducible assumption | rfl) rfl (by omega) (hn := by first | decide | omega) ?_ | refine st_iast dX11_readsPerson_55 (by first | with_reducible assumption | rfl) (by omega) (by omega) (hn := by first | decide | omega) ?_
          refine st_iinc (L' := [_, _, _]) dX11_readsPerson_56 rfl (by decide) rfl rfl ?_
          refine st_goto (tgt := 28) dX11_readsPerson_59 rfl ?_
          refine AW.to (errQ (k + 1) (q_up V2 128 ((6 : Int) * (q : Int) + (k : Int)).toNat z) F _ (by omega) (k3.exc (Exc.up (L := [128]) (by simp)) (by simp)) ((hE.tr (k1.sub (by simp))).tr (Exc.up (by simp))) ((hfx.tr k2).tr (fx.up (by simp))) (by rw [q_up_ne (by decide), k1 125 (by simp), e5]) rfl) (h2 := by simp)
  unfold hRest
  rw [if_neg (by decide), if_neg (by decide), if_pos rfl]
  refine AC.of (L0 := [_, none, none]) pn_X11 (Nat.le_of_ble_eq_true rfl) rfl ?_
  refine st_aload_n dX11_readsPerson_0 rfl ?_
  refine st_getfr dX11_readsPerson_1 f_X11_46 (by first | with_reducible assumption | rfl) (by rfl) ?_
  refine st_iconst dX11_readsPerson_4 ?_
  refine st_ialdK (k' := 3) dX11_readsPerson_5 (by first | with_reducible assumption | rfl) rfl (by omega) (hn := by first | decide | omega) ?_
  rw [u3, hq]
  refine st_istore_n (L' := [_, _, _]) dX11_readsPerson_6 (by decide) rfl rfl ?_
  refine st_aload_n dX11_readsPerson_7 rfl ?_
  refine st_getfr dX11_readsPerson_8 f_X11_52 (by first | with_reducible assumption | rfl) (by rfl) ?_
  refine st_iload_n dX11_readsPerson_11 rfl ?_
  refine st_aload_n dX11_readsPerson_12 rfl ?_
  refine st_iconst dX11_readsPerson_13 ?_
  refine st_aload_n dX11_readsPerson_14 rfl ?_
  refine st_getfr dX11_readsPerson_15 f_X11_46 (by first | with_reducible assumption | rfl) (by rfl) ?_
  refine st_iconst dX11_readsPerson_18 ?_
  refine st_ialdK (k' := 0) dX11_readsPerson_19 (by first | with_reducible assumption | rfl) rfl (by omega) (hn := by first | decide | omega) ?_
  rw [u0]
  refine st_iconst dX11_readsPerson_20 ?_
  refine st_isub dX11_readsPerson_21 ?_
  refine c_V2i (d' := d - 1) dX11_readsPerson_22 l_X11_324 k_X11_amount i_X11_amount (Or.inl ⟨_, _, _, _, _, (by first | with_reducible assumption | rfl), by rfl⟩) (by omega) (Nat.le_of_ble_eq_true rfl) (C_ram (by omega) hB hV ht (by unfold i32; omega) (by unfold i32; omega)) (fun x V2 N2 hx => ?_)
  obtain ⟨rfl, hx⟩ := hx
  rcases hx with ⟨v2, B2, hr, rfl, rfl⟩ | ⟨F, z, hr, rfl, hz, k1, k2, k3⟩
  · obtain ⟨k1, ⟨p2, k2⟩, k3, -⟩ := rd_ok hB hr
    rw [hr, hh, Int.toNat_natCast, Int.toNat_natCast]
    dsimp only
    first | refine st_iastK (k' := _) dX11_readsPerson_25 (by first | with_reducible assumption | rfl) rfl (by omega) (hn := by first | decide | omega) ?_ | refine st_iast dX11_readsPerson_25 (by first | with_reducible assumption | rfl) (by omega) (by omega) (hn := by first | decide | omega) ?_
    refine st_iconst dX11_readsPerson_26 ?_
    refine st_istore_n (L' := [_, _, _]) dX11_readsPerson_27 (by decide) rfl rfl ?_
    have e10 : B2 10 = B 10 := k1 10 (by simp)
    have hw := fun j => g4_w4 (s := B 10 13) (v := v2) (k := q) (j := j) (by omega) (by omega) (by omega)
    have eB13 : q_up B2 10 13 (w4 (B 10 13) q v2) 10 13 = w4 (B 10 13) q v2 := by simp [q_up]
    have := lp hs 0 (q_up B2 10 13 (w4 (B 10 13) q v2)) (q_up (q_up V 112 21 (B2 1 2)) 127 q v2) p2 (by omega) (k2.exc (Exc.up (L := [10]) (by simp)) (by simp)) ((hV.upB k2).exc (Exc.up (L := [127]) (by simp)) (by simp)) (((ht.exc (Exc.up (L := [112]) (by simp)) (by simp)).exc (Exc.up (L := [127]) (by simp)) (by simp)).excB ((k1.sub (L' := [1, 10]) (by simp)).tr (Exc.up (by simp))) (by simp)) ((Exc.up (by simp)).tr (Exc.up (by simp))) ((fx.up (by simp)).tr (fx.up (by simp))) (by rw [q_up_ne (by decide), q_up_ne (by decide)]) (by rw [eB13, q_upR, e10]) (by rw [q_up_ne (by decide), k1 11 (by simp)]) (by rw [q_up_ne (by decide), k1 12 (by simp)]) (by rw [q_up_ne (by decide), k1 13 (by simp)]) (by
        intro j hj
        rw [eB13, hw, q_upR, q_up_ne (by decide)]
        simp only [upR]
        by_cases e : j = q
        · rw [if_pos e, if_pos e]
        · rw [if_neg e, if_neg e]
          exact (uq j (by omega)).1) (by
        intro t ht'
        rw [eB13, hw, if_neg (by omega)]
        exact (ut t ht').1) (by
        intro a ha
        rw [q_up_ne (by decide), q_up_ne (by decide), q_up_ne (by decide), q_up_ne (by decide), q_up_ne (by decide), k1 14 (by simp)]
        have := uq a (by omega)
        rw [hh, Int.toNat_natCast] at this
        exact this.2) (by
        intro h hh'
        omega)
    rw [hq] at this
    exact AW.to this
  · rw [hr]
    first | refine st_iastK (k' := _) dX11_readsPerson_25 (by first | with_reducible assumption | rfl) rfl (by omega) (hn := by first | decide | omega) ?_ | refine st_iast dX11_readsPerson_25 (by first | with_reducible assumption | rfl) (by omega) (by omega) (hn := by first | decide | omega) ?_
    refine st_iconst dX11_readsPerson_26 ?_
    refine st_istore_n (L' := [_, _, _]) dX11_readsPerson_27 (by decide) rfl rfl ?_
    exact AW.to (errQ 0 (q_up V2 127 q z) F _ (by omega) (k3.exc (Exc.up (L := [127]) (by simp)) (by simp)) ((k1.sub (by simp)).tr (Exc.up (by simp))) (k2.tr (fx.up (by simp))) (by rw [q_up_ne (by decide), k1 125 (by simp)]) rfl)


/-! the system reads a rule: clauses, all of it -/
abbrev CL : Type := Int × Nat × Nat × Nat
def wsK : List (List Int) := [chL 13, chL 12]
theorem wsK_jn : chL 1 = jnW wsK := by decide +kernel
theorem ch3 : chL 3 = jnW [chL 24] := by decide +kernel
theorem ch24 : chL 24 = [105, 102] := by decide +kernel
/-- a clause of a rule -/
def clP (f : Nat → Int) (n k p c : Nat) (E : List Int) : Except Int (Nat × Nat × List Int × CL) :=
  if findW f n (skip f n p) wsK 0 = -1 then .error (1 + 8 * (skip f n p : Nat))
  else if 12 ≤ k then .error (1 + 8 * (skip f n p : Nat) + 4)
  else match sumP f n (skip f n p + lets f n (skip f n p)) c E with
    | .error F => .error F
    | .ok (p1, c1, E1) =>
      if isWd f n (skip f n p1) (chL 24) = true then (match tstP f n 401 true (skip f n p1 + 2) c1 [] E1 with
        | .error F => .error F
        | .ok (p2, c2, E2) => .ok (p2, c2, E2, (findW f n (skip f n p) wsK 0, E.length, E1.length, E2.length)))
      else .ok (skip f n p1, c1, E1, (findW f n (skip f n p) wsK 0, E.length, E1.length, E1.length))
def ruP (f : Nat → Int) (n : Nat) : Nat → Nat → Nat → List Int → List CL → Except Int (List Int × List CL)
  | 0, _, _, _, _ => .error 1
  | m + 1, p, c, E, L => match clP f n L.length p c E with
    | .error F => .error F
    | .ok (p1, c1, E1, l) =>
      if bytA f n (skip f n p1 : Nat) = 59 then ruP f n m (skip f n p1 + 1) c1 E1 (L ++ [l])
      else if bytA f n (skip f n p1 : Nat) = -1 then .ok (E1, L ++ [l])
      else .error (1 + 8 * (skip f n p1 : Nat))
theorem ruP_s {f : Nat → Int} {n m p c : Nat} {E : List Int} {L : List CL} : ruP f n (m + 1) p c E L = match clP f n L.length p c E with
    | .error F => .error F
    | .ok (p1, c1, E1, l) =>
      if bytA f n (skip f n p1 : Nat) = 59 then ruP f n m (skip f n p1 + 1) c1 E1 (L ++ [l])
      else if bytA f n (skip f n p1 : Nat) = -1 then .ok (E1, L ++ [l])
      else .error (1 + 8 * (skip f n p1 : Nat)) := rfl
abbrev cl0 : CL := (0, 0, 0, 0)
def KR (o : Nat) (M : q_Mem) (L : List CL) : Prop := M o 6 = (L.length : Int) ∧ ∀ j, j < L.length → M (o + 2) j = (L.getD j cl0).1 ∧ M (o + 3) j = ((L.getD j cl0).2.1 : Nat) ∧ M (o + 4) j = ((L.getD j cl0).2.2.1 : Nat) ∧ M (o + 5) j = ((L.getD j cl0).2.2.2 : Nat)
theorem KR.push {o : Nat} {M M1 : q_Mem} {L : List CL} {l : CL} (h : KR o M L) (h6 : M1 o 6 = ((L.length + 1 : Nat) : Int)) (h2 : M1 (o + 2) = upR (M (o + 2)) L.length l.1) (h3 : M1 (o + 3) = upR (M (o + 3)) L.length (l.2.1 : Nat)) (h4 : M1 (o + 4) = upR (M (o + 4)) L.length (l.2.2.1 : Nat)) (h5 : M1 (o + 5) = upR (M (o + 5)) L.length (l.2.2.2 : Nat)) : KR o M1 (L ++ [l]) := by
  refine ⟨by simp [h6], fun j hj => ?_⟩
  rw [List.length_append] at hj
  simp only [List.length_cons, List.length_nil] at hj
  rw [h2, h3, h4, h5]
  unfold upR
  by_cases e : j = L.length
  · rw [if_pos e, if_pos e, if_pos e, if_pos e, e]
    simp [List.getD_eq_getElem?_getD]
  · rw [if_neg e, if_neg e, if_neg e, if_neg e]
    have := h.2 j (by omega)
    rw [show (L ++ [l]).getD j cl0 = L.getD j cl0 by rw [List.getD_eq_getElem?_getD, List.getD_eq_getElem?_getD, List.getElem?_append_left (by omega)]]
    exact this
def rkX (o : Nat) : List Nat := [1, 84, 85, o, o + 1, o + 2, o + 3, o + 4, o + 5]
theorem SF.rk {o : Nat} {M M1 : q_Mem} (h : SF o M M1) : Exc (rkX o) M M1 := h.1.sub (fun a ha => by
  unfold rkX
  simp at ha ⊢
  omega)
theorem Exc.rk {o a i : Nat} {M : q_Mem} {z : Int} (h : o ≤ a ∧ a ≤ o + 5) : Exc (rkX o) M (q_up M a i z) := Exc.up (by
  unfold rkX
  simp
  omega)
theorem SR.ne {o c a i : Nat} {W E : List Int} {M : q_Mem} {z : Int} (h : SR o c W E M) (ha : ¬ a = 84 ∧ ¬ a = 85 ∧ ¬ a = o ∧ ¬ a = o + 1) : SR o c W E (q_up M a i z) := h.exc (Exc.up (L := [a]) (by simp)) (by simp; omega)
theorem SR.o6 {o c i : Nat} {W E : List Int} {M : q_Mem} {z : Int} (ho : isRu o) (h : SR o c W E M) (hi : ¬ i = 1) : SR o c W E (q_up M o i z) := by
  unfold isRu at ho
  obtain ⟨a, b, e⟩ := h
  refine ⟨?_, ?_, ?_⟩
  · rw [q_up_ne (by omega), q_up_ne (by omega)]
    exact a
  · simp only [q_up]
    rw [if_neg (by omega)]
    exact b
  · rw [q_up_ne (by omega)]
    exact e
theorem C_readClause {G : q_G} {d : Nat} {M : q_Mem} {N : q_MemL} {o n p c : Nat} {E : List Int} {L : List CL} (hd : 8 ≤ d) (ho : isRu o) (hT : TP M n p) (h : SR o c [] E M) (hV : VW M) (hL : KR o M L) (hk : L.length ≤ 12) (hc : c ≤ 60) (hE : E.length ≤ 2 * c + p / 3) : AC0 G d m_X7_readClause [.ref 84, .ref o] M N (CN (fun M1 N1 => N1 = N ∧ VW M1 ∧ Exc (rkX o) M M1 ∧ ((∃ p1 c1 E1 l, clP (M 2) n L.length p c E = .ok (p1, c1, E1, l) ∧ TP M1 n p1 ∧ SR o c1 [] E1 M1 ∧ KR o M1 (L ++ [l])) ∨ ∃ F, clP (M 2) n L.length p c E = .error F ∧ TE M1 n F))) := by
  have ho2 := ho
  unfold isRu at ho2
  have hn4 := hT.2.1
  have hpn := hT.2.2.2.1
  have hS := sh_ru ho
  have hSk2 := sh_ruk (k := 2) ho (by omega)
  have hSk3 := sh_ruk (k := 3) ho (by omega)
  have hSk4 := sh_ruk (k := 4) ho (by omega)
  have hSk5 := sh_ruk (k := 5) ho (by omega)
  have hs := skip_le (M 2) n p
  have hqn := hs.2.1 hpn
  have hss := skip_skip (M 2) n p
  unfold clP
  refine AC.of (L0 := [_, _, none, none]) pn_X7 (Nat.le_of_ble_eq_true rfl) rfl ?_
  refine st_aload_n dX7_readClause_0 rfl ?_
  refine st_getfr dX7_readClause_1 f_X7_15 (by first | with_reducible assumption | rfl) (by rfl) ?_
  refine c_V0i (d' := d - 1) dX7_readClause_4 l_X7_56 k_X8_peek i_X8_peek (Or.inl ⟨_, _, _, _, _, (by first | with_reducible assumption | rfl), by rfl⟩) (by omega) (Nat.le_of_ble_eq_true rfl) (C_peekT (by omega) hT) (fun x M2 N2 hx => ?_)
  obtain ⟨rfl, rfl, hM2, T2⟩ := hx
  have x2 : Exc [1] M M2 := by rw [hM2]; exact Exc.up (by simp)
  have hpq := hs.1
  generalize skip (M 2) n p = q at *
  have f2 : SF o M M2 := x2.sf ho (by simp)
  have r2 : M2 2 = M 2 := f2.row2 ho
  refine st_pop dX7_readClause_7 rfl ?_
  refine st_aload_n dX7_readClause_8 rfl ?_
  refine st_getfr dX7_readClause_9 f_X7_15 (by first | with_reducible assumption | rfl) (by rfl) ?_
  refine st_getfi dX7_readClause_12 f_X7_60 (by first | with_reducible assumption | rfl) (by rfl) ?_
  rw [T2.2.2.1]
  refine st_istore_n (L' := [_, _, _, _]) dX7_readClause_15 (by decide) rfl rfl ?_
  refine st_aload_n dX7_readClause_16 rfl ?_
  refine st_getfr dX7_readClause_17 f_X7_15 (by first | with_reducible assumption | rfl) (by rfl) ?_
  refine st_ldcS (i := 1) dX7_readClause_20 rfl ?_
  refine c_V1i (d' := d - 1) dX7_readClause_22 l_X7_65 k_X8_readWord i_X8_readWord (Or.inl ⟨_, _, _, _, _, (by first | with_reducible assumption | rfl), by rfl⟩) (by omega) (Nat.le_of_ble_eq_true rfl) (C_readWord (i := 1) (ws := wsK) (by omega) (by decide) wsK_jn (by simp [wsK]) (by decide +kernel) T2.1 T2.2.1 T2.2.2.1 (by omega)) (fun x M3 N3 hx => ?_)
  obtain ⟨rfl, rfl, hM3⟩ := hx
  rw [r2, hss] at hM3
  rw [r2, hss]
  have hfr := findW_rng (M 2) n q wsK 0 (by omega)
  rw [show wsK.length = 2 from rfl] at hfr
  have hlt := lets_le (M 2) n q
  generalize findW (M 2) n q wsK 0 = w at *
  have x3 : Exc [1] M M3 := x2.tr (by rw [hM3]; exact Exc.up (by simp))
  have S3 : SR o c [] E M3 := h.exc1 ho x3
  have V3 : VW M3 := hV.exc x3 (by simp)
  have f3 : SF o M M3 := x3.sf ho (by simp)
  have r3 := f3.row2 ho
  have m6 : M3 o 6 = (L.length : Int) := by rw [f3.2 6 (by omega)]; exact hL.1
  have hm1 : M3 o 1 = (E.length : Int) := S3.2.1
  refine st_istore_n (L' := [_, _, _, _]) dX7_readClause_25 (by decide) rfl rfl ?_
  refine st_iload_n dX7_readClause_26 rfl ?_
  refine st_iconst dX7_readClause_27 ?_
  refine st_icmp_ne (tgt := 41) dX7_readClause_28 (by omega) (by omega) rfl (fun c1 => ?_) (fun c1 => ?_)
  · refine st_aload_n dX7_readClause_41 rfl ?_
    refine st_getfi dX7_readClause_42 f_X7_30 (by first | with_reducible assumption | rfl) (by rfl) ?_
    rw [if_neg c1] at hM3
    rw [if_neg c1]
    have T3 : TP M3 n (q + lets (M 2) n q) := by rw [hM3]; exact T2.up (by omega)
    rw [m6]
    refine st_bipush dX7_readClause_45 (by decide) ?_
    refine st_icmp_lt (tgt := 60) dX7_readClause_47 (by omega) (by omega) rfl (fun c2 => ?_) (fun c2 => ?_)
    · skip
      rw [if_neg (by omega)]
      refine st_aload_n dX7_readClause_60 rfl ?_
      refine st_getfr dX7_readClause_61 f_X7_73 (by first | with_reducible assumption | rfl) (by rfl) ?_
      refine st_aload_n dX7_readClause_64 rfl ?_
      refine st_getfi dX7_readClause_65 f_X7_30 (by first | with_reducible assumption | rfl) (by rfl) ?_
      rw [m6]
      refine st_iload_n dX7_readClause_68 rfl ?_
      refine c_S3v (d' := d - 1) dX7_readClause_69 l_X7_76 k_X10_put s_X10_put (by omega) (Nat.le_of_ble_eq_true rfl) (C_put (n := 12) hSk2 (by omega) (by omega)) (fun M4 N4 hx => ?_)
      obtain ⟨rfl, hM4⟩ := hx
      rw [if_pos (by omega), Int.toNat_natCast] at hM4
      have e46 : M4 o = M3 o := by rw [hM4]; exact q_up_ne (by omega)
      refine st_aload_n dX7_readClause_72 rfl ?_
      refine st_getfr dX7_readClause_73 f_X7_80 (by first | with_reducible assumption | rfl) (by rfl) ?_
      refine st_aload_n dX7_readClause_76 rfl ?_
      refine st_getfi dX7_readClause_77 f_X7_30 (by first | with_reducible assumption | rfl) (by rfl) ?_
      rw [e46, m6]
      refine st_aload_n dX7_readClause_80 rfl ?_
      refine st_getfi dX7_readClause_81 f_X7_24 (by first | with_reducible assumption | rfl) (by rfl) ?_
      rw [e46, hm1]
      refine c_S3v (d' := d - 1) dX7_readClause_84 l_X7_76 k_X10_put s_X10_put (by omega) (Nat.le_of_ble_eq_true rfl) (C_put (n := 12) hSk3 (by omega) (by omega)) (fun M5 N5 hx => ?_)
      obtain ⟨rfl, hM5⟩ := hx
      rw [if_pos (by omega), Int.toNat_natCast] at hM5
      have T5 : TP M5 n (q + lets (M 2) n q) := by rw [hM5, hM4]; exact (T3.ne (by omega)).ne (by omega)
      have S5 : SR o c [] E M5 := by rw [hM5, hM4]; exact (S3.ne (by omega)).ne (by omega)
      have V5 : VW M5 := by rw [hM5, hM4]; exact (V3.up (by omega)).up (by omega)
      have e5 : Exc (rkX o) M M5 := f3.rk.tr (by rw [hM5, hM4]; exact (Exc.rk (by omega)).tr (Exc.rk (by omega)))
      have r5 : M5 2 = M 2 := by rw [hM5, hM4, q_up_ne (by omega), q_up_ne (by omega)]; exact r3
      have a2 : M5 (o + 2) = upR (M (o + 2)) L.length w := by
        rw [hM5, q_up_ne (by omega), hM4, q_upR, f3.1 (o + 2) (by simp; omega)]
      have a3 : M5 (o + 3) = upR (M (o + 3)) L.length (E.length : Nat) := by
        rw [hM5, q_upR, hM4, q_up_ne (by omega), f3.1 (o + 3) (by simp; omega)]
      have a4 : M5 (o + 4) = M (o + 4) := by
        rw [hM5, q_up_ne (by omega), hM4, q_up_ne (by omega), f3.1 (o + 4) (by simp; omega)]
      have a5 : M5 (o + 5) = M (o + 5) := by
        rw [hM5, q_up_ne (by omega), hM4, q_up_ne (by omega), f3.1 (o + 5) (by simp; omega)]
      have a6 : M5 o 6 = (L.length : Int) := by rw [hM5, q_up_ne (by omega), e46]; exact m6
      refine st_aload_n dX7_readClause_87 rfl ?_
      refine st_aload_n dX7_readClause_88 rfl ?_
      refine c_V1v (d' := d - 1) dX7_readClause_89 l_X7_83 k_X7_readSum i_X7_readSum (Or.inl ⟨_, _, _, _, _, (by first | with_reducible assumption | rfl), by rfl⟩) (by omega) (Nat.le_of_ble_eq_true rfl) (C_readSum (by omega) ho T5 S5 V5 hc (fun y hy => by cases hy) (fun x hx => by cases hx) (by simp) (by omega)) (fun M6 N6 hx => ?_)
      obtain ⟨rfl, ⟨V6, f56⟩, hx⟩ := hx
      have r6 : M6 2 = M 2 := (f56.row2 ho).trans r5
      have e6 := e5.tr f56.rk
      have b6 : M6 o 6 = (L.length : Int) := by rw [f56.2 6 (by omega)]; exact a6
      have g2 : ∀ a, a = o + 2 ∨ a = o + 3 ∨ a = o + 4 ∨ a = o + 5 → M6 a = M5 a := fun a ha => f56.1 a (by simp; omega)
      rw [r5] at hx
      rcases hx with ⟨p1, c1', E1, k1, T6, S6⟩ | ⟨F, k1, T6, S6⟩
      · rw [k1]
        dsimp only
        obtain ⟨⟨b1, b2, b3, b4, b5⟩, sa, b7, b8, b9⟩ := sumP_ok (by omega) hc k1
        have hEa : E1.length = E.length + sa.length := by rw [b7, List.length_append]
        -- behind the test
        have fin : ∀ (M9 : q_Mem) (p2 c2 : Nat) (E2 : List Int) (x3 : Option Value), TP M9 n p2 → SR o c2 [] E2 M9 → VW M9 → SF o (q_up M6 (o + 4) L.length (E1.length : Nat)) M9 → AW0 G d m_X7_readClause 135 [some (.ref 84), some (.ref o), some (I q), x3] [] M9 N6 (CN (fun M1 N1 => N1 = N6 ∧ VW M1 ∧ Exc (rkX o) M M1 ∧ ((∃ p1 c1 E1' l, (.ok (p2, c2, E2, (w, E.length, E1.length, E2.length)) : Except Int (Nat × Nat × List Int × CL)) = .ok (p1, c1, E1', l) ∧ TP M1 n p1 ∧ SR o c1 [] E1' M1 ∧ KR o M1 (L ++ [l])) ∨ ∃ F, (.ok (p2, c2, E2, (w, E.length, E1.length, E2.length)) : Except Int (Nat × Nat × List Int × CL)) = .error F ∧ TE M1 n F))) := by
          intro M9 p2 c2 E2 x3 T9 S9 V9 f9
          have z6 : M9 o 6 = (L.length : Int) := by
            rw [f9.2 6 (by omega), q_up_ne (by omega)]
            exact b6
          have z1 : M9 o 1 = (E2.length : Int) := S9.2.1
          refine st_aload_n dX7_readClause_135 rfl ?_
          refine st_getfr dX7_readClause_136 f_X7_97 (by first | with_reducible assumption | rfl) (by rfl) ?_
          refine st_aload_n dX7_readClause_139 rfl ?_
          refine st_getfi dX7_readClause_140 f_X7_30 (by first | with_reducible assumption | rfl) (by rfl) ?_
          rw [z6]
          refine st_aload_n dX7_readClause_143 rfl ?_
          refine st_getfi dX7_readClause_144 f_X7_24 (by first | with_reducible assumption | rfl) (by rfl) ?_
          rw [z1]
          refine c_S3v (d' := d - 1) dX7_readClause_147 l_X7_76 k_X10_put s_X10_put (by omega) (Nat.le_of_ble_eq_true rfl) (C_put (n := 12) hSk5 (by omega) (by omega)) (fun M10 N10 hx => ?_)
          obtain ⟨rfl, hM10⟩ := hx
          rw [if_pos (by omega), Int.toNat_natCast] at hM10
          have eo : M10 o = M9 o := by rw [hM10]; exact q_up_ne (by omega)
          refine st_aload_n dX7_readClause_150 rfl ?_
          refine st_dup dX7_readClause_151 rfl ?_
          refine st_getfi dX7_readClause_152 f_X7_30 (by first | with_reducible assumption | rfl) (by rfl) ?_
          rw [eo, z6]
          refine st_iconst dX7_readClause_155 ?_
          refine st_iadd dX7_readClause_156 ?_
          refine st_putfi dX7_readClause_157 w_X7_30 (by first | with_reducible assumption | rfl) (by rfl) rfl rfl ?_
          have h9 : ∀ a, a = o + 2 ∨ a = o + 3 ∨ a = o + 4 ∨ a = o + 5 → M9 a = q_up M6 (o + 4) L.length (E1.length : Nat) a := fun a ha => f9.1 a (by simp; omega)
          refine r_v dX7_readClause_160 rfl ⟨rfl, ?_, ?_, Or.inl ⟨_, _, _, _, rfl, ?_, ?_, ?_⟩⟩
          · rw [hM10]
            exact (V9.up (by omega)).up (by omega)
          · refine e6.tr (((Exc.rk (by omega)).tr f9.rk).tr ?_)
            rw [hM10]
            exact (Exc.rk (by omega)).tr (Exc.rk (by omega))
          · rw [hM10]
            exact (T9.ne (by omega)).ne (by omega)
          · rw [hM10]
            exact (S9.ne (by omega)).o6 ho (by omega)
          · refine hL.push (by simp [q_up]) ?_ ?_ ?_ ?_
            · rw [q_up_ne (by omega), hM10, q_up_ne (by omega), h9 _ (by omega), q_up_ne (by omega), g2 _ (by omega), a2]
            · rw [q_up_ne (by omega), hM10, q_up_ne (by omega), h9 _ (by omega), q_up_ne (by omega), g2 _ (by omega), a3]
            · rw [q_up_ne (by omega), hM10, q_up_ne (by omega), h9 _ (by omega), q_upR, g2 _ (by omega), a4]
            · rw [q_up_ne (by omega), hM10, q_upR, h9 _ (by omega), q_up_ne (by omega), g2 _ (by omega), a5]
        refine st_aload_n dX7_readClause_92 rfl ?_
        refine st_getfr dX7_readClause_93 f_X7_86 (by first | with_reducible assumption | rfl) (by rfl) ?_
        refine st_aload_n dX7_readClause_96 rfl ?_
        refine st_getfi dX7_readClause_97 f_X7_30 (by first | with_reducible assumption | rfl) (by rfl) ?_
        rw [b6]
        refine st_aload_n dX7_readClause_100 rfl ?_
        refine st_getfi dX7_readClause_101 f_X7_24 (by first | with_reducible assumption | rfl) (by rfl) ?_
        rw [S6.2.1]
        refine c_S3v (d' := d - 1) dX7_readClause_104 l_X7_76 k_X10_put s_X10_put (by omega) (Nat.le_of_ble_eq_true rfl) (C_put (n := 12) hSk4 (by omega) (by omega)) (fun M7 N7 hx => ?_)
        obtain ⟨rfl, hM7⟩ := hx
        rw [if_pos (by omega), Int.toNat_natCast] at hM7
        have T7 : TP M7 n p1 := by rw [hM7]; exact T6.ne (by omega)
        have S7 : SR o c1' [] E1 M7 := by rw [hM7]; exact S6.ne (by omega)
        have V7 : VW M7 := by rw [hM7]; exact V6.up (by omega)
        have r7 : M7 2 = M 2 := by rw [hM7, q_up_ne (by omega)]; exact r6
        refine st_aload_n dX7_readClause_107 rfl ?_
        refine st_getfr dX7_readClause_108 f_X7_15 (by first | with_reducible assumption | rfl) (by rfl) ?_
        refine c_V0p (d' := d - 1) dX7_readClause_111 l_X7_89 k_X8_failed i_X8_failed (Or.inl ⟨_, _, _, _, _, (by first | with_reducible assumption | rfl), by rfl⟩) (by omega) (Nat.le_of_ble_eq_true rfl) (C_failed (by rw [T7.2.2.2.2]; unfold i32; omega)) ?_
        refine b_ne (tgt := 135) dX7_readClause_114 rfl (fun c3 => ?_) (fun c3 => ?_)
        · skip
          exact absurd T7.2.2.2.2 c3
        · refine st_aload_n dX7_readClause_117 rfl ?_
          refine st_getfr dX7_readClause_118 f_X7_15 (by first | with_reducible assumption | rfl) (by rfl) ?_
          refine st_ldcS (i := 3) dX7_readClause_121 rfl ?_
          refine c_V1i (d' := d - 1) dX7_readClause_123 l_X7_65 k_X8_readWord i_X8_readWord (Or.inl ⟨_, _, _, _, _, (by first | with_reducible assumption | rfl), by rfl⟩) (by omega) (Nat.le_of_ble_eq_true rfl) (C_readWord (i := 3) (ws := [chL 24]) (by omega) (by decide) ch3 (by simp) (by decide +kernel) T7.1 T7.2.1 T7.2.2.1 (by have := T7.2.2.2.1; omega)) (fun x M8 N8 hx => ?_)
          obtain ⟨rfl, rfl, hM8⟩ := hx
          rw [r7, b5, findW1] at hM8
          rw [r7, b5, findW1]
          have x8 : Exc [1] M7 M8 := by rw [hM8]; exact Exc.up (by simp)
          have S8 : SR o c1' [] E1 M8 := S7.exc1 ho x8
          have V8 : VW M8 := V7.exc x8 (by simp)
          have f8 : SF o (q_up M6 (o + 4) L.length (E1.length : Nat)) M8 := by rw [← hM7]; exact x8.sf ho (by simp)
          refine st_iconst dX7_readClause_126 ?_
          by_cases hif : isWd (M 2) n p1 (chL 24) = true
          · rw [if_pos hif] at hM8
            rw [if_pos hif]
            rw [if_pos hif]
            have hwl := wd_len hif
            rw [ch24] at hwl
            simp at hwl
            rw [if_neg (by decide), hwl.2] at hM8
            have T8 : TP M8 n (p1 + 2) := by rw [hM8]; exact T7.up (by omega)
            have r8 : M8 2 = M 2 := by rw [x8 2 (by simp)]; exact r7
            refine st_icmp_eq (tgt := 135) dX7_readClause_127 (by omega) (by omega) rfl (fun c4 => ?_) (fun c4 => ?_)
            · skip
              exact absurd c4 (by decide)
            · refine st_aload_n dX7_readClause_130 rfl ?_
              refine st_aload_n dX7_readClause_131 rfl ?_
              have hI : TI n 0 (p1 + 2) c1' [] E1 E1 := ⟨trivial, by decide, T8.2.2.2.1, b4, ⟨[], by simp, rfl⟩, by simp [jK], by simp [nbK]; omega⟩
              refine c_V1v (d' := d - 1) dX7_readClause_132 l_X7_94 k_X7_readTest i_X7_readTest (Or.inl ⟨_, _, _, _, _, (by first | with_reducible assumption | rfl), by rfl⟩) (by omega) (Nat.le_of_ble_eq_true rfl) (C_readTest (by omega) ho T8 S8 V8 hI) (fun M9 N9 hx => ?_)
              obtain ⟨rfl, ⟨V9, f9⟩, hx⟩ := hx
              rw [r8] at hx
              rcases hx with ⟨p2, c2, E2, l1, T9, S9⟩ | ⟨F, l1, T9, S9⟩
              · rw [l1]
                dsimp only
                exact fin M9 p2 c2 E2 _ T9 S9 V9 (f8.tr f9)
              · rw [l1]
                have z6 : 0 ≤ M9 o 6 ∧ M9 o 6 ≤ 12 := by
                  rw [(f8.tr f9).2 6 (by omega), q_up_ne (by omega)]
                  omega
                have z1 := S9.2.2.2.2
                refine st_aload_n dX7_readClause_135 rfl ?_
                refine st_getfr dX7_readClause_136 f_X7_97 (by first | with_reducible assumption | rfl) (by rfl) ?_
                refine st_aload_n dX7_readClause_139 rfl ?_
                refine st_getfi dX7_readClause_140 f_X7_30 (by first | with_reducible assumption | rfl) (by rfl) ?_
                refine st_aload_n dX7_readClause_143 rfl ?_
                refine st_getfi dX7_readClause_144 f_X7_24 (by first | with_reducible assumption | rfl) (by rfl) ?_
                refine c_S3v (d' := d - 1) dX7_readClause_147 l_X7_76 k_X10_put s_X10_put (by omega) (Nat.le_of_ble_eq_true rfl) (C_put (n := 12) hSk5 (by omega) (by omega)) (fun M10 N10 hx => ?_)
                obtain ⟨rfl, hM10⟩ := hx
                have x10 : Exc [o + 5] M9 M10 := by
                  rw [hM10]
                  split
                  · exact Exc.up (by simp)
                  · exact Exc.rf
                have T10 : TE M10 n F := T9.exc x10 (by simp)
                have eo : M10 o = M9 o := x10 o (by simp)
                refine st_aload_n dX7_readClause_150 rfl ?_
                refine st_dup dX7_readClause_151 rfl ?_
                refine st_getfi dX7_readClause_152 f_X7_30 (by first | with_reducible assumption | rfl) (by rfl) ?_
                rw [eo]
                refine st_iconst dX7_readClause_155 ?_
                refine st_iadd dX7_readClause_156 ?_
                refine st_putfi dX7_readClause_157 w_X7_30 (by first | with_reducible assumption | rfl) (by rfl) rfl rfl ?_
                refine r_v dX7_readClause_160 rfl ⟨rfl, (V9.exc x10 (by simp; omega)).up (by omega), ?_, Or.inr ⟨F, rfl, T10.ne (by omega)⟩⟩
                exact e6.tr (((Exc.rk (by omega)).tr (f8.tr f9).rk).tr ((x10.sub (by simp [rkX])).tr (Exc.rk (by omega))))
          · rw [if_neg hif] at hM8
            rw [if_neg hif]
            rw [if_neg hif]
            rw [if_pos rfl] at hM8
            have T8 : TP M8 n p1 := by rw [hM8]; exact T7.up T7.2.2.2.1
            refine st_icmp_eq (tgt := 135) dX7_readClause_127 (by omega) (by omega) rfl (fun c4 => ?_) (fun c4 => ?_)
            · skip
              exact fin M8 p1 c1' E1 _ T8 S8 V8 f8
            · skip
              exact absurd rfl c4
      · rw [k1]
        dsimp only
        have z1 := S6.2.2.2.2
        refine st_aload_n dX7_readClause_92 rfl ?_
        refine st_getfr dX7_readClause_93 f_X7_86 (by first | with_reducible assumption | rfl) (by rfl) ?_
        refine st_aload_n dX7_readClause_96 rfl ?_
        refine st_getfi dX7_readClause_97 f_X7_30 (by first | with_reducible assumption | rfl) (by rfl) ?_
        rw [b6]
        refine st_aload_n dX7_readClause_100 rfl ?_
        refine st_getfi dX7_readClause_101 f_X7_24 (by first | with_reducible assumption | rfl) (by rfl) ?_
        refine c_S3v (d' := d - 1) dX7_readClause_104 l_X7_76 k_X10_put s_X10_put (by omega) (Nat.le_of_ble_eq_true rfl) (C_put (n := 12) hSk4 (by omega) (by omega)) (fun M7 N7 hx => ?_)
        obtain ⟨rfl, hM7⟩ := hx
        rw [if_pos (by omega), Int.toNat_natCast] at hM7
        have T7 : TE M7 n F := by rw [hM7]; exact T6.ne (by omega)
        have V7 : VW M7 := by rw [hM7]; exact V6.up (by omega)
        have o7 : M7 o = M6 o := by rw [hM7]; exact q_up_ne (by omega)
        refine st_aload_n dX7_readClause_107 rfl ?_
        refine st_getfr dX7_readClause_108 f_X7_15 (by first | with_reducible assumption | rfl) (by rfl) ?_
        refine c_V0p (d' := d - 1) dX7_readClause_111 l_X7_89 k_X8_failed i_X8_failed (Or.inl ⟨_, _, _, _, _, (by first | with_reducible assumption | rfl), by rfl⟩) (by omega) (Nat.le_of_ble_eq_true rfl) (C_failed (by rw [T7.2.2.2.1]; unfold i32; have := T7.2.2.2.2; omega)) ?_
        refine b_ne (tgt := 135) dX7_readClause_114 rfl (fun c3 => ?_) (fun c3 => ?_)
        · refine st_aload_n dX7_readClause_135 rfl ?_
          refine st_getfr dX7_readClause_136 f_X7_97 (by first | with_reducible assumption | rfl) (by rfl) ?_
          refine st_aload_n dX7_readClause_139 rfl ?_
          refine st_getfi dX7_readClause_140 f_X7_30 (by first | with_reducible assumption | rfl) (by rfl) ?_
          rw [o7, b6]
          refine st_aload_n dX7_readClause_143 rfl ?_
          refine st_getfi dX7_readClause_144 f_X7_24 (by first | with_reducible assumption | rfl) (by rfl) ?_
          rw [o7]
          refine c_S3v (d' := d - 1) dX7_readClause_147 l_X7_76 k_X10_put s_X10_put (by omega) (Nat.le_of_ble_eq_true rfl) (C_put (n := 12) hSk5 (by omega) (by omega)) (fun M10 N10 hx => ?_)
          obtain ⟨rfl, hM10⟩ := hx
          rw [if_pos (by omega), Int.toNat_natCast] at hM10
          have eo : M10 o = M6 o := by rw [hM10, q_up_ne (by omega)]; exact o7
          refine st_aload_n dX7_readClause_150 rfl ?_
          refine st_dup dX7_readClause_151 rfl ?_
          refine st_getfi dX7_readClause_152 f_X7_30 (by first | with_reducible assumption | rfl) (by rfl) ?_
          rw [eo, b6]
          refine st_iconst dX7_readClause_155 ?_
          refine st_iadd dX7_readClause_156 ?_
          refine st_putfi dX7_readClause_157 w_X7_30 (by first | with_reducible assumption | rfl) (by rfl) rfl rfl ?_
          refine r_v dX7_readClause_160 rfl ⟨rfl, ?_, ?_, Or.inr ⟨F, rfl, ?_⟩⟩
          · rw [hM10]
            exact (V7.up (by omega)).up (by omega)
          · refine e6.tr ?_
            rw [hM10, hM7]
            exact ((Exc.rk (by omega)).tr (Exc.rk (by omega))).tr (Exc.rk (by omega))
          · rw [hM10]
            exact (T7.ne (by omega)).ne (by omega)
        · skip
          exact absurd (by rw [T7.2.2.2.1]; exact T7.2.2.2.2.1) c3
    · refine st_aload_n dX7_readClause_50 rfl ?_
      refine st_getfr dX7_readClause_51 f_X7_15 (by first | with_reducible assumption | rfl) (by rfl) ?_
      refine st_iload_n dX7_readClause_54 rfl ?_
      refine st_iconst dX7_readClause_55 ?_
      rw [if_pos (by omega)]
      refine c_V2v (d' := d - 1) dX7_readClause_56 l_X7_69 k_X8_fail i_X8_fail (Or.inl ⟨_, _, _, _, _, (by first | with_reducible assumption | rfl), by rfl⟩) (by omega) (Nat.le_of_ble_eq_true rfl) (C_failT (k := 4) T3 (by omega) (by omega)) (fun M4 N4 hx => ?_)
      obtain ⟨rfl, k1, k2⟩ := hx
      refine r_v dX7_readClause_59 rfl ⟨rfl, V3.exc k1 (by simp), f3.rk.tr (k1.sf ho (by simp)).rk, Or.inr ⟨_, rfl, k2⟩⟩
  · refine st_aload_n dX7_readClause_31 rfl ?_
    refine st_getfr dX7_readClause_32 f_X7_15 (by first | with_reducible assumption | rfl) (by rfl) ?_
    refine st_iload_n dX7_readClause_35 rfl ?_
    refine st_iconst dX7_readClause_36 ?_
    have c1' : w = -1 := by omega
    rw [if_pos c1'] at hM3
    rw [if_pos c1']
    have T3 : TP M3 n q := by rw [hM3]; exact T2.up hqn
    refine c_V2v (d' := d - 1) dX7_readClause_37 l_X7_69 k_X8_fail i_X8_fail (Or.inl ⟨_, _, _, _, _, (by first | with_reducible assumption | rfl), by rfl⟩) (by omega) (Nat.le_of_ble_eq_true rfl) (C_failT (k := 0) T3 (by omega) (by omega)) (fun M4 N4 hx => ?_)
    obtain ⟨rfl, k1, k2⟩ := hx
    refine r_v dX7_readClause_40 rfl ⟨rfl, V3.exc k1 (by simp), f3.rk.tr (k1.sf ho (by simp)).rk, Or.inr ⟨_, rfl, ?_⟩⟩
    rw [show (1 + 8 * (q : Int)) = 1 + 8 * (q : Int) + ((0 : Nat) : Int) by omega]
    exact k2


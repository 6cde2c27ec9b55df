/-! the system reads a rule: the whole of it, and what it is then -/
def LOk (E : List Int) (l : CL) : Prop := (l.1 = 0 ∨ l.1 = 1) ∧ ∃ A s1 s2 R : List Int, E = A ++ (s1 ++ (s2 ++ R)) ∧ l.2.1 = A.length ∧ l.2.2.1 = A.length + s1.length ∧ l.2.2.2 = A.length + s1.length + s2.length ∧ tyL s1 [] = some [false] ∧ (s2 = [] ∨ tyL s2 [] = some [true])
theorem LOk.app {E X : List Int} {l : CL} (h : LOk E l) : LOk (E ++ X) l := by
  obtain ⟨h1, A, s1, s2, R, h2, h3⟩ := h
  exact ⟨h1, A, s1, s2, R ++ X, by rw [h2]; simp, h3⟩
theorem clP_ok {f : Nat → Int} {n k p c p1 c1 : Nat} {E E1 : List Int} {l : CL} (hp : p ≤ n) (hc : c ≤ 60) (hE : E.length ≤ 2 * c + p / 3) (h : clP f n k p c E = .ok (p1, c1, E1, l)) : k < 12 ∧ p ≤ p1 ∧ p1 ≤ n ∧ c1 ≤ 60 ∧ E1.length ≤ 2 * c1 + p1 / 3 ∧ LOk E1 l ∧ ∃ X, E1 = E ++ X := by
  have hs := skip_le f n p
  have hqn := hs.2.1 hp
  have hl := lets_le f n (skip f n p)
  unfold clP at h
  have hfr := findW_rng f n (skip f n p) wsK 0 (by omega)
  rw [show wsK.length = 2 from rfl] at hfr
  split at h
  · cases h
  · rename_i hw
    split at h
    · cases h
    · rename_i hk
      cases hv : sumP f n (skip f n p + lets f n (skip f n p)) c E with
      | error F => rw [hv] at h; cases h
      | ok r =>
        obtain ⟨p2, c2, E2⟩ := r
        rw [hv] at h
        dsimp only at h
        obtain ⟨⟨b1, b2, b3, b4, b5⟩, sa, b6, b7, b8⟩ := sumP_ok (by omega) hc hv
        have hEa : E2.length = E.length + sa.length := by rw [b6, List.length_append]
        rw [b5] at h
        split at h
        · rename_i hif
          have hwl := wd_len hif
          rw [ch24] at hwl
          simp at hwl
          have hI : TI n 0 (p2 + 2) c2 [] E2 E2 := ⟨trivial, by decide, by omega, b4, ⟨[], by simp, rfl⟩, by simp [jK], by simp [nbK]; omega⟩
          cases ht : tstP f n 401 true (p2 + 2) c2 [] E2 with
          | error F => rw [ht] at h; cases h
          | ok r =>
            obtain ⟨p3, c3, E3⟩ := r
            rw [ht] at h
            obtain ⟨d1, d2, d3, d4, d5, ⟨sb, d6, d7⟩, d8⟩ := tstP_ok 401 true (p2 + 2) c2 p3 c3 [] E2 E3 (by rw [if_pos rfl]; exact hI) ht
            injection h with h
            injection h with h1 h
            injection h with h2 h
            injection h with h3 h
            subst h1 h2 h3 h
            have hEb : E3.length = E2.length + sb.length := by rw [d6, List.length_append]
            refine ⟨by omega, by omega, by omega, by omega, by omega, ⟨by omega, E, sa, sb, [], by rw [d6, b6]; simp, rfl, hEa, by rw [hEb, hEa], b7 [] (by simp), Or.inr d7⟩, ⟨sa ++ sb, by rw [d6, b6]; simp⟩⟩
        · injection h with h
          injection h with h1 h
          injection h with h2 h
          injection h with h3 h
          subst h1 h2 h3 h
          refine ⟨by omega, by omega, by omega, by omega, by omega, ⟨by omega, E, sa, [], [], by rw [b6]; simp, rfl, hEa, by rw [hEa]; simp, b7 [] (by simp), Or.inl rfl⟩, ⟨sa, b6⟩⟩
theorem ruP_ok {f : Nat → Int} {n : Nat} : ∀ (m p c : Nat) (E : List Int) (L : List CL) (E1 : List Int) (L1 : List CL), p ≤ n → c ≤ 60 → E.length ≤ 2 * c + p / 3 → (∀ l, l ∈ L → LOk E l) → ruP f n m p c E L = .ok (E1, L1) → (∀ l, l ∈ L1 → LOk E1 l) ∧ E1.length ≤ 120 + n / 3 ∧ 1 ≤ L1.length ∧ L1.length ≤ 12
  | 0, p, c, E, L, E1, L1, _, _, _, _, h => by
    unfold ruP at h
    cases h
  | m + 1, p, c, E, L, E1, L1, hp, hc, hE, hL, h => by
    rw [ruP_s] at h
    cases hv : clP f n L.length p c E with
    | error F => rw [hv] at h; cases h
    | ok r =>
      obtain ⟨p2, c2, E2, l⟩ := r
      rw [hv] at h
      dsimp only at h
      obtain ⟨a1, a2, a3, a4, a5, a6, X, a7⟩ := clP_ok hp hc hE hv
      have hs := skip_le f n p2
      have hqn := hs.2.1 a3
      have hL2 : ∀ l', l' ∈ L ++ [l] → LOk E2 l' := by
        intro l' hl'
        rcases List.mem_append.1 hl' with z | z
        · rw [a7]
          exact (hL l' z).app
        · rw [List.mem_singleton.1 z]
          exact a6
      split at h
      · rename_i hb
        have hlt := byt_lt hb (by decide)
        exact ruP_ok m _ c2 E2 _ E1 L1 (by omega) a4 (by omega) hL2 h
      · split at h
        · injection h with h
          injection h with h1 h2
          subst h1 h2
          exact ⟨hL2, by omega, by simp, by simp; omega⟩
        · cases h
theorem tyN_L {f : Nat → Int} {E : List Int} (hE : LRo f E) : ∀ (s A R : List Int) (ts : List Bool), E = A ++ (s ++ R) → tyN f A.length s.length ts = tyL s ts
  | [], A, R, ts, _ => rfl
  | c :: s, A, R, ts, h => by
    have hf : f A.length = c := by
      rw [hE A.length (by rw [h]; simp), h]
      simp [List.getD_eq_getElem?_getD]
    show (match tyS (f A.length) ts with | some t => tyN f (A.length + 1) s.length t | none => none) = (match tyS c ts with | some t => tyL s t | none => none)
    rw [hf]
    cases tyS c ts with
    | none => rfl
    | some t =>
      have := tyN_L hE s (A ++ [c]) R t (by rw [h]; simp)
      rw [List.length_append] at this
      exact this
theorem RuC.of {B : q_Mem} {o : Nat} {E : List Int} {L : List CL} (hE : LRo (B (o + 1)) E) (hL : KR o B L) (h12 : L.length ≤ 12) (hE2 : E.length ≤ 300) (h : ∀ l, l ∈ L → LOk E l) : RuC B o := by
  obtain ⟨h6, hr⟩ := hL
  refine ⟨by omega, fun c hc => ?_⟩
  have hcl : c < L.length := by omega
  obtain ⟨r1, r2, r3, r4⟩ := hr c hcl
  have hm : L.getD c cl0 ∈ L := by
    rw [List.getD_eq_getElem?_getD, List.getElem?_eq_getElem hcl]
    exact List.getElem_mem hcl
  generalize L.getD c cl0 = l at *
  obtain ⟨k1, A, s1, s2, R, k2, k3, k4, k5, k6, k7⟩ := h l hm
  have hlen : E.length = A.length + (s1.length + (s2.length + R.length)) := by rw [k2]; simp
  refine ⟨by omega, l.2.1, l.2.2.1, l.2.2.2, r2, r3, r4, by omega, by omega, by omega, ?_, ?_⟩
  · rw [k3, k4, show A.length + s1.length - A.length = s1.length by omega, tyN_L hE s1 A (s2 ++ R) [] k2]
    exact k6
  · rcases k7 with rfl | k7
    · left
      rw [k5, k4]
      rfl
    · right
      have := tyN_L hE s2 (A ++ s1) R [] (by rw [k2]; simp)
      rw [List.length_append] at this
      rw [k4, k5, show A.length + s1.length + s2.length - (A.length + s1.length) = s2.length by omega, this]
      exact k7
/-- a rule on the tape -/
def ruT (f : Nat → Int) (n : Nat) : Except Int (List Int × List CL) := ruP f n 13 0 0 [] []
theorem C_rread {G : q_G} {d : Nat} {M : q_Mem} {N : q_MemL} {o n : Nat} (hd : 9 ≤ d) (ho : isRu o) (hn : M 1 1 = (n : Int)) (hn2 : n ≤ 400) (hV : VW M) : AC0 G d m_X7_read [.ref 84, .ref o] M N (CV (fun x M1 N1 => N1 = N ∧ VW M1 ∧ Exc (rkX o) M M1 ∧ M1 1 1 = (n : Int) ∧ ((∃ E L, ruT (M 2) n = .ok (E, L) ∧ x = I 0 ∧ LRo (M1 (o + 1)) E ∧ KR o M1 L) ∨ ∃ F, ruT (M 2) n = .error F ∧ x = I F ∧ 0 < F ∧ F ≤ 3300))) := by
  have ho2 := ho
  unfold isRu at ho2
  have hS := sh_ru ho
  have hn3 : ∀ {M1 : q_Mem} {F : Int}, TE M1 n F → 0 < F ∧ F ≤ 3300 := fun h => by have := h.2.2.2.2; omega
  have err : ∀ (M1 : q_Mem) (x2 : Option Value) (F : Int), TE M1 n F → VW M1 → Exc (rkX o) M M1 → ruT (M 2) n = .error F → AW0 G d m_X7_read 69 [some (.ref 84), some (.ref o), x2] [] M1 N (CV (fun x M1 N1 => N1 = N ∧ VW M1 ∧ Exc (rkX o) M M1 ∧ M1 1 1 = (n : Int) ∧ ((∃ E L, ruT (M 2) n = .ok (E, L) ∧ x = I 0 ∧ LRo (M1 (o + 1)) E ∧ KR o M1 L) ∨ ∃ F, ruT (M 2) n = .error F ∧ x = I F ∧ 0 < F ∧ F ≤ 3300))) := by
    intro M1 x2 F hT hV hE he
    refine st_aload_n dX7_read_69 rfl ?_
    refine st_getfr dX7_read_70 f_X7_15 (by first | with_reducible assumption | rfl) (by rfl) ?_
    refine st_getfi dX7_read_73 f_X7_53 (by first | with_reducible assumption | rfl) (by rfl) ?_
    rw [hT.2.2.2.1]
    refine r_i dX7_read_76 rfl ⟨rfl, hV, hE, hT.1, Or.inr ⟨F, he, rfl, hn3 hT⟩⟩
  have loop : ∀ (m p c : Nat) (E : List Int) (L : List CL) (M1 : q_Mem), L.length + m = 13 → L.length ≤ 12 → TP M1 n p → SR o c [] E M1 → VW M1 → KR o M1 L → c ≤ 60 → E.length ≤ 2 * c + p / 3 → Exc (rkX o) M M1 → ruP (M 2) n m p c E L = ruT (M 2) n → AW0 G d m_X7_read 39 [some (.ref 84), some (.ref o), some (I L.length)] [] M1 N (CV (fun x M1 N1 => N1 = N ∧ VW M1 ∧ Exc (rkX o) M M1 ∧ M1 1 1 = (n : Int) ∧ ((∃ E L, ruT (M 2) n = .ok (E, L) ∧ x = I 0 ∧ LRo (M1 (o + 1)) E ∧ KR o M1 L) ∨ ∃ F, ruT (M 2) n = .error F ∧ x = I F ∧ 0 < F ∧ F ≤ 3300))) := by
    intro m
    induction m with
    | zero =>
      intro p c E L M1 hm h12
      exfalso
      omega
    | succ m ih =>
      intro p c E L M1 hm h12 hT h hV hL hc hE hX e
      have e2 : M1 2 = M 2 := hX 2 (by simp [rkX]; omega)
      rw [ruP_s] at e
      refine st_iload_n dX7_read_39 rfl ?_
      refine st_bipush dX7_read_40 (by decide) ?_
      refine st_icmp_gt (tgt := 69) dX7_read_42 (by omega) (by omega) rfl (fun c1 => ?_) (fun c1 => ?_)
      · skip
        omega
      · refine st_aload_n dX7_read_45 rfl ?_
        refine st_aload_n dX7_read_46 rfl ?_
        refine c_V1v (d' := d - 1) dX7_read_47 l_X7_45 k_X7_readClause i_X7_readClause (Or.inl ⟨_, _, _, _, _, (by first | with_reducible assumption | rfl), by rfl⟩) (by omega) (Nat.le_of_ble_eq_true rfl) (C_readClause (by omega) ho hT h hV hL (by omega) hc hE) (fun M2 N2 hx => ?_)
        obtain ⟨rfl, V2, X2, hx⟩ := hx
        rw [e2] at hx
        have hX2 := hX.tr X2
        have r2 : M2 2 = M 2 := hX2 2 (by simp [rkX]; omega)
        rcases hx with ⟨p1, c1', E1, l, k1, T2, S2, L2⟩ | ⟨F, k1, T2⟩
        · rw [k1] at e
          dsimp only at e
          obtain ⟨a1, a2, a3, a4, a5, a6, X, a7⟩ := clP_ok hT.2.2.2.1 hc hE k1
          refine st_aload_n dX7_read_50 rfl ?_
          refine st_getfr dX7_read_51 f_X7_15 (by first | with_reducible assumption | rfl) (by rfl) ?_
          refine c_V0i (d' := d - 1) dX7_read_54 l_X7_49 k_X8_clauseFollows i_X8_clauseFollows (Or.inl ⟨_, _, _, _, _, (by first | with_reducible assumption | rfl), by rfl⟩) (by omega) (Nat.le_of_ble_eq_true rfl) (C_cfT (by omega) T2) (fun x M3 N3 hx => ?_)
          obtain ⟨rfl, hx⟩ := hx
          rw [r2] at hx
          rcases hx with ⟨b1, rfl, hM3, T3⟩ | ⟨b1, b2, rfl, hM3⟩ | ⟨b1, b2, rfl, hE3, T3⟩
          · rw [if_pos b1] at e
            have x3 : Exc [1] M2 M3 := by rw [hM3]; exact Exc.up (by simp)
            have hs := skip_le (M 2) n p1
            refine st_if_ne (tgt := 63) dX7_read_57 (by omega) rfl (fun c2 => ?_) (fun c2 => ?_)
            · refine st_iinc (L' := [_, _, _]) dX7_read_63 rfl (by decide) rfl rfl ?_
              refine st_goto (tgt := 39) dX7_read_66 rfl ?_
              refine AW.to (ih _ c1' E1 (L ++ [l]) M3 (by simp; omega) (by simp; omega) T3 (S2.exc1 ho x3) (V2.exc x3 (by simp)) ?_ a4 (by omega) (hX2.tr (x3.sf ho (by simp)).rk) e) (h2 := by simp)
              refine ⟨?_, ?_⟩
              · rw [x3 o (by simp; omega)]
                exact L2.1
              · rw [x3 (o + 2) (by simp), x3 (o + 3) (by simp), x3 (o + 4) (by simp), x3 (o + 5) (by simp)]
                exact L2.2
            · skip
              omega
          · rw [if_neg b1, if_pos b2] at e
            have x3 : Exc [1] M2 M3 := by rw [hM3]; exact Exc.up (by simp)
            refine st_if_ne (tgt := 63) dX7_read_57 (by omega) rfl (fun c2 => ?_) (fun c2 => ?_)
            · skip
              omega
            · refine st_goto (tgt := 69) dX7_read_60 rfl ?_
              refine st_aload_n dX7_read_69 rfl ?_
              refine st_getfr dX7_read_70 f_X7_15 (by first | with_reducible assumption | rfl) (by rfl) ?_
              refine st_getfi dX7_read_73 f_X7_53 (by first | with_reducible assumption | rfl) (by rfl) ?_
              rw [show M3 1 3 = 0 by rw [hM3]; simp [q_up, T2.2.2.2.2]]
              refine r_i dX7_read_76 rfl ⟨rfl, V2.exc x3 (by simp), hX2.tr (x3.sf ho (by simp)).rk, by rw [hM3]; simp [q_up, T2.1], Or.inl ⟨E1, L ++ [l], e.symm, rfl, ?_, ?_, ?_⟩⟩
              · rw [x3 (o + 1) (by simp; omega)]
                exact S2.2.2
              · rw [x3 o (by simp; omega)]
                exact L2.1
              · rw [x3 (o + 2) (by simp), x3 (o + 3) (by simp), x3 (o + 4) (by simp), x3 (o + 5) (by simp)]
                exact L2.2
          · rw [if_neg b1, if_neg b2] at e
            refine st_if_ne (tgt := 63) dX7_read_57 (by omega) rfl (fun c2 => ?_) (fun c2 => ?_)
            · skip
              omega
            · refine st_goto (tgt := 69) dX7_read_60 rfl ?_
              exact err M3 _ _ T3 (V2.exc hE3 (by simp)) (hX2.tr (hE3.sf ho (by simp)).rk) e.symm
        · rw [k1] at e
          refine st_aload_n dX7_read_50 rfl ?_
          refine st_getfr dX7_read_51 f_X7_15 (by first | with_reducible assumption | rfl) (by rfl) ?_
          refine c_V0p (d' := d - 1) dX7_read_54 l_X7_49 k_X8_clauseFollows i_X8_clauseFollows (Or.inl ⟨_, _, _, _, _, (by first | with_reducible assumption | rfl), by rfl⟩) (by omega) (Nat.le_of_ble_eq_true rfl) (C_cfE (by omega) T2) ?_
          refine st_if_ne (tgt := 63) dX7_read_57 (by omega) rfl (fun c2 => ?_) (fun c2 => ?_)
          · skip
            omega
          · refine st_goto (tgt := 69) dX7_read_60 rfl ?_
            exact err M2 _ F T2 V2 hX2 e.symm
  refine AC.of (L0 := [_, _, none]) pn_X7 (Nat.le_of_ble_eq_true rfl) rfl ?_
  refine st_aload_n dX7_read_0 rfl ?_
  refine st_getfr dX7_read_1 f_X7_15 (by first | with_reducible assumption | rfl) (by rfl) ?_
  refine c_V0v (d' := d - 1) dX7_read_4 l_X7_19 k_X8_startReading i_X8_startReading (Or.inl ⟨_, _, _, _, _, (by first | with_reducible assumption | rfl), by rfl⟩) (by omega) (Nat.le_of_ble_eq_true rfl) (C_startReading) (fun M1 N1 hx => ?_)
  obtain ⟨rfl, hM1⟩ := hx
  refine st_aload_n dX7_read_7 rfl ?_
  refine st_iconst dX7_read_8 ?_
  refine st_putfi dX7_read_9 w_X7_24 (by first | with_reducible assumption | rfl) (by rfl) rfl rfl ?_
  refine st_aload_n dX7_read_12 rfl ?_
  refine st_iconst dX7_read_13 ?_
  refine st_putfi dX7_read_14 w_X7_30 (by first | with_reducible assumption | rfl) (by rfl) rfl rfl ?_
  refine st_aload_n dX7_read_17 rfl ?_
  refine st_iconst dX7_read_18 ?_
  refine st_putfi dX7_read_19 w_X7_33 (by first | with_reducible assumption | rfl) (by rfl) rfl rfl ?_
  refine st_aload_n dX7_read_22 rfl ?_
  refine st_iconst dX7_read_23 ?_
  refine st_putfi dX7_read_24 w_X7_36 (by first | with_reducible assumption | rfl) (by rfl) rfl rfl ?_
  refine st_aload_n dX7_read_27 rfl ?_
  refine st_iconst dX7_read_28 ?_
  refine st_putfi dX7_read_29 w_X7_39 (by first | with_reducible assumption | rfl) (by rfl) rfl rfl ?_
  refine st_aload_n dX7_read_32 rfl ?_
  refine st_iconst dX7_read_33 ?_
  refine st_putfi dX7_read_34 w_X7_42 (by first | with_reducible assumption | rfl) (by rfl) rfl rfl ?_
  refine st_iconst dX7_read_37 ?_
  refine st_istore_n (L' := [_, _, _]) dX7_read_38 (by decide) rfl rfl ?_
  have hT : TP M1 n 0 := by
    rw [hM1]
    exact ⟨by simp [q_up, hn], hn2, by simp [q_up], by omega, by simp [q_up]⟩
  have hX : Exc (rkX o) M M1 := by
    rw [hM1]
    exact (Exc.up (by simp [rkX])).tr (Exc.up (by simp [rkX]))
  have hV1 : VW M1 := by
    rw [hM1]
    exact (hV.up (by decide)).up (by decide)
  have fin : ∀ M2 : q_Mem, M2 = q_up (q_up (q_up (q_up (q_up (q_up M1 o 1 0) o 6 0) 84 2 0) 84 3 0) 84 4 0) 84 5 0 → AW0 G d m_X7_read 39 [some (.ref 84), some (.ref o), some (I 0)] [] M2 N1 (CV (fun x M1 N2 => N2 = N1 ∧ VW M1 ∧ Exc (rkX o) M M1 ∧ M1 1 1 = (n : Int) ∧ ((∃ E L, ruT (M 2) n = .ok (E, L) ∧ x = I 0 ∧ LRo (M1 (o + 1)) E ∧ KR o M1 L) ∨ ∃ F, ruT (M 2) n = .error F ∧ x = I F ∧ 0 < F ∧ F ≤ 3300))) := by
    intro M2 hM2
    have hT2 : TP M2 n 0 := by
      rw [hM2]
      exact (((((hT.ne (by omega)).ne (by omega)).ne (by omega)).ne (by omega)).ne (by omega)).ne (by omega)
    have hV2 : VW M2 := by
      rw [hM2]
      exact (((((hV1.up (by omega)).up (by omega)).up (by omega)).up (by omega)).up (by omega)).up (by omega)
    have hX2 : Exc (rkX o) M M2 := by
      rw [hM2]
      exact hX.tr ((((((Exc.rk (by omega)).tr (Exc.rk (by omega))).tr (Exc.up (by simp [rkX]))).tr (Exc.up (by simp [rkX]))).tr (Exc.up (by simp [rkX]))).tr (Exc.up (by simp [rkX])))
    have hS2 : SR o 0 [] [] M2 := by
      rw [hM2]
      refine ⟨⟨?_, trivial, ?_, ?_, ?_⟩, ?_, fun i hi => by simp at hi⟩
      · simp [q_up]
      · simp [q_up]
      · simp [q_up, dK]
      · simp [q_up, bK]
      · rw [q_up_ne (by omega), q_up_ne (by omega), q_up_ne (by omega), q_up_ne (by omega)]
        simp [q_up]
    have hL2 : KR o M2 [] := by
      rw [hM2]
      refine ⟨?_, fun j hj => by simp at hj⟩
      rw [q_up_ne (by omega), q_up_ne (by omega), q_up_ne (by omega), q_up_ne (by omega)]
      simp [q_up]
    exact AW.to (loop 13 0 0 [] [] M2 rfl (by simp) hT2 hS2 hV2 hL2 (by omega) (by simp) hX2 rfl) (h2 := rfl)
  exact fin _ rfl
theorem C_srule {G : q_G} {d : Nat} {M : q_Mem} {N : q_MemL} {n : Nat} (hd : 10 ≤ d) (hn : M 1 1 = (n : Int)) (hn2 : n ≤ 400) (hV : VW M) (h6 : 0 ≤ M 0 6 ∧ M 0 6 ≤ 6) : AC0 G d m_X10_rule [.ref 0] M N (CV (fun x M1 N1 => N1 = N ∧ VW M1 ∧ ((M 0 6 = 6 ∧ x = I (-1) ∧ M1 = M) ∨ (M 0 6 < 6 ∧ M1 1 1 = 0 ∧ Exc (0 :: rkX (47 + 6 * (M 0 6).toNat)) M M1 ∧ (∀ j, ¬ j = 6 → M1 0 j = M 0 j) ∧ ((∃ E L, ruT (M 2) n = .ok (E, L) ∧ x = I (M 0 6) ∧ M1 0 6 = M 0 6 + 1 ∧ LRo (M1 (47 + 6 * (M 0 6).toNat + 1)) E ∧ KR (47 + 6 * (M 0 6).toNat) M1 L) ∨ ∃ F, ruT (M 2) n = .error F ∧ x = I (-2 - F) ∧ M1 0 6 = M 0 6))))) := by
  obtain ⟨r, hr⟩ : ∃ r : Nat, M 0 6 = (r : Int) := ⟨(M 0 6).toNat, by omega⟩
  have ca : AC0 G (d - 1) m_X10_ruleAt [.ref 0, I r] M N (CV (fun x M' N' => M' = M ∧ N' = N ∧ ((((r : Int) < 6) ∧ x = .ref (47 + 6 * r)) ∨ (¬ ((r : Int) < 6) ∧ x = .null)))) := by
    refine AC.of (L0 := [_, _]) pn_X10 (Nat.le_of_ble_eq_true rfl) rfl ?_
    refine st_iload_n dX10_ruleAt_0 rfl ?_
    refine st_if_lt (tgt := 22) dX10_ruleAt_1 (by omega) rfl (fun h => ?_) (fun h => ?_)
    · skip
      omega
    · refine st_iload_n dX10_ruleAt_4 rfl ?_
      refine st_aload_n dX10_ruleAt_5 rfl ?_
      refine st_getfr dX10_ruleAt_6 f_X10_32 (by first | with_reducible assumption | rfl) (by rfl) ?_
      refine st_alen dX10_ruleAt_9 (by first | with_reducible assumption | rfl) (by decide) ?_
      refine st_icmp_ge (tgt := 22) dX10_ruleAt_10 (by omega) (by omega) rfl (fun h7 => ?_) (fun h7 => ?_)
      · refine st_aconst_null dX10_ruleAt_22 ?_
        exact r_aN dX10_ruleAt_23 rfl ⟨rfl, rfl, Or.inr ⟨by omega, rfl⟩⟩
      · refine st_aload_n dX10_ruleAt_13 rfl ?_
        refine st_getfr dX10_ruleAt_14 f_X10_32 (by first | with_reducible assumption | rfl) (by rfl) ?_
        refine st_iload_n dX10_ruleAt_17 rfl ?_
        refine st_aald dX10_ruleAt_18 sh_46 (Or.inr rfl) (by omega) (by omega) (ruR_v (by omega)) ?_
        refine st_goto (tgt := 23) dX10_ruleAt_19 rfl ?_
        rw [Int.toNat_natCast]
        exact r_a dX10_ruleAt_23 rfl ⟨rfl, rfl, Or.inl ⟨by omega, rfl⟩⟩
  refine AC.of (L0 := [_, none, none]) pn_X10 (Nat.le_of_ble_eq_true rfl) rfl ?_
  refine st_aload_n dX10_rule_0 rfl ?_
  refine st_aload_n dX10_rule_1 rfl ?_
  refine st_getfi dX10_rule_2 f_X10_117 (by first | with_reducible assumption | rfl) (by rfl) ?_
  rw [hr]
  refine c_V1i (d' := d - 1) dX10_rule_5 l_X10_120 k_X10_ruleAt i_X10_ruleAt (Or.inl ⟨_, _, _, _, _, (by first | assumption | rfl), by rfl⟩) (by omega) (Nat.le_of_ble_eq_true rfl) ca (fun x M1 N1 hx => ?_)
  obtain ⟨rfl, rfl, hx⟩ := hx
  rw [Int.toNat_natCast]
  rcases hx with ⟨hk, rfl⟩ | ⟨hk, rfl⟩
  · have ho := ru_is (k := r) (by omega)
    have ho2 := ho
    unfold isRu at ho2
    have hsh := sh_ru ho
    refine st_astore_n (L' := [_, _, _]) dX10_rule_8 (by decide) rfl rfl ?_
    refine st_aload_n dX10_rule_9 rfl ?_
    refine st_ifnonnull (tgt := 15) dX10_rule_10 rfl ?_
    refine st_aload_n dX10_rule_15 rfl ?_
    refine st_getfr dX10_rule_16 f_X10_51 (by first | with_reducible assumption | rfl) (by rfl) ?_
    refine st_aload_n dX10_rule_19 rfl ?_
    refine c_V1i (d' := d - 1) dX10_rule_20 l_X10_124 k_X7_read i_X7_read (Or.inl ⟨_, _, _, _, _, (by first | with_reducible assumption | rfl), by rfl⟩) (by omega) (Nat.le_of_ble_eq_true rfl) (C_rread (by omega) ho hn hn2 hV) (fun x M2 N2 hx => ?_)
    obtain ⟨rfl, V2, X2, h11, hx⟩ := hx
    have z0 : M2 0 = M1 0 := X2 0 (by simp [rkX]; omega)
    rcases hx with ⟨E, L, k1, rfl, k2, k3⟩ | ⟨F, k1, rfl, k2, k3⟩
    · refine st_istore_n (L' := [_, _, _]) dX10_rule_23 (by decide) rfl rfl ?_
      refine st_aload_n dX10_rule_24 rfl ?_
      refine st_getfr dX10_rule_25 f_X10_10 (by first | with_reducible assumption | rfl) (by rfl) ?_
      refine st_iconst dX10_rule_28 ?_
      refine st_putfi dX10_rule_29 w_X10_96 (by first | with_reducible assumption | rfl) (by rfl) rfl rfl ?_
      refine st_iload_n dX10_rule_32 rfl ?_
      refine st_if_eq (tgt := 41) dX10_rule_33 (by omega) rfl (fun c1 => ?_) (fun c1 => ?_)
      · refine st_aload_n dX10_rule_41 rfl ?_
        refine st_dup dX10_rule_42 rfl ?_
        refine st_getfi dX10_rule_43 f_X10_117 (by first | with_reducible assumption | rfl) (by rfl) ?_
        rw [show q_up M2 1 1 0 0 6 = (r : Int) by rw [q_up_ne (by decide), z0]; exact hr]
        refine st_iconst dX10_rule_46 ?_
        refine st_iadd dX10_rule_47 ?_
        refine st_putfi dX10_rule_48 w_X10_117 (by first | with_reducible assumption | rfl) (by rfl) rfl rfl ?_
        refine st_aload_n dX10_rule_51 rfl ?_
        refine st_getfi dX10_rule_52 f_X10_117 (by first | with_reducible assumption | rfl) (by rfl) ?_
        rw [show q_up (q_up M2 1 1 0) 0 6 ((r : Int) + 1) 0 6 = (r : Int) + 1 by simp [q_up]]
        refine st_iconst dX10_rule_55 ?_
        refine st_isub dX10_rule_56 ?_
        rw [show (r : Int) + 1 - 1 = (r : Int) by omega]
        refine r_i dX10_rule_57 rfl ⟨rfl, (V2.up (by decide)).up (by decide), Or.inr ⟨by omega, by simp [q_up], ?_, ?_, Or.inl ⟨E, L, k1, rfl, by simp [q_up], ?_, ?_, ?_⟩⟩⟩
        · exact (X2.sub (fun a ha => List.mem_cons_of_mem _ ha)).tr ((Exc.up (by simp [rkX])).tr (Exc.up (by simp)))
        · intro j hj
          simp only [q_up]
          rw [if_neg (by omega), if_neg (by omega), z0]
        · rw [q_up_ne (by omega), q_up_ne (by omega)]
          exact k2
        · rw [q_up_ne (by omega), q_up_ne (by omega)]
          exact k3.1
        · rw [q_up_ne (by omega), q_up_ne (by omega), q_up_ne (by omega), q_up_ne (by omega), q_up_ne (by omega), q_up_ne (by omega), q_up_ne (by omega), q_up_ne (by omega)]
          exact k3.2
      · skip
        exact absurd rfl c1
    · refine st_istore_n (L' := [_, _, _]) dX10_rule_23 (by decide) rfl rfl ?_
      refine st_aload_n dX10_rule_24 rfl ?_
      refine st_getfr dX10_rule_25 f_X10_10 (by first | with_reducible assumption | rfl) (by rfl) ?_
      refine st_iconst dX10_rule_28 ?_
      refine st_putfi dX10_rule_29 w_X10_96 (by first | with_reducible assumption | rfl) (by rfl) rfl rfl ?_
      refine st_iload_n dX10_rule_32 rfl ?_
      refine st_if_eq (tgt := 41) dX10_rule_33 (by omega) rfl (fun c1 => ?_) (fun c1 => ?_)
      · skip
        omega
      · refine st_bipush dX10_rule_36 (by decide) ?_
        refine st_iload_n dX10_rule_38 rfl ?_
        refine st_isub dX10_rule_39 ?_
        refine r_i dX10_rule_40 rfl ⟨rfl, V2.up (by decide), Or.inr ⟨by omega, by simp [q_up], (X2.sub (fun a ha => List.mem_cons_of_mem _ ha)).tr (Exc.up (by simp [rkX])), ?_, Or.inr ⟨F, k1, rfl, ?_⟩⟩⟩
        · intro j hj
          rw [q_up_ne (by decide), z0]
        · rw [q_up_ne (by decide), z0]
          exact hr
  · refine st_astore_nZ (L' := [_, _, _]) dX10_rule_8 (by decide) rfl rfl ?_
    refine st_aload_nV dX10_rule_9 rfl (Or.inl rfl) ?_
    refine st_ifnonnullN dX10_rule_10 ?_
    refine st_iconst dX10_rule_13 ?_
    refine r_i dX10_rule_14 rfl ⟨rfl, hV, Or.inl ⟨by omega, rfl, rfl⟩⟩


/-! the system's Forecast: hush -/
abbrev amg (o : Int) (n p : Nat) : Prop := ∃ k, k < n ∧ g8 o k = p
def rstF (A : Nat → Prop) [ha : DecidablePred A] : Nat → Nat → Int → Int
  | 0, _, _ => -2
  | n + 1, k, l => if A k then rstF A n (k + 1) l else if l = 0 then k else rstF A n (k + 1) (l - 1)
theorem C_inRest {G : q_G} {d : Nat} {M : q_Mem} {N : q_MemL} {o l : Int} {n : Nat} (hd : 2 ≤ d) (hn : n ≤ 7) (h4 : 0 ≤ M 3 4 ∧ M 3 4 ≤ 7) (ho : 0 ≤ o ∧ o < 1073741824) (hl : -100 ≤ l ∧ l < 100) : AC0 G d m_X1_inRest [.ref 91, I o, I n, I l] M N (CV (PU (I (rstF (amg o n) (M 3 4).toNat 0 l)) M N)) := by
  refine AC.of (L0 := [_, _, _, _, none, none]) pn_X1 (Nat.le_of_ble_eq_true rfl) rfl ?_
  refine st_iload_n dX1_inRest_0 rfl ?_
  refine st_istore (L' := [_, _, _, _, _, _]) dX1_inRest_1 (by decide) rfl rfl ?_
  refine st_iconst dX1_inRest_3 ?_
  refine st_istore (L' := [_, _, _, _, _, _]) dX1_inRest_4 (by decide) rfl rfl ?_
  have loop : ∀ (q k : Nat) (z : Int), k + q = (M 3 4).toNat → (-110 ≤ z - q ∧ z < 100) → AW0 G d m_X1_inRest 6 [some (.ref 91), some (I o), some (I n), some (I l), some (I z), some (I k)] [] M N (CV (PU (I (rstF (amg o n) q k z)) M N)) := by
    intro q
    induction q with
    | zero =>
      intro k z hk hz
      refine st_iload dX1_inRest_6 rfl ?_
      refine st_aload_n dX1_inRest_8 rfl ?_
      refine st_getfr dX1_inRest_9 f_X1_18 (by first | assumption | rfl) (by rfl) ?_
      refine st_getfi dX1_inRest_12 f_X1_62 (by first | assumption | rfl) (by rfl) ?_
      refine st_icmp_ge (tgt := 45) dX1_inRest_15 (by omega) (by omega) rfl (fun h => ?_) (fun h => ?_)
      · refine st_bipush dX1_inRest_45 (by decide) ?_
        exact r_i dX1_inRest_47 rfl ⟨rfl, rfl, rfl⟩
      · skip
        omega
    | succ q ih =>
      intro k z hk hz
      refine st_iload dX1_inRest_6 rfl ?_
      refine st_aload_n dX1_inRest_8 rfl ?_
      refine st_getfr dX1_inRest_9 f_X1_18 (by first | assumption | rfl) (by rfl) ?_
      refine st_getfi dX1_inRest_12 f_X1_62 (by first | assumption | rfl) (by rfl) ?_
      refine st_icmp_ge (tgt := 45) dX1_inRest_15 (by omega) (by omega) rfl (fun h => ?_) (fun h => ?_)
      · skip
        omega
      · refine st_iload_n dX1_inRest_18 rfl ?_
        refine st_iload_n dX1_inRest_19 rfl ?_
        refine st_iload dX1_inRest_20 rfl ?_
        refine c_S3p (d' := d - 1) dX1_inRest_22 l_X1_110 k_X1_isAmong s_X1_isAmong (by omega) (Nat.le_of_ble_eq_true rfl) (C_isAmong (by omega) hn (by omega) ho) ?_
        refine b_ne (tgt := 39) dX1_inRest_25 rfl (fun h7 => ?_) (fun h7 => ?_)
        · refine st_iinc (L' := [_, _, _, _, _, _]) dX1_inRest_39 rfl (by decide) rfl rfl ?_
          refine st_goto (tgt := 6) dX1_inRest_42 rfl ?_
          have e : rstF (amg o n) (q + 1) k z = rstF (amg o n) q (k + 1) z := if_pos h7
          rw [e]
          exact AW.to (ih (k + 1) z (by omega) (by omega)) (h2 := by simp)
        · refine st_iload dX1_inRest_28 rfl ?_
          refine st_if_ne (tgt := 36) dX1_inRest_30 (by omega) rfl (fun h8 => ?_) (fun h8 => ?_)
          · refine st_iinc (L' := [_, _, _, _, _, _]) dX1_inRest_36 rfl (by decide) rfl rfl ?_
            refine st_iinc (L' := [_, _, _, _, _, _]) dX1_inRest_39 rfl (by decide) rfl rfl ?_
            refine st_goto (tgt := 6) dX1_inRest_42 rfl ?_
            have e : rstF (amg o n) (q + 1) k z = rstF (amg o n) q (k + 1) (z - 1) := (if_neg h7).trans (if_neg h8)
            rw [e]
            exact AW.to (ih (k + 1) (z - 1) (by omega) (by omega)) (h2 := by simp [Int.sub_eq_add_neg])
          · refine st_iload dX1_inRest_33 rfl ?_
            have e : rstF (amg o n) (q + 1) k z = k := (if_neg h7).trans (if_pos (by omega))
            exact r_i dX1_inRest_35 rfl ⟨by rw [e], rfl, rfl⟩
  exact loop (M 3 4).toNat 0 l (by omega) (by omega)
/-! all hushed, all are down -/
theorem cnt_ne {P : Nat → Prop} [hd : DecidablePred P] : ∀ {n : Nat}, 0 < cnt P n → ∃ q, q < n ∧ P q
  | 0, h => absurd h (by simp [cnt, hsum])
  | n + 1, h => by
    rw [cnt_succ] at h
    by_cases q : P n
    · exact ⟨n, by omega, q⟩
    · rw [if_neg q] at h
      obtain ⟨j, h1, h2⟩ := cnt_ne (n := n) (P := P) (by omega)
      exact ⟨j, by omega, h2⟩
theorem cnt_no {P : Nat → Prop} [hd : DecidablePred P] : ∀ {n : Nat}, cnt P n = 0 → ∀ q, q < n → ¬ P q
  | 0, _, q, hq => absurd hq (by omega)
  | n + 1, h, q, hq => by
    have h1 := cnt_rng P n
    rw [cnt_succ] at h
    have h2 : ¬ P n := fun z => by rw [if_pos z] at h; omega
    rw [if_neg h2] at h
    by_cases e : q = n
    · rw [e]; exact h2
    · exact cnt_no (n := n) (P := P) (by omega) q (by omega)
theorem cnt_cg {P Q : Nat → Prop} [hd : DecidablePred P] [he : DecidablePred Q] : ∀ {n : Nat}, (∀ q, q < n → (P q ↔ Q q)) → cnt P n = cnt Q n
  | 0, _ => rfl
  | n + 1, h => by
    rw [cnt_succ, cnt_succ, cnt_cg (n := n) (fun q hq => h q (by omega))]
    have := h n (by omega)
    by_cases e : P n
    · rw [if_pos e, if_pos (this.1 e)]
    · rw [if_neg e, if_neg (fun z => e (this.2 z))]
theorem cnt_rm {P : Nat → Prop} [hd : DecidablePred P] {p : Nat} (hp : P p) : ∀ {n : Nat}, p < n → cnt (fun q => P q ∧ ¬ q = p) n = cnt P n - 1
  | 0, h => absurd h (by omega)
  | n + 1, h => by
    rw [cnt_succ, cnt_succ]
    by_cases e : p = n
    · subst e
      rw [if_neg (fun z => z.2 rfl), if_pos hp, cnt_cg (P := fun q => P q ∧ ¬ q = p) (Q := P) (n := p) (fun q hq => ⟨fun z => z.1, fun z => ⟨z, by omega⟩⟩)]
      omega
    · rw [cnt_rm (n := n) hp (by omega)]
      by_cases q : P n
      · rw [if_pos q, if_pos ⟨q, by omega⟩]; omega
      · rw [if_neg q, if_neg (fun z => q z.1)]; omega
theorem hsum_0 {f : Nat → Int} : ∀ {n : Nat}, (∀ q, q < n → f q = 0) → hsum f n = 0
  | 0, _ => rfl
  | n + 1, h => by unfold hsum; rw [hsum_0 (n := n) (fun q hq => h q (by omega)), h n (by omega)]; rfl
theorem stof_0 {b : Nat → Int} (m : Nat) (h : m = 0 ∨ 1 ≤ b 1) : stof b 0 m 0 = 0 := by
  cases m with
  | zero => rfl
  | succ m =>
    unfold stof
    rw [if_neg (by have : b (0 + 1) = b 1 := rfl; omega)]
    rfl
theorem allD_hush {M : q_Mem} {w : Int} {v : Nat → Int} (h3 : 0 ≤ M 3 3 ∧ M 3 3 ≤ 8) (h4 : 0 ≤ M 3 4 ∧ M 3 4 ≤ 7) (hi : 2 ≤ M 3 3 → 1 ≤ M 4 1) (hv : ∀ q, q < (M 3 4).toNat → v q = 0) : allD M (nxt M 3 w v) := by
  intro q hq
  rw [nxt_g8 h3 (by omega)]
  unfold homeAft aftD
  rw [if_pos hq]
  have e : hearP (M 3 4).toNat (M 3 6) (g8 w) (g4 (M 3 13)) v q = 0 := by
    unfold hearP
    split
    · exact hv q hq
    · refine hsum_0 (fun j hj => ?_)
      unfold hearF
      rw [hv j hj]
      split
      · rfl
      · split
        · unfold fade
          split
          · rfl
          · split <;> rfl
        · rfl
  rw [e]
  exact stof_0 _ (by by_cases z : 2 ≤ M 3 3; exact Or.inr (hi z); exact Or.inl (by omega))
theorem fstO_found {M : q_Mem} (h3 : 0 ≤ M 3 3 ∧ M 3 3 ≤ 8) (h4 : 0 ≤ M 3 4 ∧ M 3 4 ≤ 7) (hi : 2 ≤ M 3 3 → 1 ≤ M 4 1) : ∀ (m done : Nat) (s w : Int), cnt (fun p => s.toNat.testBit p = false) (M 3 4).toNat = m → (m = 0 → allD M w) → fstO M m done s w ≠ -1
  | 0, _, _, w, _, h => by
    unfold fstO
    rw [if_pos (h rfl)]
    omega
  | m + 1, done, s, w, hc, _ => by
    obtain ⟨p, hp, hb⟩ := cnt_ne (P := fun p => s.toNat.testBit p = false) (n := (M 3 4).toNat) (by omega)
    have hc2 : cnt (fun p => (orb s p).toNat.testBit p = false) (M 3 4).toNat = cnt (fun p => (orb s p).toNat.testBit p = false) (M 3 4).toNat := rfl
    have hc3 : cnt (fun q => (orb s p).toNat.testBit q = false) (M 3 4).toNat = m := by
      have := cnt_rm (P := fun p => s.toNat.testBit p = false) hb hp
      rw [cnt_cg (Q := fun q => s.toNat.testBit q = false ∧ ¬ q = p) (fun q _ => by rw [orb_bit, Bool.or_eq_false_iff, decide_eq_false_iff_not]; exact and_congr Iff.rfl ⟨fun z e => z e.symm, fun z e => z e.symm⟩)]
      omega
    have h := fstO_found h3 h4 hi m (done + 1) (orb s p) (nxt M 3 w (toldV M 3 (M 3 11 + done) (orb s p))) hc3 (fun hm => by
      refine allD_hush h3 h4 hi (fun q hq => ?_)
      have := cnt_no (P := fun q => (orb s p).toNat.testBit q = false) (n := (M 3 4).toNat) (by omega) q hq
      unfold toldV
      rw [if_pos (by simpa using this)])
    have hr := fstO_rng (M := M) h4 m (done + 1) (orb s p) (nxt M 3 w (toldV M 3 (M 3 11 + done) (orb s p)))
    unfold fstO
    refine firstF_found (j := p) (by omega) (by omega) ?_
    simp only [hb]
    rw [if_neg (by simp), if_neg h]
    omega
/-- so many beats, and the order -/
def hushK (f : Nat → Int) : Nat → Nat → Nat × Int
  | 0, k => (k, f k)
  | n + 1, k => if f k = -1 then hushK f n (k + 1) else (k, f k)
theorem hushK_spec {f : Nat → Int} : ∀ {n k : Nat}, f (k + n) ≠ -1 → (hushK f n k).2 = f (hushK f n k).1 ∧ f (hushK f n k).1 ≠ -1 ∧ k ≤ (hushK f n k).1 ∧ (hushK f n k).1 ≤ k + n
  | 0, k, h => ⟨rfl, h, Nat.le_refl _, Nat.le_refl _⟩
  | n + 1, k, h => by
    unfold hushK
    split
    · have := hushK_spec (f := f) (n := n) (k := k + 1) (by rw [show k + 1 + n = k + (n + 1) by omega]; exact h)
      refine ⟨this.1, this.2.1, by omega, by omega⟩
    · next q => exact ⟨rfl, q, Nat.le_refl _, by omega⟩
def A_hush (M : q_Mem) (what : Int) : Int :=
  if M 3 4 < what then -2 else if what = 0 then ((hushK (fun k => fstO M k 0 0 (M 3 12)) (M 3 4).toNat 0).1 : Int) else
  if what ≤ (hushK (fun k => fstO M k 0 0 (M 3 12)) (M 3 4).toNat 0).1 then g8 (hushK (fun k => fstO M k 0 0 (M 3 12)) (M 3 4).toNat 0).2 (what - 1).toNat else
  rstF (amg (hushK (fun k => fstO M k 0 0 (M 3 12)) (M 3 4).toNat 0).2 (hushK (fun k => fstO M k 0 0 (M 3 12)) (M 3 4).toNat 0).1) (M 3 4).toNat 0 (what - 1 - (hushK (fun k => fstO M k 0 0 (M 3 12)) (M 3 4).toNat 0).1)
theorem C_hush {G : q_G} {d : Nat} {M : q_Mem} {N : q_MemL} {what : Int} (hd : 13 ≤ d) (hM : Hrg M 3) (h11 : 0 ≤ M 3 11 ∧ M 3 11 ≤ 10000) (h12 : 0 ≤ M 3 12 ∧ M 3 12 < 1073741824) (hi : 2 ≤ M 3 3 → 1 ≤ M 4 1) (hw : 0 ≤ what ∧ what ≤ 7) : AC0 G d m_X1_hush [.ref 91, I what] M N (CV (fun x M' N' => x = I (A_hush M what) ∧ N' = N ∧ Exc [92] M M')) := by
  have h4 := hM.2.2.1
  have hfs := hushK_spec (f := fun k => fstO M k 0 0 (M 3 12)) (n := (M 3 4).toNat) (k := 0) (by
    refine fstO_found hM.2.1 h4 hi _ _ _ _ ?_ ?_
    · rw [Nat.zero_add]
      have : ∀ n : Nat, cnt (fun p => (0 : Int).toNat.testBit p = false) n = n := by
        intro n
        induction n with
        | zero => rfl
        | succ n ih => rw [cnt_succ, ih, if_pos (by simp)]; omega
      exact this _
    · intro hz q hq
      omega)
  refine AC.of (L0 := [_, _, none, none, none]) pn_X1 (Nat.le_of_ble_eq_true rfl) rfl ?_
  refine st_iload_n dX1_hush_0 rfl ?_
  refine st_aload_n dX1_hush_1 rfl ?_
  refine st_getfr dX1_hush_2 f_X1_18 (by first | assumption | rfl) (by rfl) ?_
  refine st_getfi dX1_hush_5 f_X1_62 (by first | assumption | rfl) (by rfl) ?_
  refine st_icmp_le (tgt := 14) dX1_hush_8 (by omega) (by omega) rfl (fun h0 => ?_) (fun h0 => ?_)
  · refine st_iconst dX1_hush_14 ?_
    refine st_istore_n (L' := [_, _, _, _, _]) dX1_hush_15 (by decide) rfl rfl ?_
    refine st_iconst dX1_hush_16 ?_
    refine st_istore_n (L' := [_, _, _, _, _]) dX1_hush_17 (by decide) rfl rfl ?_
    refine st_iconst dX1_hush_18 ?_
    refine st_istore (L' := [_, _, _, _, _]) dX1_hush_19 (by decide) rfl rfl ?_
    generalize hK : hushK (fun k => fstO M k 0 0 (M 3 12)) (M 3 4).toNat 0 = K at hfs
    have e0 : A_hush M what = if M 3 4 < what then -2 else if what = 0 then (K.1 : Int) else if what ≤ K.1 then g8 K.2 (what - 1).toNat else rstF (amg K.2 K.1) (M 3 4).toNat 0 (what - 1 - K.1) := by rw [← hK]; rfl
    have hKr := fstO_rng (M := M) h4 K.1 0 0 (M 3 12)
    have h9 : 8 ^ K.1 ≤ 8 ^ 7 := Nat.pow_le_pow_right (by omega) (by omega)
    have h10 : (8 : Nat) ^ 7 = 2097152 := rfl
    have fin : ∀ (k : Nat) (M1 : q_Mem), Exc [92] M M1 → AW0 G d m_X1_hush 70 [some (.ref 91), some (I what), some (I K.1), some (I K.2), some (I k)] [] M1 N (CV (fun x M' N' => x = I (A_hush M what) ∧ N' = N ∧ Exc [92] M M')) := by
      intro k M1 hE
      have e3 := hE 3 (by decide)
      refine st_iload_n dX1_hush_70 rfl ?_
      refine st_if_ne (tgt := 76) dX1_hush_71 (by omega) rfl (fun h1 => ?_) (fun h1 => ?_)
      · refine st_iload_n dX1_hush_76 rfl ?_
        refine st_iload_n dX1_hush_77 rfl ?_
        refine st_icmp_gt (tgt := 91) dX1_hush_78 (by omega) (by omega) rfl (fun h2 => ?_) (fun h2 => ?_)
        · refine st_aload_n dX1_hush_91 rfl ?_
          refine st_iload_n dX1_hush_92 rfl ?_
          refine st_iload_n dX1_hush_93 rfl ?_
          refine st_iload_n dX1_hush_94 rfl ?_
          refine st_iconst dX1_hush_95 ?_
          refine st_isub dX1_hush_96 ?_
          refine st_iload_n dX1_hush_97 rfl ?_
          refine st_isub dX1_hush_98 ?_
          refine c_V3p (d' := d - 1) dX1_hush_99 l_X1_99 k_X1_inRest i_X1_inRest (Or.inl ⟨_, _, _, _, _, (by first | assumption | rfl), by rfl⟩) (by omega) (Nat.le_of_ble_eq_true rfl) (C_inRest (by omega) (by omega) (by rw [e3]; exact h4) (by omega) (by omega)) ?_
          rw [e3]
          exact r_i dX1_hush_102 rfl ⟨by rw [e0, if_neg (by omega), if_neg h1, if_neg (by omega)], rfl, hE⟩
        · refine st_iload_n dX1_hush_81 rfl ?_
          refine st_iload_n dX1_hush_82 rfl ?_
          refine st_iconst dX1_hush_83 ?_
          refine st_isub dX1_hush_84 ?_
          rw [show what - 1 = (((what - 1).toNat : Nat) : Int) by omega]
          refine c_S2p (d' := d - 1) dX1_hush_85 l_X1_65 k_X10_storeyIn s_X10_storeyIn (by omega) (Nat.le_of_ble_eq_true rfl) (C_storeyIn (by omega) (by omega)) ?_
          refine st_goto (tgt := 102) dX1_hush_88 rfl ?_
          exact r_i dX1_hush_102 rfl ⟨by rw [e0, if_neg (by omega), if_neg h1, if_pos (by omega)], rfl, hE⟩
      · refine st_iload_n dX1_hush_74 rfl ?_
        exact r_i dX1_hush_75 rfl ⟨by rw [e0, if_neg (by omega), if_pos (by omega)], rfl, hE⟩
    have loop : ∀ (q k : Nat) (M1 : q_Mem), k + q = (M 3 4).toNat → Exc [92] M M1 → K = hushK (fun k => fstO M k 0 0 (M 3 12)) q k → {l2 : Option Value} → AW0 G d m_X1_hush 21 [some (.ref 91), some (I what), l2, some (I (-1)), some (I k)] [] M1 N (CV (fun x M' N' => x = I (A_hush M what) ∧ N' = N ∧ Exc [92] M M')) := by
      intro q
      induction q with
      | zero =>
        intro k M1 hk hE hq l2
        have e3 := hE 3 (by decide)
        have hf := fstO_rng (M := M) h4 k 0 0 (M 3 12)
        have hk1 : K.1 = k := by rw [hq]; rfl
        have hk2 : K.2 = fstO M k 0 0 (M 3 12) := by rw [hq]; rfl
        refine st_iload dX1_hush_21 rfl ?_
        refine st_aload_n dX1_hush_23 rfl ?_
        refine st_getfr dX1_hush_24 f_X1_18 (by first | assumption | rfl) (by rfl) ?_
        refine st_getfi dX1_hush_27 f_X1_62 (by first | assumption | rfl) (by rfl) ?_
        rw [e3]
        refine st_icmp_gt (tgt := 70) dX1_hush_30 (by omega) (by omega) rfl (fun h1 => ?_) (fun h1 => ?_)
        · skip
          omega
        · refine st_iload_n dX1_hush_33 rfl ?_
          refine st_iconst dX1_hush_34 ?_
          refine st_icmp_ne (tgt := 70) dX1_hush_35 (by omega) (by omega) rfl (fun h2 => ?_) (fun h2 => ?_)
          · skip
            omega
          · refine st_iload dX1_hush_38 rfl ?_
            refine st_istore_n (L' := [_, _, _, _, _]) dX1_hush_40 (by decide) rfl rfl ?_
            refine st_aload_n dX1_hush_41 rfl ?_
            refine st_getfr dX1_hush_42 f_X1_18 (by first | assumption | rfl) (by rfl) ?_
            refine st_aload_n dX1_hush_45 rfl ?_
            refine st_getfr dX1_hush_46 f_X1_9 (by first | assumption | rfl) (by rfl) ?_
            refine st_iconst dX1_hush_49 ?_
            refine st_iconst dX1_hush_50 ?_
            refine st_aload_n dX1_hush_51 rfl ?_
            refine st_getfr dX1_hush_52 f_X1_18 (by first | assumption | rfl) (by rfl) ?_
            refine st_getfi dX1_hush_55 f_X1_22 (by first | assumption | rfl) (by rfl) ?_
            refine st_iload dX1_hush_58 rfl ?_
            rw [e3]
            refine c_S6i (d' := d - 1) dX1_hush_60 l_X1_95 k_X1_firstOrder s_X1_firstOrder (by omega) (Nat.le_of_ble_eq_true rfl) (C_firstOrder hM h11 (b := k) (by omega) k 0 (by omega) (by omega) (by omega) h12 hE) (fun x M2 N2 hx => ?_)
            obtain ⟨rfl, rfl, hE2⟩ := hx
            refine st_istore_n (L' := [_, _, _, _, _]) dX1_hush_63 (by decide) rfl rfl ?_
            refine st_iinc (L' := [_, _, _, _, _]) dX1_hush_64 rfl (by decide) rfl rfl ?_
            refine st_goto (tgt := 21) dX1_hush_67 rfl ?_
            rw [← hk2]
            refine st_iload dX1_hush_21 rfl ?_
            refine st_aload_n dX1_hush_23 rfl ?_
            refine st_getfr dX1_hush_24 f_X1_18 (by first | assumption | rfl) (by rfl) ?_
            refine st_getfi dX1_hush_27 f_X1_62 (by first | assumption | rfl) (by rfl) ?_
            rw [hE2 3 (by decide)]
            refine st_icmp_gt (tgt := 70) dX1_hush_30 (by omega) (by omega) rfl (fun h5 => ?_) (fun h5 => ?_)
            · skip
              refine AW.to (fin (k + 1) M2 hE2) (h2 := by rw [hk1]; simp)
            · skip
              omega
      | succ q ih =>
        intro k M1 hk hE hq l2
        have e3 := hE 3 (by decide)
        have hf := fstO_rng (M := M) h4 k 0 0 (M 3 12)
        have h11' : 8 ^ k ≤ 8 ^ 7 := Nat.pow_le_pow_right (by omega) (by omega)
        refine st_iload dX1_hush_21 rfl ?_
        refine st_aload_n dX1_hush_23 rfl ?_
        refine st_getfr dX1_hush_24 f_X1_18 (by first | assumption | rfl) (by rfl) ?_
        refine st_getfi dX1_hush_27 f_X1_62 (by first | assumption | rfl) (by rfl) ?_
        rw [e3]
        refine st_icmp_gt (tgt := 70) dX1_hush_30 (by omega) (by omega) rfl (fun h1 => ?_) (fun h1 => ?_)
        · skip
          omega
        · refine st_iload_n dX1_hush_33 rfl ?_
          refine st_iconst dX1_hush_34 ?_
          refine st_icmp_ne (tgt := 70) dX1_hush_35 (by omega) (by omega) rfl (fun h2 => ?_) (fun h2 => ?_)
          · skip
            omega
          · refine st_iload dX1_hush_38 rfl ?_
            refine st_istore_n (L' := [_, _, _, _, _]) dX1_hush_40 (by decide) rfl rfl ?_
            refine st_aload_n dX1_hush_41 rfl ?_
            refine st_getfr dX1_hush_42 f_X1_18 (by first | assumption | rfl) (by rfl) ?_
            refine st_aload_n dX1_hush_45 rfl ?_
            refine st_getfr dX1_hush_46 f_X1_9 (by first | assumption | rfl) (by rfl) ?_
            refine st_iconst dX1_hush_49 ?_
            refine st_iconst dX1_hush_50 ?_
            refine st_aload_n dX1_hush_51 rfl ?_
            refine st_getfr dX1_hush_52 f_X1_18 (by first | assumption | rfl) (by rfl) ?_
            refine st_getfi dX1_hush_55 f_X1_22 (by first | assumption | rfl) (by rfl) ?_
            refine st_iload dX1_hush_58 rfl ?_
            rw [e3]
            refine c_S6i (d' := d - 1) dX1_hush_60 l_X1_95 k_X1_firstOrder s_X1_firstOrder (by omega) (Nat.le_of_ble_eq_true rfl) (C_firstOrder hM h11 (b := k) (by omega) k 0 (by omega) (by omega) (by omega) h12 hE) (fun x M2 N2 hx => ?_)
            obtain ⟨rfl, rfl, hE2⟩ := hx
            by_cases hz : fstO M k 0 0 (M 3 12) = -1
            · rw [hz]
              refine st_istore_n (L' := [_, _, _, _, _]) dX1_hush_63 (by decide) rfl rfl ?_
              refine st_iinc (L' := [_, _, _, _, _]) dX1_hush_64 rfl (by decide) rfl rfl ?_
              refine st_goto (tgt := 21) dX1_hush_67 rfl ?_
              exact AW.to (ih (k + 1) M2 (by omega) hE2 (by rw [hq]; exact if_pos hz) (l2 := some (I k))) (h2 := by simp)
            · have hK3 : K = (k, fstO M k 0 0 (M 3 12)) := hq.trans (if_neg hz)
              have hk1 : K.1 = k := by rw [hK3]
              have hk2 : K.2 = fstO M k 0 0 (M 3 12) := by rw [hK3]
              rw [← hk2]
              refine st_istore_n (L' := [_, _, _, _, _]) dX1_hush_63 (by decide) rfl rfl ?_
              refine st_iinc (L' := [_, _, _, _, _]) dX1_hush_64 rfl (by decide) rfl rfl ?_
              refine st_goto (tgt := 21) dX1_hush_67 rfl ?_
              refine st_iload dX1_hush_21 rfl ?_
              refine st_aload_n dX1_hush_23 rfl ?_
              refine st_getfr dX1_hush_24 f_X1_18 (by first | assumption | rfl) (by rfl) ?_
              refine st_getfi dX1_hush_27 f_X1_62 (by first | assumption | rfl) (by rfl) ?_
              rw [hE2 3 (by decide)]
              refine st_icmp_gt (tgt := 70) dX1_hush_30 (by omega) (by omega) rfl (fun h5 => ?_) (fun h5 => ?_)
              · skip
                omega
              · refine st_iload_n dX1_hush_33 rfl ?_
                refine st_iconst dX1_hush_34 ?_
                refine st_icmp_ne (tgt := 70) dX1_hush_35 (by omega) (by omega) rfl (fun h6 => ?_) (fun h6 => ?_)
                · skip
                  refine AW.to (fin (k + 1) M2 hE2) (h2 := by rw [hk1]; simp)
                · skip
                  omega
    exact AW.to (loop (M 3 4).toNat 0 M (by omega) Exc.rf hK.symm (l2 := some (I 0)))
  · refine st_bipush dX1_hush_11 (by decide) ?_
    exact r_i dX1_hush_13 rfl ⟨by rw [A_hush, if_pos (by omega)], rfl, Exc.rf⟩


/-! the tape: bytes, blanks, faults -/
theorem z_255 (z : Int) : zi z &&& zi 255 = zi (z % 256) := by
  apply Int32.toBitVec_inj.1
  show BitVec.ofInt 32 z &&& BitVec.ofInt 32 255 = BitVec.ofInt 32 (z % 256)
  apply BitVec.eq_of_toNat_eq
  rw [BitVec.toNat_and, BitVec.toNat_ofInt, BitVec.toNat_ofInt, BitVec.toNat_ofInt]
  rw [show ((255 : Int) % (2 ^ 32 : Nat)).toNat = 2 ^ 8 - 1 by decide, Nat.and_two_pow_sub_one_eq_mod]
  have e : ((2 ^ 32 : Nat) : Int) = 4294967296 := by decide
  rw [e]
  omega
/-- the byte at a place, -1 behind the end -/
def bytA (f : Nat → Int) (n : Nat) (p : Int) : Int := if 0 ≤ p ∧ p < n then f p.toNat % 256 else -1
theorem bytA_rng (f : Nat → Int) (n : Nat) (p : Int) : -1 ≤ bytA f n p ∧ bytA f n p ≤ 255 := by
  unfold bytA
  split <;> omega
/-- behind the blanks -/
def skB (f : Nat → Int) (n : Nat) : Nat → Nat → Nat
  | 0, p => p
  | m + 1, p => if bytA f n p = 32 then skB f n m (p + 1) else p
def skip (f : Nat → Int) (n p : Nat) : Nat := skB f n (n - p) p
theorem skB_le (f : Nat → Int) (n : Nat) : ∀ m p, p ≤ skB f n m p ∧ skB f n m p ≤ p + m
  | 0, p => by unfold skB; omega
  | m + 1, p => by
    unfold skB
    split
    · have := skB_le f n m (p + 1)
      omega
    · omega
theorem skip_le (f : Nat → Int) (n p : Nat) : p ≤ skip f n p ∧ (p ≤ n → skip f n p ≤ n) ∧ (n ≤ p → skip f n p = p) := by
  have := skB_le f n (n - p) p
  unfold skip
  refine ⟨by omega, by omega, fun h => ?_⟩
  rw [show n - p = 0 by omega]
  rfl
theorem C_byteAt {G : q_G} {d : Nat} {M : q_Mem} {N : q_MemL} {n : Nat} {p : Int} (hn : M 1 1 = (n : Int)) (hn2 : n ≤ 400) (hp : i32 p) : AC0 G d m_X8_byteAt [.ref 1, I p] M N (CV (PU (I (bytA (M 2) n p)) M N)) := by
  unfold i32 at hp
  have no : ¬ (0 ≤ p ∧ p < n) → AW0 G d m_X8_byteAt 34 [some (.ref 1), some (I p)] [] M N (CV (PU (I (bytA (M 2) n p)) M N)) := by
    intro h
    refine st_iconst dX8_byteAt_34 ?_
    refine r_i dX8_byteAt_35 rfl ⟨by rw [bytA, if_neg h], rfl, rfl⟩
  refine AC.of (L0 := [_, _]) pn_X8 (Nat.le_of_ble_eq_true rfl) rfl ?_
  refine st_iload_n dX8_byteAt_0 rfl ?_
  refine st_if_lt (tgt := 34) dX8_byteAt_1 (by omega) rfl (fun h => ?_) (fun h => ?_)
  · skip
    exact no (by omega)
  · refine st_iload_n dX8_byteAt_4 rfl ?_
    refine st_aload_n dX8_byteAt_5 rfl ?_
    refine st_getfi dX8_byteAt_6 f_X8_15 (by first | with_reducible assumption | rfl) (by rfl) ?_
    rw [hn]
    refine st_icmp_ge (tgt := 34) dX8_byteAt_9 (by omega) (by omega) rfl (fun h2 => ?_) (fun h2 => ?_)
    · skip
      exact no (by omega)
    · refine st_iload_n dX8_byteAt_12 rfl ?_
      refine st_aload_n dX8_byteAt_13 rfl ?_
      refine st_getfr dX8_byteAt_14 f_X8_9 (by first | with_reducible assumption | rfl) (by rfl) ?_
      refine st_alen dX8_byteAt_17 (by first | with_reducible assumption | rfl) (by decide) ?_
      refine st_icmp_ge (tgt := 34) dX8_byteAt_18 (by omega) (by omega) rfl (fun h3 => ?_) (fun h3 => ?_)
      · skip
        omega
      · refine st_aload_n dX8_byteAt_21 rfl ?_
        refine st_getfr dX8_byteAt_22 f_X8_9 (by first | with_reducible assumption | rfl) (by rfl) ?_
        refine st_iload_n dX8_byteAt_25 rfl ?_
        refine st_bald dX8_byteAt_26 (by first | with_reducible assumption | rfl) (by omega) (by omega) ?_ (by decide)
        refine st_sipush dX8_byteAt_27 (by decide) ?_
        refine st_iand dX8_byteAt_30 ?_
        rw [z_255]
        refine st_goto (tgt := 35) dX8_byteAt_31 rfl ?_
        refine r_i dX8_byteAt_35 rfl ⟨by rw [bytA, if_pos (by omega)], rfl, rfl⟩
theorem C_peek {G : q_G} {d : Nat} {M : q_Mem} {N : q_MemL} {n p : Nat} (hd : 1 ≤ d) (hn : M 1 1 = (n : Int)) (hn2 : n ≤ 400) (hp : M 1 2 = (p : Int)) (hp2 : p < 1000) : AC0 G d m_X8_peek [.ref 1] M N (CV (fun x M' N' => N' = N ∧ x = I (bytA (M 2) n (skip (M 2) n p : Nat)) ∧ M' = q_up M 1 2 ((skip (M 2) n p : Nat) : Int))) := by
  have fin : ∀ (q : Nat) (M1 : q_Mem), q < 2000 → M1 = q_up M 1 2 (q : Int) → q = skip (M 2) n p → AW0 G d m_X8_peek 37 [some (.ref 1)] [] M1 N (CV (fun x M' N' => N' = N ∧ x = I (bytA (M 2) n (skip (M 2) n p : Nat)) ∧ M' = q_up M 1 2 ((skip (M 2) n p : Nat) : Int))) := by
    intro q M1 hq hM1 hs
    subst hM1
    refine st_aload_n dX8_peek_37 rfl ?_
    refine st_aload_n dX8_peek_38 rfl ?_
    refine st_getfi dX8_peek_39 f_X8_19 (by first | with_reducible assumption | rfl) (by rfl) ?_
    rw [show q_up M 1 2 (q : Int) 1 2 = (q : Int) by simp [q_up]]
    refine c_V1p (d' := d - 1) dX8_peek_42 l_X8_25 k_X8_byteAt i_X8_byteAt (Or.inl ⟨_, _, _, _, _, (by first | with_reducible assumption | rfl), by rfl⟩) (by omega) (Nat.le_of_ble_eq_true rfl) (C_byteAt (n := n) (by simp [q_up, hn]) hn2 (by unfold i32; omega)) ?_
    rw [show q_up M 1 2 (q : Int) 2 = M 2 from q_up_ne (by decide)]
    refine r_i dX8_peek_45 rfl ⟨rfl, by rw [hs], by rw [hs]⟩
  have loop : ∀ (m q : Nat) (M1 : q_Mem), q + m = max n p → p ≤ q → M1 = q_up M 1 2 (q : Int) → skB (M 2) n (n - q) q = skip (M 2) n p → AW0 G d m_X8_peek 0 [some (.ref 1)] [] M1 N (CV (fun x M' N' => N' = N ∧ x = I (bytA (M 2) n (skip (M 2) n p : Nat)) ∧ M' = q_up M 1 2 ((skip (M 2) n p : Nat) : Int))) := by
    intro m
    induction m with
    | zero =>
      intro q M1 hq hpq hM1 hs
      have e0 : n - q = 0 := by omega
      rw [e0] at hs
      have h2 : M1 1 2 = (q : Int) := by rw [hM1]; simp [q_up]
      have h1 : M1 1 1 = (n : Int) := by rw [hM1]; simp [q_up, hn]
      refine st_aload_n dX8_peek_0 rfl ?_
      refine st_getfi dX8_peek_1 f_X8_19 (by first | with_reducible assumption | rfl) (by rfl) ?_
      rw [h2]
      refine st_aload_n dX8_peek_4 rfl ?_
      refine st_getfi dX8_peek_5 f_X8_15 (by first | with_reducible assumption | rfl) (by rfl) ?_
      rw [h1]
      refine st_icmp_ge (tgt := 37) dX8_peek_8 (by omega) (by omega) rfl (fun c => ?_) (fun c => ?_)
      · skip
        exact fin q M1 (by omega) hM1 hs
      · skip
        omega
    | succ m ih =>
      intro q M1 hq hpq hM1 hs
      have h2 : M1 1 2 = (q : Int) := by rw [hM1]; simp [q_up]
      have h1 : M1 1 1 = (n : Int) := by rw [hM1]; simp [q_up, hn]
      have h3 : M1 2 = M 2 := by rw [hM1]; exact q_up_ne (by decide)
      refine st_aload_n dX8_peek_0 rfl ?_
      refine st_getfi dX8_peek_1 f_X8_19 (by first | with_reducible assumption | rfl) (by rfl) ?_
      rw [h2]
      refine st_aload_n dX8_peek_4 rfl ?_
      refine st_getfi dX8_peek_5 f_X8_15 (by first | with_reducible assumption | rfl) (by rfl) ?_
      rw [h1]
      refine st_icmp_ge (tgt := 37) dX8_peek_8 (by omega) (by omega) rfl (fun c => ?_) (fun c => ?_)
      · skip
        omega
      · refine st_aload_n dX8_peek_11 rfl ?_
        refine st_aload_n dX8_peek_12 rfl ?_
        refine st_getfi dX8_peek_13 f_X8_19 (by first | with_reducible assumption | rfl) (by rfl) ?_
        rw [h2]
        refine c_V1p (d' := d - 1) dX8_peek_16 l_X8_25 k_X8_byteAt i_X8_byteAt (Or.inl ⟨_, _, _, _, _, (by first | with_reducible assumption | rfl), by rfl⟩) (by omega) (Nat.le_of_ble_eq_true rfl) (C_byteAt (n := n) h1 hn2 (by unfold i32; omega)) ?_
        rw [h3]
        have hb := bytA_rng (M 2) n q
        rw [show n - q = n - (q + 1) + 1 by omega] at hs
        unfold skB at hs
        refine st_bipush dX8_peek_19 (by decide) ?_
        refine st_icmp_ne (tgt := 37) dX8_peek_21 (by omega) (by omega) rfl (fun c2 => ?_) (fun c2 => ?_)
        · skip
          rw [if_neg c2] at hs
          exact fin q M1 (by omega) hM1 hs
        · refine st_aload_n dX8_peek_24 rfl ?_
          refine st_dup dX8_peek_25 rfl ?_
          refine st_getfi dX8_peek_26 f_X8_19 (by first | with_reducible assumption | rfl) (by rfl) ?_
          rw [if_pos c2] at hs
          rw [h2]
          refine st_iconst dX8_peek_29 ?_
          refine st_iadd dX8_peek_30 ?_
          refine st_putfi dX8_peek_31 w_X8_19 (by first | with_reducible assumption | rfl) (by rfl) rfl rfl ?_
          refine st_goto (tgt := 0) dX8_peek_34 rfl ?_
          refine AW.to (ih (q + 1) (q_up M 1 2 ((q + 1 : Nat) : Int)) (by omega) (by omega) rfl hs) (h2 := rfl) (h4 := ?_)
          rw [hM1]
          funext a j
          simp [q_up]
          split <;> rfl
  refine AC.of (L0 := [_]) pn_X8 (Nat.le_of_ble_eq_true rfl) rfl ?_
  exact loop (max n p - p) p M (by omega) (Nat.le_refl _) (q_up_id hp.symm).symm rfl


/-! rows in the form that the reference's methods want: places as numbers, longs as integers -/
theorem st_ialdK {G : q_G} {d : Nat} {μ : q_M} {pc : Nat} {L : List (Option Value)} {st : List Value} {S : q_Sh} {M : q_Mem} {N : q_MemL} {k n : Nat} {Q : q_Q} {a nn : Nat} {vs : List Value} {j : Int} (k' : Nat) (hd : decode μ.2.1 pc = .ok (.iaload, 1)) (hSa : S[a]? = some (20, nn, vs)) (hj : j = (k' : Int)) (h1 : k' < nn) (kk : AW G d μ (pc + 1) L (I (M a k') :: st) S M N k n Q) (hn : nn < 2147483648 := by decide) : AW G d μ pc L (I j :: .ref a :: st) S M N k n Q := by
  subst hj
  refine st_iald hd hSa (by omega) (by omega) ?_ hn
  rw [Int.toNat_natCast]
  exact kk
theorem st_baldK {G : q_G} {d : Nat} {μ : q_M} {pc : Nat} {L : List (Option Value)} {st : List Value} {S : q_Sh} {M : q_Mem} {N : q_MemL} {k n : Nat} {Q : q_Q} {a nn : Nat} {vs : List Value} {j : Int} (k' : Nat) (hd : decode μ.2.1 pc = .ok (.baload, 1)) (hSa : S[a]? = some (21, nn, vs)) (hj : j = (k' : Int)) (h1 : k' < nn) (kk : AW G d μ (pc + 1) L (I (M a k') :: st) S M N k n Q) (hn : nn < 2147483648 := by decide) : AW G d μ pc L (I j :: .ref a :: st) S M N k n Q := by
  subst hj
  refine st_bald hd hSa (by omega) (by omega) ?_ hn
  rw [Int.toNat_natCast]
  exact kk
theorem st_laldK {G : q_G} {d : Nat} {μ : q_M} {pc : Nat} {L : List (Option Value)} {st : List Value} {S : q_Sh} {M : q_Mem} {N : q_MemL} {k n : Nat} {Q : q_Q} {a nn : Nat} {vs : List Value} {j : Int} (k' : Nat) (hd : decode μ.2.1 pc = .ok (.laload, 1)) (hSa : S[a]? = some (23, nn, vs)) (hj : j = (k' : Int)) (h1 : k' < nn) (kk : AW G d μ (pc + 1) L (.long (N a k') :: st) S M N k n Q) (hn : nn < 2147483648 := by decide) : AW G d μ pc L (I j :: .ref a :: st) S M N k n Q := by
  subst hj
  refine st_lald hd hSa (by omega) (by omega) ?_ hn
  rw [Int.toNat_natCast]
  exact kk
theorem st_iastK {G : q_G} {d : Nat} {μ : q_M} {pc : Nat} {L : List (Option Value)} {st : List Value} {S : q_Sh} {M : q_Mem} {N : q_MemL} {k n : Nat} {Q : q_Q} {a nn : Nat} {vs : List Value} {j z : Int} (k' : Nat) (hd : decode μ.2.1 pc = .ok (.iastore, 1)) (hSa : S[a]? = some (20, nn, vs)) (hj : j = (k' : Int)) (h1 : k' < nn) (kk : AW G d μ (pc + 1) L st S (q_up M a k' z) N k n Q) (hn : nn < 2147483648 := by decide) : AW G d μ pc L (I z :: I j :: .ref a :: st) S M N k n Q := by
  subst hj
  refine st_iast hd hSa (by omega) (by omega) ?_ hn
  rw [Int.toNat_natCast]
  exact kk
theorem st_lastK {G : q_G} {d : Nat} {μ : q_M} {pc : Nat} {L : List (Option Value)} {st : List Value} {S : q_Sh} {M : q_Mem} {N : q_MemL} {k n : Nat} {Q : q_Q} {a nn : Nat} {vs : List Value} {j : Int} {z : Int64} (k' : Nat) (hd : decode μ.2.1 pc = .ok (.lastore, 1)) (hSa : S[a]? = some (23, nn, vs)) (hj : j = (k' : Int)) (h1 : k' < nn) (kk : AW G d μ (pc + 1) L st S M (q_upL N a k' z) k n Q) (hn : nn < 2147483648 := by decide) : AW G d μ pc L (.long z :: I j :: .ref a :: st) S M N k n Q := by
  subst hj
  refine st_last hd hSa (by omega) (by omega) ?_ hn
  rw [Int.toNat_natCast]
  exact kk
theorem st_i2lK {G : q_G} {d : Nat} {μ : q_M} {pc : Nat} {L : List (Option Value)} {st : List Value} {S : q_Sh} {M : q_Mem} {N : q_MemL} {k n : Nat} {Q : q_Q} {x : Int} (hd : decode μ.2.1 pc = .ok (.i2l, 1)) (hx : -2147483648 ≤ x ∧ x < 2147483648) (kk : AW G d μ (pc + 1) L (J x :: st) S M N k n Q) : AW G d μ pc L (I x :: st) S M N k n Q := by
  refine st_i2l hd ?_
  rw [j_i2l hx]
  exact kk
theorem st_lc0K {G : q_G} {d : Nat} {μ : q_M} {pc : Nat} {L : List (Option Value)} {st : List Value} {S : q_Sh} {M : q_Mem} {N : q_MemL} {k n : Nat} {Q : q_Q} (hd : decode μ.2.1 pc = .ok (.lconst 0, 1)) (kk : AW G d μ (pc + 1) L (J 0 :: st) S M N k n Q) : AW G d μ pc L st S M N k n Q := st_lconst hd (AW.topv rfl kk)
theorem st_lc1K {G : q_G} {d : Nat} {μ : q_M} {pc : Nat} {L : List (Option Value)} {st : List Value} {S : q_Sh} {M : q_Mem} {N : q_MemL} {k n : Nat} {Q : q_Q} (hd : decode μ.2.1 pc = .ok (.lconst 1, 1)) (kk : AW G d μ (pc + 1) L (J 1 :: st) S M N k n Q) : AW G d μ pc L st S M N k n Q := st_lconst hd (AW.topv rfl kk)
def cmpJ (x y : Int) : Int := if y < x then 1 else if x = y then 0 else -1
theorem cmpJ_rng (x y : Int) : -2147483648 ≤ cmpJ x y ∧ cmpJ x y < 2147483648 := by
  unfold cmpJ
  split
  · omega
  · split <;> omega
theorem cmpJ_lt {x y : Int} : cmpJ x y < 0 ↔ x < y := by
  unfold cmpJ
  split
  · omega
  · split <;> omega
theorem cmpJ_gt {x y : Int} : 0 < cmpJ x y ↔ y < x := by
  unfold cmpJ
  split
  · omega
  · split <;> omega
theorem cmpJ_eq {x y : Int} : cmpJ x y = 0 ↔ x = y := by
  unfold cmpJ
  split
  · omega
  · split <;> omega
def i64 (x : Int) : Prop := -9223372036854775808 ≤ x ∧ x < 9223372036854775808
theorem st_lcmpJ {G : q_G} {d : Nat} {μ : q_M} {pc : Nat} {L : List (Option Value)} {st : List Value} {S : q_Sh} {M : q_Mem} {N : q_MemL} {k n : Nat} {Q : q_Q} {x y : Int} (hd : decode μ.2.1 pc = .ok (.lcmp, 1)) (hx : -9223372036854775808 ≤ x ∧ x < 9223372036854775808) (hy : -9223372036854775808 ≤ y ∧ y < 9223372036854775808) (kk : AW G d μ (pc + 1) L (I (cmpJ x y) :: st) S M N k n Q) : AW G d μ pc L (J y :: J x :: st) S M N k n Q := by
  refine st_lcmp hd (AW.top ?_ kk)
  unfold lg_cmp cmpJ
  by_cases h1 : y < x
  · rw [if_pos h1, if_pos (show Int64.ofInt y < Int64.ofInt x from (j_lt hy hx).2 h1)]; rfl
  · rw [if_neg h1, if_neg (show ¬ Int64.ofInt y < Int64.ofInt x from fun z => h1 ((j_lt hy hx).1 z))]
    by_cases h2 : x = y
    · rw [if_pos h2, if_pos (by rw [h2])]; rfl
    · rw [if_neg h2, if_neg (fun z => h2 ((j_eq hx hy).1 z))]; rfl
theorem st_laddJ {G : q_G} {d : Nat} {μ : q_M} {pc : Nat} {L : List (Option Value)} {st : List Value} {S : q_Sh} {M : q_Mem} {N : q_MemL} {k n : Nat} {Q : q_Q} {x y : Int} (hd : decode μ.2.1 pc = .ok (.ladd, 1)) (kk : AW G d μ (pc + 1) L (J (x + y) :: st) S M N k n Q) : AW G d μ pc L (J y :: J x :: st) S M N k n Q := st_ladd hd (AW.topv (by rw [← Int64.ofInt_add]) kk)
theorem st_lmulJ {G : q_G} {d : Nat} {μ : q_M} {pc : Nat} {L : List (Option Value)} {st : List Value} {S : q_Sh} {M : q_Mem} {N : q_MemL} {k n : Nat} {Q : q_Q} {x y : Int} (hd : decode μ.2.1 pc = .ok (.lmul, 1)) (kk : AW G d μ (pc + 1) L (J (x * y) :: st) S M N k n Q) : AW G d μ pc L (J y :: J x :: st) S M N k n Q := st_lmul hd (AW.topv (by rw [← Int64.ofInt_mul]) kk)
theorem st_l2iJ {G : q_G} {d : Nat} {μ : q_M} {pc : Nat} {L : List (Option Value)} {st : List Value} {S : q_Sh} {M : q_Mem} {N : q_MemL} {k n : Nat} {Q : q_Q} {x : Int} (hd : decode μ.2.1 pc = .ok (.l2i, 1)) (kk : AW G d μ (pc + 1) L (I x :: st) S M N k n Q) : AW G d μ pc L (J x :: st) S M N k n Q := st_l2i hd (AW.topv (by rw [Int64.toInt32_ofInt]; rfl) kk)
theorem st_idivK {G : q_G} {d : Nat} {μ : q_M} {pc : Nat} {L : List (Option Value)} {st : List Value} {S : q_Sh} {M : q_Mem} {N : q_MemL} {k n : Nat} {Q : q_Q} {x y : Int} (hd : decode μ.2.1 pc = .ok (.idiv, 1)) (hx : 0 ≤ x ∧ x < 2147483648) (hy : 0 < y ∧ y < 2147483648) (kk : AW G d μ (pc + 1) L (I (x / y) :: st) S M N k n Q) : AW G d μ pc L (I y :: I x :: st) S M N k n Q := st_idiv hd (zi_ne0 hy) (AW.top (zi_divI hx hy) kk)
theorem st_iremK {G : q_G} {d : Nat} {μ : q_M} {pc : Nat} {L : List (Option Value)} {st : List Value} {S : q_Sh} {M : q_Mem} {N : q_MemL} {k n : Nat} {Q : q_Q} {x y : Int} (hd : decode μ.2.1 pc = .ok (.irem, 1)) (hx : 0 ≤ x ∧ x < 2147483648) (hy : 0 < y ∧ y < 2147483648) (kk : AW G d μ (pc + 1) L (I (x % y) :: st) S M N k n Q) : AW G d μ pc L (I y :: I x :: st) S M N k n Q := st_irem hd (zi_ne0 hy) (AW.top (zi_remI hx hy) kk)
/-- a bit of a set, as the reference asks for it -/
def bitI (s : Int) (k : Nat) : Int := if s.toNat.testBit k = true then 1 else 0
theorem bitI_rng (s : Int) (k : Nat) : 0 ≤ bitI s k ∧ bitI s k ≤ 1 := by unfold bitI; split <;> omega
theorem bit_eq (a k : Nat) : ((a / 2 ^ k &&& 1 : Nat) : Int) = if a.testBit k = true then 1 else 0 := by
  rw [Nat.testBit_eq_decide_div_mod_eq, Nat.and_one_is_mod]
  by_cases h : a / 2 ^ k % 2 = 1
  · simp [h]
  · have : a / 2 ^ k % 2 = 0 := by omega
    simp [this]
theorem z_bit {s : Int} {k : Nat} (hs : 0 ≤ s ∧ s < 2147483648) (hk : k < 32) : (zi s >>> (zi k &&& 31)) &&& zi 1 = zi (bitI s k) := by
  have e : zi s = zi ((s.toNat : Nat) : Int) := by rw [Int.toNat_of_nonneg hs.1]
  rw [e, zi_shr _ _ (by omega) hk]
  show zi _ &&& zi ((1 : Nat) : Int) = _
  rw [zi_and, bit_eq]
  rfl
theorem bz_iff {c c' : Prop} [hc : Decidable c] [hc' : Decidable c'] (h : c ↔ c') : Bz c = Bz c' := by
  unfold Bz
  by_cases x : c
  · rw [if_pos x, if_pos (h.1 x)]
  · rw [if_neg x, if_neg (fun z => x (h.2 z))]


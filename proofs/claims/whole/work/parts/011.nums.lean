/-! bits of numbers -/
theorem z_bv (n : Nat) : (zi n).toBitVec = BitVec.ofNat 32 n := BitVec.ofInt_natCast 32 n
theorem zi_and (a b : Nat) : zi a &&& zi b = zi ((a &&& b : Nat) : Int) := by
  apply Int32.toBitVec.inj
  rw [Int32.toBitVec_and, z_bv, z_bv, z_bv]
  apply BitVec.eq_of_toNat_eq
  rw [BitVec.toNat_and, BitVec.toNat_ofNat, BitVec.toNat_ofNat, BitVec.toNat_ofNat, Nat.and_mod_two_pow]
theorem zi_or (a b : Nat) : zi a ||| zi b = zi ((a ||| b : Nat) : Int) := by
  apply Int32.toBitVec.inj
  rw [Int32.toBitVec_or, z_bv, z_bv, z_bv]
  apply BitVec.eq_of_toNat_eq
  rw [BitVec.toNat_or, BitVec.toNat_ofNat, BitVec.toNat_ofNat, BitVec.toNat_ofNat, Nat.or_mod_two_pow]
theorem z_sl : ∀ k, k < 32 → ((zi (k : Nat) &&& 31).toBitVec.smod 32).toNat = k := by decide +kernel
theorem z_su : ∀ k, k < 32 → (((zi (k : Nat)).toUInt32 &&& Int32.toUInt32 31).toBitVec % 32).toNat = k := by decide +kernel
theorem zi_shl (a k : Nat) (hk : k < 32) : zi a <<< (zi k &&& 31) = zi ((a * 2 ^ k : Nat) : Int) := by
  apply Int32.toBitVec.inj
  rw [z_bv]
  show (zi a).toBitVec <<< ((zi k &&& 31).toBitVec.smod 32) = _
  rw [BitVec.shiftLeft_eq', z_sl k hk, z_bv]
  apply BitVec.eq_of_toNat_eq
  rw [BitVec.toNat_shiftLeft, BitVec.toNat_ofNat, BitVec.toNat_ofNat, Nat.shiftLeft_eq, Nat.mod_mul_mod]
theorem zi_ushr (a k : Nat) (ha : a < 4294967296) (hk : k < 32) : ((zi a).toUInt32 >>> ((zi k).toUInt32 &&& Int32.toUInt32 31)).toInt32 = zi ((a / 2 ^ k : Nat) : Int) := by
  apply Int32.toBitVec.inj
  rw [z_bv]
  show (zi a).toBitVec >>> (((zi k).toUInt32 &&& Int32.toUInt32 31).toBitVec % 32) = _
  rw [BitVec.ushiftRight_eq', z_su k hk, z_bv]
  apply BitVec.eq_of_toNat_eq
  rw [BitVec.toNat_ushiftRight, BitVec.toNat_ofNat, BitVec.toNat_ofNat, Nat.shiftRight_eq_div_pow, Nat.mod_eq_of_lt (by omega), Nat.mod_eq_of_lt]
  exact Nat.lt_of_le_of_lt (Nat.div_le_self _ _) (by omega)
theorem zi_shr (a k : Nat) (ha : a < 2147483648) (hk : k < 32) : zi a >>> (zi k &&& 31) = zi ((a / 2 ^ k : Nat) : Int) := by
  apply Int32.toBitVec.inj
  rw [z_bv]
  show (zi a).toBitVec.sshiftRight' ((zi k &&& 31).toBitVec.smod 32) = _
  rw [BitVec.sshiftRight_eq', z_sl k hk, z_bv, BitVec.sshiftRight_eq_of_msb_false]
  · apply BitVec.eq_of_toNat_eq
    rw [BitVec.toNat_ushiftRight, BitVec.toNat_ofNat, BitVec.toNat_ofNat, Nat.shiftRight_eq_div_pow, Nat.mod_eq_of_lt (by omega), Nat.mod_eq_of_lt]
    exact Nat.lt_of_le_of_lt (Nat.div_le_self _ _) (by omega)
  · rw [BitVec.msb_eq_false_iff_two_mul_lt, BitVec.toNat_ofNat, Nat.mod_eq_of_lt (by omega)]
    omega
theorem zi_raw (x : Int32) : x = zi x.toInt := (Int32.ofInt_toInt x).symm
theorem zi_add (x y : Int) : zi x + zi y = zi (x + y) := (Int32.ofInt_add x y).symm
theorem zi_sub (x y : Int) : zi x - zi y = zi (x - y) := (Int32.ofInt_sub x y).symm
theorem zi_mul (x y : Int) : zi x * zi y = zi (x * y) := (Int32.ofInt_mul x y).symm
theorem zi_div (a b : Nat) (ha : a < 2147483648) (hb : b < 2147483648) : zi a / zi b = zi ((a / b : Nat) : Int) := by
  have h := Int32.ofInt_tdiv (a := (a : Int)) (b := (b : Int)) (by show (-2147483648 : Int) ≤ _; omega) (by show _ ≤ (2147483647 : Int); omega) (by show (-2147483648 : Int) ≤ _; omega) (by show _ ≤ (2147483647 : Int); omega)
  show Int32.ofInt a / Int32.ofInt b = _
  rw [← h]
  rfl
theorem zi_rem (a b : Nat) (ha : a < 2147483648) (hb : b < 2147483648) : zi a - zi a / zi b * zi b = zi ((a % b : Nat) : Int) := by
  rw [zi_div a b ha hb, zi_mul, zi_sub]
  congr 1
  have := Nat.div_add_mod a b
  have h2 : ((a / b : Nat) : Int) * (b : Int) = ((b * (a / b) : Nat) : Int) := by rw [Int.natCast_mul]; exact Int.mul_comm _ _
  rw [h2]
  omega
/-! longs -/
abbrev J (z : Int) : Value := .long (Int64.ofInt z)
theorem j_i2l {x : Int} (hx : -2147483648 ≤ x ∧ x < 2147483648) : (zi x).toInt64 = Int64.ofInt x := Int32.toInt64_ofInt (by show (-2147483648 : Int) ≤ _; omega) (by show _ ≤ (2147483647 : Int); omega)
theorem j_toInt {x : Int} (hx : -9223372036854775808 ≤ x ∧ x < 9223372036854775808) : (Int64.ofInt x).toInt = x := Int64.toInt_ofInt_of_le (by omega) (by omega)
theorem j_lt {x y : Int} (hx : -9223372036854775808 ≤ x ∧ x < 9223372036854775808) (hy : -9223372036854775808 ≤ y ∧ y < 9223372036854775808) : Int64.ofInt x < Int64.ofInt y ↔ x < y := by
  rw [Int64.lt_iff_toInt_lt, j_toInt hx, j_toInt hy]
theorem j_le {x y : Int} (hx : -9223372036854775808 ≤ x ∧ x < 9223372036854775808) (hy : -9223372036854775808 ≤ y ∧ y < 9223372036854775808) : Int64.ofInt x ≤ Int64.ofInt y ↔ x ≤ y := by
  rw [Int64.le_iff_toInt_le, j_toInt hx, j_toInt hy]
theorem j_eq {x y : Int} (hx : -9223372036854775808 ≤ x ∧ x < 9223372036854775808) (hy : -9223372036854775808 ≤ y ∧ y < 9223372036854775808) : Int64.ofInt x = Int64.ofInt y ↔ x = y := by
  rw [← Int64.toInt_inj, j_toInt hx, j_toInt hy]
/-! situations and places as numbers: digits of 3 and of 2 bits -/
def g8 (s : Int) (k : Nat) : Int := ((s.toNat / 8 ^ k % 8 : Nat) : Int)
def g4 (s : Int) (k : Nat) : Int := ((s.toNat / 4 ^ k % 4 : Nat) : Int)
theorem g8_lt (s : Int) (k : Nat) : 0 ≤ g8 s k ∧ g8 s k < 8 := by unfold g8; omega
theorem g4_lt (s : Int) (k : Nat) : 0 ≤ g4 s k ∧ g4 s k < 4 := by unfold g4; omega
theorem n_mask {b k i : Nat} : ((2 ^ b - 1) * 2 ^ k).testBit i = (decide (k ≤ i) && decide (i < k + b)) := by
  rw [← Nat.shiftLeft_eq, Nat.testBit_shiftLeft, Nat.testBit_two_pow_sub_one]
  by_cases h : k ≤ i
  · have e : (i - k < b) = (i < k + b) := by apply propext; omega
    simp [h, e]
  · simp [h]
theorem n_dig {b k s t : Nat} : (s / 2 ^ k % 2 ^ b).testBit t = (decide (t < b) && s.testBit (k + t)) := by
  rw [Nat.testBit_mod_two_pow, Nat.testBit_div_two_pow, Nat.add_comm]
def w_n (b k s v : Nat) : Nat := (s &&& (2 ^ 32 - ((2 ^ b - 1) * 2 ^ k + 1))) ||| (v * 2 ^ k)
theorem w_n_bit {b k s v i : Nat} (hb : (2 ^ b - 1) * 2 ^ k < 2 ^ 32) (hs : s < 2 ^ 31) : (w_n b k s v).testBit i = ((s.testBit i && !(decide (k ≤ i) && decide (i < k + b))) || (decide (k ≤ i) && v.testBit (i - k))) := by
  unfold w_n
  rw [Nat.testBit_or, Nat.testBit_and, Nat.testBit_two_pow_sub_succ hb, n_mask, ← Nat.shiftLeft_eq, Nat.testBit_shiftLeft]
  by_cases hi : i < 32
  · simp [hi]
  · have : s.testBit i = false := Nat.testBit_lt_two_pow (Nat.lt_of_lt_of_le hs (Nat.pow_le_pow_right (by decide) (by omega)))
    simp [this]
theorem w_n_dig {b k s v j : Nat} (hb : (2 ^ b - 1) * 2 ^ (b * k) < 2 ^ 32) (hs : s < 2 ^ 31) (hv : v < 2 ^ b) : w_n b (b * k) s v / 2 ^ (b * j) % 2 ^ b = if j = k then v else s / 2 ^ (b * j) % 2 ^ b := by
  apply Nat.eq_of_testBit_eq
  intro t
  rw [n_dig, w_n_bit hb hs]
  by_cases ht : t < b
  · by_cases hj : j = k
    · subst hj
      rw [if_pos rfl]
      have e : b * j + t - b * j = t := by omega
      simp [ht, e]
    · rw [if_neg hj, n_dig]
      have h1 : ¬ (b * k ≤ b * j + t ∧ b * j + t < b * k + b) := by
        intro ⟨q1, q2⟩
        rcases Nat.lt_or_gt_of_ne hj with q | q
        · have := Nat.mul_le_mul_left b (Nat.succ_le_of_lt q)
          rw [Nat.mul_succ] at this
          omega
        · have := Nat.mul_le_mul_left b (Nat.succ_le_of_lt q)
          rw [Nat.mul_succ] at this
          omega
      have h2 : b * k ≤ b * j + t → v.testBit (b * j + t - b * k) = false := fun q => by
        apply Nat.testBit_lt_two_pow
        refine Nat.lt_of_lt_of_le hv (Nat.pow_le_pow_right (by decide) ?_)
        omega
      by_cases q : b * k ≤ b * j + t
      · have q2 : ¬ b * j + t < b * k + b := fun z => h1 ⟨q, z⟩
        simp [ht, q, q2, h2 q]
      · simp [ht, q]
  · by_cases hj : j = k
    · rw [if_pos hj]
      have : v.testBit t = false := Nat.testBit_lt_two_pow (Nat.lt_of_lt_of_le hv (Nat.pow_le_pow_right (by decide) (by omega)))
      simp [ht, this]
    · rw [if_neg hj, n_dig]
      simp [ht]
theorem w_n_lt {b k s v m : Nat} (hs : s < 2 ^ m) (hv : v * 2 ^ k < 2 ^ m) : w_n b k s v < 2 ^ m := Nat.or_lt_two_pow (Nat.lt_of_le_of_lt Nat.and_le_left hs) hv
def w8 (s : Int) (k : Nat) (v : Int) : Int := ((w_n 3 (3 * k) s.toNat v.toNat : Nat) : Int)
def w4 (s : Int) (k : Nat) (v : Int) : Int := ((w_n 2 (2 * k) s.toNat v.toNat : Nat) : Int)
theorem p8 (k : Nat) : (8 : Nat) ^ k = 2 ^ (3 * k) := by rw [Nat.pow_mul]
theorem p4 (k : Nat) : (4 : Nat) ^ k = 2 ^ (2 * k) := by rw [Nat.pow_mul]
theorem m8 {k : Nat} (hk : k < 10) : (2 ^ 3 - 1) * 2 ^ (3 * k) < 2 ^ 30 := by
  have : ∀ k, k < 10 → (2 ^ 3 - 1) * 2 ^ (3 * k) < 2 ^ 30 := by decide
  exact this k hk
theorem m4 {k : Nat} (hk : k < 10) : (2 ^ 2 - 1) * 2 ^ (2 * k) < 2 ^ 20 := by
  have : ∀ k, k < 10 → (2 ^ 2 - 1) * 2 ^ (2 * k) < 2 ^ 20 := by decide
  exact this k hk
theorem g8_w8 {s v : Int} {k j : Nat} (hs : 0 ≤ s ∧ s < 1073741824) (hk : k < 10) (hv : 0 ≤ v ∧ v < 8) : g8 (w8 s k v) j = if j = k then v else g8 s j := by
  unfold g8 w8
  rw [Int.toNat_natCast, p8, show (8 : Nat) = 2 ^ 3 from rfl, w_n_dig (Nat.lt_trans (m8 hk) (by decide)) (by omega) (by omega)]
  split
  · omega
  · rfl
theorem g4_w4 {s v : Int} {k j : Nat} (hs : 0 ≤ s ∧ s < 1048576) (hk : k < 10) (hv : 0 ≤ v ∧ v < 4) : g4 (w4 s k v) j = if j = k then v else g4 s j := by
  unfold g4 w4
  rw [Int.toNat_natCast, p4, show (4 : Nat) = 2 ^ 2 from rfl, w_n_dig (Nat.lt_trans (m4 hk) (by decide)) (by omega) (by omega)]
  split
  · omega
  · rfl
theorem w8_lt {s v : Int} {k : Nat} (hs : 0 ≤ s ∧ s < 1073741824) (hk : k < 10) (hv : 0 ≤ v ∧ v < 8) : 0 ≤ w8 s k v ∧ w8 s k v < 1073741824 := by
  unfold w8
  have h1 := m8 hk
  have h2 : v.toNat * 2 ^ (3 * k) ≤ (2 ^ 3 - 1) * 2 ^ (3 * k) := Nat.mul_le_mul_right _ (by omega)
  have h3 := w_n_lt (b := 3) (k := 3 * k) (s := s.toNat) (v := v.toNat) (m := 30) (by omega) (by omega)
  omega
theorem w4_lt {s v : Int} {k : Nat} (hs : 0 ≤ s ∧ s < 1048576) (hk : k < 10) (hv : 0 ≤ v ∧ v < 4) : 0 ≤ w4 s k v ∧ w4 s k v < 1048576 := by
  unfold w4
  have h1 := m4 hk
  have h2 : v.toNat * 2 ^ (2 * k) ≤ (2 ^ 2 - 1) * 2 ^ (2 * k) := Nat.mul_le_mul_right _ (by omega)
  have h3 := w_n_lt (b := 2) (k := 2 * k) (s := s.toNat) (v := v.toNat) (m := 20) (by omega) (by omega)
  omega
theorem z_toN {s : Int} (h : 0 ≤ s) : s = ((s.toNat : Nat) : Int) := by omega
theorem z_st {s : Int} (hs : 0 ≤ s ∧ s < 2147483648) {k : Nat} (hk : k < 10) : ((zi s).toUInt32 >>> ((zi (3 * (k : Int))).toUInt32 &&& Int32.toUInt32 31)).toInt32 &&& zi 7 = zi (g8 s k) := by
  rw [z_toN hs.1, show (3 * (k : Int)) = ((3 * k : Nat) : Int) by omega, zi_ushr _ _ (by omega) (by omega), show (7 : Int) = ((7 : Nat) : Int) from rfl, zi_and]
  unfold g8
  rw [Int.toNat_natCast, p8, show (7 : Nat) = 2 ^ 3 - 1 from rfl, Nat.and_two_pow_sub_one_eq_mod]
theorem z_rm {s : Int} (hs : 0 ≤ s ∧ s < 2147483648) {k : Nat} (hk : k < 10) : ((zi s).toUInt32 >>> ((zi (2 * (k : Int))).toUInt32 &&& Int32.toUInt32 31)).toInt32 &&& zi 3 = zi (g4 s k) := by
  rw [z_toN hs.1, show (2 * (k : Int)) = ((2 * k : Nat) : Int) by omega, zi_ushr _ _ (by omega) (by omega), show (3 : Int) = ((3 : Nat) : Int) from rfl, zi_and]
  unfold g4
  rw [Int.toNat_natCast, p4, show (3 : Nat) = 2 ^ 2 - 1 from rfl, Nat.and_two_pow_sub_one_eq_mod]
theorem zi_andnot (a m : Nat) (hm : m < 2 ^ 32) : zi a &&& (zi m ^^^ zi (-1)) = zi ((a &&& (2 ^ 32 - (m + 1)) : Nat) : Int) := by
  apply Int32.toBitVec.inj
  rw [Int32.toBitVec_and, Int32.toBitVec_xor, z_bv, z_bv, z_bv, show (zi (-1)).toBitVec = BitVec.allOnes 32 from by decide, BitVec.xor_allOnes]
  apply BitVec.eq_of_toNat_eq
  rw [BitVec.toNat_and, BitVec.toNat_not, BitVec.toNat_ofNat, BitVec.toNat_ofNat, BitVec.toNat_ofNat, Nat.and_mod_two_pow, Nat.mod_eq_of_lt hm, Nat.mod_eq_of_lt (a := 2 ^ 32 - (m + 1)) (by omega)]
  congr 1
  omega
theorem z_wst {s v : Int} (hs : 0 ≤ s) (hv : 0 ≤ v ∧ v < 8) {k : Nat} (hk : k < 10) : (zi s &&& ((zi 7 <<< (zi (3 * (k : Int)) &&& 31)) ^^^ zi (-1))) ||| ((zi v &&& zi 7) <<< (zi (3 * (k : Int)) &&& 31)) = zi (w8 s k v) := by
  have h1 := m8 hk
  rw [z_toN hs, z_toN hv.1, show (3 * (k : Int)) = ((3 * k : Nat) : Int) by omega, show (7 : Int) = ((2 ^ 3 - 1 : Nat) : Int) from rfl, zi_shl _ _ (by omega), zi_andnot _ _ (Nat.lt_trans h1 (by decide)), zi_and, zi_shl _ _ (by omega), zi_or, Nat.and_two_pow_sub_one_eq_mod, Nat.mod_eq_of_lt (a := v.toNat) (by omega)]
  unfold w8 w_n
  rw [Int.toNat_natCast, Int.toNat_natCast]
theorem z_wrm {s v : Int} (hs : 0 ≤ s) (hv : 0 ≤ v ∧ v < 4) {k : Nat} (hk : k < 10) : (zi s &&& ((zi 3 <<< (zi (2 * (k : Int)) &&& 31)) ^^^ zi (-1))) ||| ((zi v &&& zi 3) <<< (zi (2 * (k : Int)) &&& 31)) = zi (w4 s k v) := by
  have h1 := m4 hk
  rw [z_toN hs, z_toN hv.1, show (2 * (k : Int)) = ((2 * k : Nat) : Int) by omega, show (3 : Int) = ((2 ^ 2 - 1 : Nat) : Int) from rfl, zi_shl _ _ (by omega), zi_andnot _ _ (Nat.lt_trans h1 (by decide)), zi_and, zi_shl _ _ (by omega), zi_or, Nat.and_two_pow_sub_one_eq_mod, Nat.mod_eq_of_lt (a := v.toNat) (by omega)]
  unfold w4 w_n
  rw [Int.toNat_natCast, Int.toNat_natCast]
/-- two numbers with the same digits are one -/
theorem dig_inj {b n : Nat} : ∀ {x y : Nat}, x < 2 ^ (b * n) → y < 2 ^ (b * n) → (∀ j, j < n → x / 2 ^ (b * j) % 2 ^ b = y / 2 ^ (b * j) % 2 ^ b) → x = y := by
  intro x y hx hy h
  apply Nat.eq_of_testBit_eq
  intro i
  by_cases hi : i < b * n
  · have hb : 0 < b := Nat.pos_of_ne_zero (fun q => by subst q; simp at hi)
    have h1 := h (i / b) (Nat.div_lt_of_lt_mul hi)
    have h2 := congrArg (fun z => z.testBit (i % b)) h1
    simp only [n_dig] at h2
    have h3 : b * (i / b) + i % b = i := Nat.div_add_mod i b
    rw [h3] at h2
    simpa [Nat.mod_lt _ hb] using h2
  · rw [Nat.testBit_lt_two_pow (Nat.lt_of_lt_of_le hx (Nat.pow_le_pow_right (by decide) (by omega))), Nat.testBit_lt_two_pow (Nat.lt_of_lt_of_le hy (Nat.pow_le_pow_right (by decide) (by omega)))]
theorem g8_inj {x y : Int} (hx : 0 ≤ x ∧ x < 1073741824) (hy : 0 ≤ y ∧ y < 1073741824) (h : ∀ j, j < 10 → g8 x j = g8 y j) : x = y := by
  have := dig_inj (b := 3) (n := 10) (x := x.toNat) (y := y.toNat) (by omega) (by omega) (fun j hj => by
    have := h j hj
    unfold g8 at this
    rw [← p8, show (2 : Nat) ^ 3 = 8 from rfl]
    omega)
  omega
theorem g4_inj {x y : Int} (hx : 0 ≤ x ∧ x < 1048576) (hy : 0 ≤ y ∧ y < 1048576) (h : ∀ j, j < 10 → g4 x j = g4 y j) : x = y := by
  have := dig_inj (b := 2) (n := 10) (x := x.toNat) (y := y.toNat) (by omega) (by omega) (fun j hj => by
    have := h j hj
    unfold g4 at this
    rw [← p4, show (2 : Nat) ^ 2 = 4 from rfl]
    omega)
  omega
/-! java.lang.Math: the machine's own rows -/
theorem mm_ini : Cond.initialized "java/lang/Math" ∈ q_W := q_mem 18 (by decide +kernel) rfl
theorem mmax_stat : Cond.static Lib.Math.max.name ∈ q_W := q_mem 721 (by decide +kernel) rfl
theorem mmax_code : Cond.code Lib.Math.max.name Lib.Math.max.code 2 (some .int) ∈ q_W := q_mem 722 (by decide +kernel) rfl
theorem lm_X2_97 : Cond.methodLink RX2 97 Lib.Math.max.name ∈ q_W := q_mem 720 (by decide +kernel) rfl
theorem lm_X1_53 : Cond.methodLink RX1 53 Lib.Math.max.name ∈ q_W := q_mem 909 (by decide +kernel) rfl
theorem lm_X4_42 : Cond.methodLink RX4 42 Lib.Math.max.name ∈ q_W := q_mem 938 (by decide +kernel) rfl
theorem lm_X0_114 : Cond.methodLink RX0 114 Lib.Math.max.name ∈ q_W := q_mem 996 (by decide +kernel) rfl
theorem lm_X9_79 : Cond.methodLink RX9 79 Lib.Math.max.name ∈ q_W := q_mem 1089 (by decide +kernel) rfl
theorem z_max {x y : Int} (hx : -2147483648 ≤ x ∧ x < 2147483648) (hy : -2147483648 ≤ y ∧ y < 2147483648) : (if zi x < zi y then zi y else zi x) = zi (max x y) := by
  simp only [zi_lt hx hy]
  split
  · rw [Int.max_eq_right (by omega)]
  · rw [Int.max_eq_left (by omega)]
theorem st_mmax {G : q_G} {d : Nat} {μ : q_M} {pc : Nat} {L : List (Option Value)} {st : List Value} {S : q_Sh} {M : q_Mem} {N : q_MemL} {k n : Nat} {Q : q_Q} {idx : Nat} {x y : Int} (hd : decode μ.2.1 pc = .ok (.invokestatic idx, 3)) (hl : Cond.methodLink μ.1.cls idx Lib.Math.max.name ∈ q_W) (hd' : 1 ≤ d) (hw : (st.map fun v => v.category).sum ≤ 8) (hx : -2147483648 ≤ x ∧ x < 2147483648) (hy : -2147483648 ≤ y ∧ y < 2147483648) (kk : AW G d μ (pc + 3) L (I (max x y) :: st) S M N k n Q) : AW G d μ pc L (I y :: I x :: st) S M N k n Q := by
  intro p e R s m args below meth c Z H locs ls cells slots C hR hS hL hcl hso hret
  refine va_mmax C.1 C.2.1 (C.2.2.1.trans hL.size.symm) C.2.2.2.1 (C.2.2.2.2.1 _ hl) (C.2.2.2.2.1 _ mmax_stat) (C.2.2.2.2.1 _ mm_ini) (C.2.2.2.2.1 _ mmax_code) (by have := C.2.2.2.2.2.2.2.2.2.2.2.1; omega) (by have h1 := C.2.2.2.2.2.2.2.2.2.2.2.2; have e : (st.map (q_cv G)).map (fun v => v.category) = st.map (fun v => v.category) := by { rw [List.map_map]; exact List.map_congr_left fun v _ => q_cv_cat G v }; rw [e]; omega) (by omega) (by omega) hd ?_
  rw [z_max hx hy]
  exact kk p e R s m args below meth c Z H locs ls cells slots C hR hS hL hcl hso hret
theorem mmin_stat : Cond.static Lib.Math.min.name ∈ q_W := q_mem 572 (by decide +kernel) rfl
theorem mmin_code : Cond.code Lib.Math.min.name Lib.Math.min.code 2 (some .int) ∈ q_W := q_mem 573 (by decide +kernel) rfl
theorem lm_X2_75 : Cond.methodLink RX2 75 Lib.Math.min.name ∈ q_W := q_mem 571 (by decide +kernel) rfl
theorem lm_X4_36 : Cond.methodLink RX4 36 Lib.Math.min.name ∈ q_W := q_mem 937 (by decide +kernel) rfl
theorem z_min {x y : Int} (hx : -2147483648 ≤ x ∧ x < 2147483648) (hy : -2147483648 ≤ y ∧ y < 2147483648) : (if zi y < zi x then zi y else zi x) = zi (min x y) := by
  simp only [zi_lt hy hx]
  split
  · rw [Int.min_eq_right (by omega)]
  · rw [Int.min_eq_left (by omega)]
theorem st_mmin {G : q_G} {d : Nat} {μ : q_M} {pc : Nat} {L : List (Option Value)} {st : List Value} {S : q_Sh} {M : q_Mem} {N : q_MemL} {k n : Nat} {Q : q_Q} {idx : Nat} {x y : Int} (hd : decode μ.2.1 pc = .ok (.invokestatic idx, 3)) (hl : Cond.methodLink μ.1.cls idx Lib.Math.min.name ∈ q_W) (hd' : 1 ≤ d) (hw : (st.map fun v => v.category).sum ≤ 8) (hx : -2147483648 ≤ x ∧ x < 2147483648) (hy : -2147483648 ≤ y ∧ y < 2147483648) (kk : AW G d μ (pc + 3) L (I (min x y) :: st) S M N k n Q) : AW G d μ pc L (I y :: I x :: st) S M N k n Q := by
  intro p e R s m args below meth c Z H locs ls cells slots C hR hS hL hcl hso hret
  refine va_mmin C.1 C.2.1 (C.2.2.1.trans hL.size.symm) C.2.2.2.1 (C.2.2.2.2.1 _ hl) (C.2.2.2.2.1 _ mmin_stat) (C.2.2.2.2.1 _ mm_ini) (C.2.2.2.2.1 _ mmin_code) (by have := C.2.2.2.2.2.2.2.2.2.2.2.1; omega) (by have h1 := C.2.2.2.2.2.2.2.2.2.2.2.2; have e : (st.map (q_cv G)).map (fun v => v.category) = st.map (fun v => v.category) := by { rw [List.map_map]; exact List.map_congr_left fun v _ => q_cv_cat G v }; rw [e]; omega) (by omega) (by omega) hd ?_
  rw [z_min hx hy]
  exact kk p e R s m args below meth c Z H locs ls cells slots C hR hS hL hcl hso hret
theorem mabs_stat : Cond.static Lib.Math.abs.name ∈ q_W := q_mem 1073 (by decide +kernel) rfl
theorem mabs_code : Cond.code Lib.Math.abs.name Lib.Math.abs.code 1 (some .int) ∈ q_W := q_mem 1074 (by decide +kernel) rfl
theorem lm_X9_63 : Cond.methodLink RX9 63 Lib.Math.abs.name ∈ q_W := q_mem 1072 (by decide +kernel) rfl
theorem z_abs {x : Int} (hx : -2147483648 ≤ x ∧ x < 2147483648) : (if 0 ≤ zi x then zi x else 0 - zi x) = zi (if 0 ≤ x then x else -x) := by
  simp only [zi_ge0 hx]
  split
  · rfl
  · rw [show (0 : Int32) = zi 0 from rfl, show zi 0 - zi x = zi (0 - x) from (Int32.ofInt_sub 0 x).symm]
    congr 1
    omega
theorem st_mabs {G : q_G} {d : Nat} {μ : q_M} {pc : Nat} {L : List (Option Value)} {st : List Value} {S : q_Sh} {M : q_Mem} {N : q_MemL} {k n : Nat} {Q : q_Q} {idx : Nat} {x : Int} (hd : decode μ.2.1 pc = .ok (.invokestatic idx, 3)) (hl : Cond.methodLink μ.1.cls idx Lib.Math.abs.name ∈ q_W) (hd' : 1 ≤ d) (hw : (st.map fun v => v.category).sum ≤ 8) (hx : -2147483648 ≤ x ∧ x < 2147483648) (kk : AW G d μ (pc + 3) L (I (if 0 ≤ x then x else -x) :: st) S M N k n Q) : AW G d μ pc L (I x :: st) S M N k n Q := by
  intro p e R s m args below meth c Z H locs ls cells slots C hR hS hL hcl hso hret
  refine va_mabs C.1 C.2.1 (C.2.2.1.trans hL.size.symm) C.2.2.2.1 (C.2.2.2.2.1 _ hl) (C.2.2.2.2.1 _ mabs_stat) (C.2.2.2.2.1 _ mm_ini) (C.2.2.2.2.1 _ mabs_code) (by have := C.2.2.2.2.2.2.2.2.2.2.2.1; omega) (by have h1 := C.2.2.2.2.2.2.2.2.2.2.2.2; have e : (st.map (q_cv G)).map (fun v => v.category) = st.map (fun v => v.category) := by { rw [List.map_map]; exact List.map_congr_left fun v _ => q_cv_cat G v }; rw [e]; omega) (by omega) (by omega) hd ?_
  rw [z_abs hx]
  exact kk p e R s m args below meth c Z H locs ls cells slots C hR hS hL hcl hso hret
theorem mmaxl_stat : Cond.static Lib.MathLoose.max_long.x ∈ q_W := q_mem 879 (by decide +kernel) rfl
theorem mmaxl_code : Cond.code Lib.MathLoose.max_long.x Lib.MathLoose.max_long.code 4 (some .long) ∈ q_W := q_mem 880 (by decide +kernel) rfl
theorem lm_X6_74 : Cond.methodLink RX6 74 Lib.MathLoose.max_long.x ∈ q_W := q_mem 878 (by decide +kernel) rfl
theorem st_mmaxl {G : q_G} {d : Nat} {μ : q_M} {pc : Nat} {L : List (Option Value)} {st : List Value} {S : q_Sh} {M : q_Mem} {N : q_MemL} {k n : Nat} {Q : q_Q} {idx : Nat} {x y z : Int64} (hd : decode μ.2.1 pc = .ok (.invokestatic idx, 3)) (hl : Cond.methodLink μ.1.cls idx Lib.MathLoose.max_long.x ∈ q_W) (hd' : 1 ≤ d) (hw : (st.map fun v => v.category).sum ≤ 8) (hz : (if y < x then x else y) = z) (kk : AW G d μ (pc + 3) L (.long z :: st) S M N k n Q) : AW G d μ pc L (.long y :: .long x :: st) S M N k n Q := by
  subst hz
  intro p e R s m args below meth c Z H locs ls cells slots C hR hS hL hcl hso hret
  exact va_mmax_long C.1 C.2.1 (C.2.2.1.trans hL.size.symm) C.2.2.2.1 (C.2.2.2.2.1 _ hl) (C.2.2.2.2.1 _ mmaxl_stat) (C.2.2.2.2.1 _ mm_ini) (C.2.2.2.2.1 _ mmaxl_code) (by have := C.2.2.2.2.2.2.2.2.2.2.2.1; omega) (by have h1 := C.2.2.2.2.2.2.2.2.2.2.2.2; have e : (st.map (q_cv G)).map (fun v => v.category) = st.map (fun v => v.category) := by { rw [List.map_map]; exact List.map_congr_left fun v _ => q_cv_cat G v }; rw [e]; omega) (by omega) (by omega) hd (kk p e R s m args below meth c Z H locs ls cells slots C hR hS hL hcl hso hret)
theorem mminl_stat : Cond.static Lib.MathLoose.min_long.x ∈ q_W := q_mem 876 (by decide +kernel) rfl
theorem mminl_code : Cond.code Lib.MathLoose.min_long.x Lib.MathLoose.min_long.code 4 (some .long) ∈ q_W := q_mem 877 (by decide +kernel) rfl
theorem lm_X6_68 : Cond.methodLink RX6 68 Lib.MathLoose.min_long.x ∈ q_W := q_mem 875 (by decide +kernel) rfl
theorem st_mminl {G : q_G} {d : Nat} {μ : q_M} {pc : Nat} {L : List (Option Value)} {st : List Value} {S : q_Sh} {M : q_Mem} {N : q_MemL} {k n : Nat} {Q : q_Q} {idx : Nat} {x y z : Int64} (hd : decode μ.2.1 pc = .ok (.invokestatic idx, 3)) (hl : Cond.methodLink μ.1.cls idx Lib.MathLoose.min_long.x ∈ q_W) (hd' : 1 ≤ d) (hw : (st.map fun v => v.category).sum ≤ 8) (hz : (if y < x then y else x) = z) (kk : AW G d μ (pc + 3) L (.long z :: st) S M N k n Q) : AW G d μ pc L (.long y :: .long x :: st) S M N k n Q := by
  subst hz
  intro p e R s m args below meth c Z H locs ls cells slots C hR hS hL hcl hso hret
  exact va_mmin_long C.1 C.2.1 (C.2.2.1.trans hL.size.symm) C.2.2.2.1 (C.2.2.2.2.1 _ hl) (C.2.2.2.2.1 _ mminl_stat) (C.2.2.2.2.1 _ mm_ini) (C.2.2.2.2.1 _ mminl_code) (by have := C.2.2.2.2.2.2.2.2.2.2.2.1; omega) (by have h1 := C.2.2.2.2.2.2.2.2.2.2.2.2; have e : (st.map (q_cv G)).map (fun v => v.category) = st.map (fun v => v.category) := by { rw [List.map_map]; exact List.map_congr_left fun v _ => q_cv_cat G v }; rw [e]; omega) (by omega) (by omega) hd (kk p e R s m args below meth c Z H locs ls cells slots C hR hS hL hcl hso hret)

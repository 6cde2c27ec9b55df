/-! WHAT IS HEARD, and where one comes to by it -/
/-- the storey of a loudness: from s on, at most m storeys up -/
def stof (b : Nat → Int) (x : Int) : Nat → Nat → Int
  | 0, s => s
  | m + 1, s => if b (s + 1) ≤ x then stof b x m (s + 1) else s
theorem stof_rng (b : Nat → Int) (x : Int) : ∀ (m s : Nat), (s : Int) ≤ stof b x m s ∧ stof b x m s ≤ s + m
  | 0, s => by simp [stof]
  | m + 1, s => by
    unfold stof
    split
    · have := stof_rng b x m (s + 1)
      omega
    · omega
def hsum (f : Nat → Int) : Nat → Int
  | 0 => 0
  | n + 1 => hsum f n + f n
theorem hsum_congr {f g : Nat → Int} : ∀ {n : Nat}, (∀ q, q < n → f q = g q) → hsum f n = hsum g n
  | 0, _ => rfl
  | n + 1, h => by
    unfold hsum
    rw [hsum_congr (fun q hq => h q (by omega)), h n (by omega)]
theorem hsum_rng {f : Nat → Int} {c : Int} : ∀ {n : Nat}, (∀ q, q < n → 0 ≤ f q ∧ f q ≤ c) → 0 ≤ hsum f n ∧ hsum f n ≤ n * c
  | 0, _ => by simp [hsum]
  | n + 1, h => by
    have h1 := hsum_rng (n := n) (fun q hq => h q (by omega))
    have h2 := h n (by omega)
    unfold hsum
    have : ((n + 1 : Nat) : Int) * c = n * c + c := by rw [Int.natCast_add, Int.add_mul]; simp
    omega
def fade (x d : Int) : Int := if d = 0 then x / 2 else if d = 1 ∨ d = -1 then x / 4 else 0
theorem fade_rng {x d : Int} (h : 0 ≤ x ∧ x ≤ 30) : 0 ≤ fade x d ∧ fade x d ≤ 15 := by
  unfold fade
  split
  · omega
  · split <;> omega
/-- what p hears of q -/
def hearF (st rm v : Nat → Int) (p q : Nat) : Int := if q = p then v q else if st q = st p then fade (v q) (rm p - rm q) else 0
theorem hearF_rng {st rm v : Nat → Int} {p q : Nat} (h : 0 ≤ v q ∧ v q ≤ 30) : 0 ≤ hearF st rm v p q ∧ hearF st rm v p q ≤ 30 := by
  have := fade_rng (d := rm p - rm q) h
  unfold hearF
  split
  · omega
  · split <;> omega
def hearP (n : Nat) (df : Int) (st rm v : Nat → Int) (p : Nat) : Int := if df.toNat.testBit p = true then v p else hsum (hearF st rm v p) n
def withF (st rm v : Nat → Int) (t q : Nat) : Int := if rm (7 + t) = rm q ∧ st (7 + t) = st q then v q else 0
def hearT (n : Nat) (w : Int) (st rm v : Nat → Int) (t : Nat) : Int := max (hsum (withF st rm v t) n - w) 0
/-- the storeys behind a beat: people 0 to 6, things 7 to 9 -/
def aftD (b : Nat → Int) (ns np nt : Nat) (df : Int) (wt st rm v : Nat → Int) (k : Nat) : Int :=
  if k < np then stof b (hearP np df st rm v k) (ns - 1) 0 else if 7 ≤ k ∧ k < 7 + nt then stof b (hearT np (wt (k - 7)) st rm v (k - 7)) (ns - 1) 0 else 0
def hourOf (h b : Int) : Int := if 0 < h then b % h else 0
theorem hourOf_rng {h b : Int} (hb : 0 ≤ b) : 0 ≤ hourOf h b ∧ (0 < h → hourOf h b < h) ∧ (¬ 0 < h → hourOf h b = 0) := by
  unfold hourOf
  split
  · next q => exact ⟨Int.emod_nonneg _ (by omega), fun _ => Int.emod_lt_of_pos _ q, fun z => absurd q z⟩
  · next q => exact ⟨by omega, fun z => absurd z q, fun _ => rfl⟩
/-! a home of the system, at a: what holds of it always -/
def Hok (M : q_Mem) (a : Nat) : Prop :=
  (M a 0 = 0 ∨ M a 0 = 1) ∧ (0 ≤ M a 1 ∧ M a 1 ≤ 4) ∧ (0 ≤ M a 2 ∧ M a 2 ≤ 6) ∧ (0 ≤ M a 3 ∧ M a 3 ≤ 8) ∧ (0 ≤ M a 4 ∧ M a 4 ≤ 7) ∧ (0 ≤ M a 5 ∧ M a 5 ≤ 3) ∧ (0 ≤ M a 6 ∧ M a 6 < 128) ∧
  (0 ≤ M a 11 ∧ M a 11 ≤ 9999) ∧ (0 ≤ M a 12 ∧ M a 12 < 1073741824) ∧ (0 ≤ M a 13 ∧ M a 13 < 1048576) ∧ (0 ≤ M a 15 ∧ M a 15 ≤ 20) ∧ (0 ≤ M a 17 ∧ M a 17 ≤ 8) ∧ (0 ≤ M a 18 ∧ M a 18 < 2147483648) ∧
  (∀ k, 0 ≤ M (a + 1) k ∧ M (a + 1) k ≤ 1000) ∧ (∀ k, 0 ≤ M (a + 2) k ∧ M (a + 2) k ≤ 99) ∧ (∀ k, 0 ≤ M (a + 3) k ∧ M (a + 3) k ≤ 60) ∧ (∀ k, 0 ≤ M (a + 4) k ∧ M (a + 4) k ≤ 30) ∧
  (∀ k, -1 ≤ M (a + 5) k ∧ M (a + 5) k < 1073741824) ∧ (∀ k, -1 ≤ M (a + 6) k ∧ M (a + 6) k ≤ 100) ∧
  (M a 0 = 1 → 1 ≤ M a 1 ∧ 1 ≤ M a 2 ∧ 1 ≤ M a 3) ∧ (M a 0 = 0 → M a 1 = 0 ∧ M a 2 = 0 ∧ M a 3 = 0 ∧ M a 4 = 0 ∧ M a 5 = 0 ∧ M a 17 = 0)
/-- the ranges that the reading of numbers wants -/
def Hrg (M : q_Mem) (a : Nat) : Prop := (0 ≤ M a 2 ∧ M a 2 ≤ 6) ∧ (0 ≤ M a 3 ∧ M a 3 ≤ 8) ∧ (0 ≤ M a 4 ∧ M a 4 ≤ 7) ∧ (0 ≤ M a 5 ∧ M a 5 ≤ 3) ∧ (0 ≤ M a 6 ∧ M a 6 < 128) ∧ (0 ≤ M a 13 ∧ M a 13 < 1048576) ∧ (∀ k, 0 ≤ M (a + 1) k ∧ M (a + 1) k ≤ 1000) ∧ (∀ k, 0 ≤ M (a + 3) k ∧ M (a + 3) k ≤ 60) ∧ (∀ k, 0 ≤ M (a + 4) k ∧ M (a + 4) k ≤ 30)
theorem Hok.rg {M : q_Mem} {a : Nat} (h : Hok M a) : Hrg M a := by
  obtain ⟨-, -, h2, h3, h4, h5, h6, -, -, h13, -, -, -, hb, -, hw, hv, -⟩ := h
  exact ⟨h2, h3, h4, h5, h6, h13, hb, hw, hv⟩
/-- a row that is sung: seven places, loudness 0 to 30 -/
def Sok (M : q_Mem) (r : Nat) (n : Nat) : Prop := ∀ q, q < n → 0 ≤ M r q ∧ M r q ≤ 30
def homeAft (M : q_Mem) (a : Nat) (w : Int) (v : Nat → Int) : Nat → Int := aftD (M (a + 1)) (M a 3).toNat (M a 4).toNat (M a 5).toNat (M a 6) (M (a + 3)) (g8 w) (g4 (M a 13)) v
theorem homeAft_rng {M : q_Mem} {a : Nat} {w : Int} {v : Nat → Int} (h : 0 ≤ M a 3 ∧ M a 3 ≤ 8) (k : Nat) : 0 ≤ homeAft M a w v k ∧ homeAft M a w v k < 8 := by
  unfold homeAft aftD
  split
  · have := stof_rng (M (a + 1)) (hearP (M a 4).toNat (M a 6) (g8 w) (g4 (M a 13)) v k) ((M a 3).toNat - 1) 0
    omega
  · split
    · have := stof_rng (M (a + 1)) (hearT (M a 4).toNat (M (a + 3) (k - 7)) (g8 w) (g4 (M a 13)) v (k - 7)) ((M a 3).toNat - 1) 0
      omega
    · omega

/-! WHAT IS HEARD, and where one comes to by it -/
/-- the storey of a loudness: from s on, at most m storeys up -/
def stof (b : Nat → Int) (x : Int) : Nat → Nat → Int
  | 0, s => s
  | m + 1, s => if b (s + 1) ≤ x then stof b x m (s + 1) else s
theorem stof_rng (b : Nat → Int) (x : Int) : ∀ (m s : Nat), (s : Int) ≤ stof b x m s ∧ stof b x m s ≤ s + m
  | 0, s => by simp [stof]
  | m + 1, s => by
    unfold stof
    split
    · have := stof_rng b x m (s + 1)
      omega
    · omega
def hsum (f : Nat → Int) : Nat → Int
  | 0 => 0
  | n + 1 => hsum f n + f n
theorem hsum_congr {f g : Nat → Int} : ∀ {n : Nat}, (∀ q, q < n → f q = g q) → hsum f n = hsum g n
  | 0, _ => rfl
  | n + 1, h => by
    unfold hsum
    rw [hsum_congr (fun q hq => h q (by omega)), h n (by omega)]
theorem hsum_rng {f : Nat → Int} {c : Int} : ∀ {n : Nat}, (∀ q, q < n → 0 ≤ f q ∧ f q ≤ c) → 0 ≤ hsum f n ∧ hsum f n ≤ n * c
  | 0, _ => by simp [hsum]
  | n + 1, h => by
    have h1 := hsum_rng (n := n) (fun q hq => h q (by omega))
    have h2 := h n (by omega)
    unfold hsum
    have : ((n + 1 : Nat) : Int) * c = n * c + c := by rw [Int.natCast_add, Int.add_mul]; simp
    omega
def fade (x d : Int) : Int := if d = 0 then x / 2 else if d = 1 ∨ d = -1 then x / 4 else 0
theorem fade_rng {x d : Int} (h : 0 ≤ x ∧ x ≤ 30) : 0 ≤ fade x d ∧ fade x d ≤ 15 := by
  unfold fade
  split
  · omega
  · split <;> omega
/-- what p hears of q -/
def hearF (st rm v : Nat → Int) (p q : Nat) : Int := if q = p then v q else if st q = st p then fade (v q) (rm p - rm q) else 0
theorem hearF_rng {st rm v : Nat → Int} {p q : Nat} (h : 0 ≤ v q ∧ v q ≤ 30) : 0 ≤ hearF st rm v p q ∧ hearF st rm v p q ≤ 30 := by
  have := fade_rng (d := rm p - rm q) h
  unfold hearF
  split
  · omega
  · split <;> omega
def hearP (n : Nat) (df : Int) (st rm v : Nat → Int) (p : Nat) : Int := if df.toNat.testBit p = true then v p else hsum (hearF st rm v p) n
def withF (st rm v : Nat → Int) (t q : Nat) : Int := if rm (7 + t) = rm q ∧ st (7 + t) = st q then v q else 0
def hearT (n : Nat) (w : Int) (st rm v : Nat → Int) (t : Nat) : Int := max (hsum (withF st rm v t) n - w) 0
/-- the storeys behind a beat: people 0 to 6, things 7 to 9 -/
def aftD (b : Nat → Int) (ns np nt : Nat) (df : Int) (wt st rm v : Nat → Int) (k : Nat) : Int :=
  if k < np then stof b (hearP np df st rm v k) (ns - 1) 0 else if 7 ≤ k ∧ k < 7 + nt then stof b (hearT np (wt (k - 7)) st rm v (k - 7)) (ns - 1) 0 else 0
def hourOf (h b : Int) : Int := if 0 < h then b % h else 0
theorem hourOf_rng {h b : Int} (hb : 0 ≤ b) : 0 ≤ hourOf h b ∧ (0 < h → hourOf h b < h) ∧ (¬ 0 < h → hourOf h b = 0) := by
  unfold hourOf
  split
  · next q => exact ⟨Int.emod_nonneg _ (by omega), fun _ => Int.emod_lt_of_pos _ q, fun z => absurd q z⟩
  · next q => exact ⟨by omega, fun z => absurd z q, fun _ => rfl⟩
/-! a home of the system, at a: what holds of it always -/
def Hok (M : q_Mem) (a : Nat) : Prop :=
  (M a 0 = 0 ∨ M a 0 = 1) ∧ (0 ≤ M a 1 ∧ M a 1 ≤ 4) ∧ (0 ≤ M a 2 ∧ M a 2 ≤ 6) ∧ (0 ≤ M a 3 ∧ M a 3 ≤ 8) ∧ (0 ≤ M a 4 ∧ M a 4 ≤ 7) ∧ (0 ≤ M a 5 ∧ M a 5 ≤ 3) ∧ (0 ≤ M a 6 ∧ M a 6 < 128) ∧
  (0 ≤ M a 11 ∧ M a 11 ≤ 9999) ∧ (0 ≤ M a 12 ∧ M a 12 < 1073741824) ∧ (0 ≤ M a 13 ∧ M a 13 < 1048576) ∧ (0 ≤ M a 15 ∧ M a 15 ≤ 20) ∧ (0 ≤ M a 17 ∧ M a 17 ≤ 8) ∧ (0 ≤ M a 18 ∧ M a 18 < 2147483648) ∧
  (∀ k, 0 ≤ M (a + 1) k ∧ M (a + 1) k ≤ 1000) ∧ (∀ k, 0 ≤ M (a + 2) k ∧ M (a + 2) k ≤ 99) ∧ (∀ k, 0 ≤ M (a + 3) k ∧ M (a + 3) k ≤ 60) ∧ (∀ k, 0 ≤ M (a + 4) k ∧ M (a + 4) k ≤ 30) ∧
  (∀ k, -1 ≤ M (a + 5) k ∧ M (a + 5) k < 1073741824) ∧ (∀ k, -1 ≤ M (a + 6) k ∧ M (a + 6) k ≤ 100) ∧
  (M a 0 = 1 → 1 ≤ M a 1 ∧ 1 ≤ M a 2 ∧ 1 ≤ M a 3) ∧ (M a 0 = 0 → M a 1 = 0 ∧ M a 2 = 0 ∧ M a 3 = 0 ∧ M a 4 = 0 ∧ M a 5 = 0 ∧ M a 17 = 0)
/-- the ranges that the reading of numbers wants -/
def Hrg (M : q_Mem) (a : Nat) : Prop := (0 ≤ M a 2 ∧ M a 2 ≤ 6) ∧ (0 ≤ M a 3 ∧ M a 3 ≤ 8) ∧ (0 ≤ M a 4 ∧ M a 4 ≤ 7) ∧ (0 ≤ M a 5 ∧ M a 5 ≤ 3) ∧ (0 ≤ M a 6 ∧ M a 6 < 128) ∧ (0 ≤ M a 13 ∧ M a 13 < 1048576) ∧ (∀ k, 0 ≤ M (a + 1) k ∧ M (a + 1) k ≤ 1000) ∧ (∀ k, 0 ≤ M (a + 3) k ∧ M (a + 3) k ≤ 60) ∧ (∀ k, 0 ≤ M (a + 4) k ∧ M (a + 4) k ≤ 30)
theorem Hok.rg {M : q_Mem} {a : Nat} (h : Hok M a) : Hrg M a := by
  obtain ⟨-, -, h2, h3, h4, h5, h6, -, -, h13, -, -, -, hb, -, hw, hv, -⟩ := h
  exact ⟨h2, h3, h4, h5, h6, h13, hb, hw, hv⟩
/-- a row that is sung: seven places, loudness 0 to 30 -/
def Sok (M : q_Mem) (r : Nat) (n : Nat) : Prop := ∀ q, q < n → 0 ≤ M r q ∧ M r q ≤ 30
def homeAft (M : q_Mem) (a : Nat) (w : Int) (v : Nat → Int) : Nat → Int := aftD (M (a + 1)) (M a 3).toNat (M a 4).toNat (M a 5).toNat (M a 6) (M (a + 3)) (g8 w) (g4 (M a 13)) v
theorem homeAft_rng {M : q_Mem} {a : Nat} {w : Int} {v : Nat → Int} (h : 0 ≤ M a 3 ∧ M a 3 ≤ 8) (k : Nat) : 0 ≤ homeAft M a w v k ∧ homeAft M a w v k < 8 := by
  unfold homeAft aftD
  split
  · have := stof_rng (M (a + 1)) (hearP (M a 4).toNat (M a 6) (g8 w) (g4 (M a 13)) v k) ((M a 3).toNat - 1) 0
    omega
  · split
    · have := stof_rng (M (a + 1)) (hearT (M a 4).toNat (M (a + 3) (k - 7)) (g8 w) (g4 (M a 13)) v (k - 7)) ((M a 3).toNat - 1) 0
      omega
    · omega
/-! what it depends on -/
theorem hearF_congr {st st' rm rm' v v' : Nat → Int} {p q : Nat} (h1 : st p = st' p ∧ st q = st' q) (h2 : rm p = rm' p ∧ rm q = rm' q) (h3 : v q = v' q) : hearF st rm v p q = hearF st' rm' v' p q := by
  unfold hearF
  rw [h1.1, h1.2, h2.1, h2.2, h3]
theorem hearP_congr {n : Nat} {df : Int} {st st' rm rm' v v' : Nat → Int} {p : Nat} (hp : p < n) (h1 : ∀ q, q < n → st q = st' q) (h2 : ∀ q, q < n → rm q = rm' q) (h3 : ∀ q, q < n → v q = v' q) : hearP n df st rm v p = hearP n df st' rm' v' p := by
  unfold hearP
  rw [h3 p hp, hsum_congr (fun q hq => hearF_congr ⟨h1 p hp, h1 q hq⟩ ⟨h2 p hp, h2 q hq⟩ (h3 q hq))]
theorem hearT_congr {n : Nat} {w w' : Int} {st st' rm rm' v v' : Nat → Int} {t : Nat} (hw : w = w') (h1 : ∀ q, q < n → st q = st' q) (h2 : ∀ q, q < n → rm q = rm' q) (h3 : ∀ q, q < n → v q = v' q) (h4 : st (7 + t) = st' (7 + t)) (h5 : rm (7 + t) = rm' (7 + t)) : hearT n w st rm v t = hearT n w' st' rm' v' t := by
  unfold hearT
  rw [hw, hsum_congr (g := withF st' rm' v' t) (fun q hq => by unfold withF; rw [h1 q hq, h2 q hq, h3 q hq, h4, h5])]
theorem stof_congr {b b' : Nat → Int} {x : Int} : ∀ {m s : Nat}, (∀ k, s < k → k ≤ s + m → b k = b' k) → stof b x m s = stof b' x m s
  | 0, _, _ => rfl
  | m + 1, s, h => by
    unfold stof
    rw [h (s + 1) (by omega) (by omega), stof_congr (m := m) (s := s + 1) (fun k h1 h2 => h k (by omega) (by omega))]
theorem aftD_congr {b b' : Nat → Int} {ns np nt : Nat} {df : Int} {wt wt' st st' rm rm' v v' : Nat → Int} {k : Nat} (hb : ∀ k, 0 < k → k < ns → b k = b' k) (hw : ∀ t, t < nt → wt t = wt' t) (h1 : ∀ q, q < np → st q = st' q) (h2 : ∀ q, q < np → rm q = rm' q) (h3 : ∀ q, q < np → v q = v' q) (h4 : ∀ t, t < nt → st (7 + t) = st' (7 + t)) (h5 : ∀ t, t < nt → rm (7 + t) = rm' (7 + t)) : aftD b ns np nt df wt st rm v k = aftD b' ns np nt df wt' st' rm' v' k := by
  unfold aftD
  by_cases hk : k < np
  · rw [if_pos hk, if_pos hk, hearP_congr hk h1 h2 h3]
    exact stof_congr (fun j q1 q2 => hb j q1 (by omega))
  · rw [if_neg hk, if_neg hk]
    by_cases hk2 : 7 ≤ k ∧ k < 7 + nt
    · rw [if_pos hk2, if_pos hk2, hearT_congr (hw (k - 7) (by omega)) h1 h2 h3 (h4 (k - 7) (by omega)) (h5 (k - 7) (by omega))]
      exact stof_congr (fun j q1 q2 => hb j q1 (by omega))
    · rw [if_neg hk2, if_neg hk2]
theorem homeAft_congr {M M' : q_Mem} {a : Nat} {w : Int} {v v' : Nat → Int} (h0 : M' a = M a) (h1 : M' (a + 1) = M (a + 1)) (h3 : M' (a + 3) = M (a + 3)) (hv : ∀ q, q < (M a 4).toNat → v q = v' q) (k : Nat) : homeAft M a w v k = homeAft M' a w v' k := by
  unfold homeAft
  rw [h0, h1, h3]
  exact aftD_congr (fun _ _ _ => rfl) (fun _ _ => rfl) (fun _ _ => rfl) (fun _ _ => rfl) hv (fun _ _ => rfl) (fun _ _ => rfl)
/-- nothing but these rows has changed -/
def Exc (L : List Nat) (M M' : q_Mem) : Prop := ∀ a, a ∉ L → M' a = M a
theorem Exc.rf {L : List Nat} {M : q_Mem} : Exc L M M := fun _ _ => rfl
theorem Exc.tr {L : List Nat} {M M1 M2 : q_Mem} (h : Exc L M M1) (h2 : Exc L M1 M2) : Exc L M M2 := fun a ha => (h2 a ha).trans (h a ha)
theorem Exc.sub {L L' : List Nat} {M M1 : q_Mem} (h : Exc L M M1) (hs : ∀ a, a ∈ L → a ∈ L') : Exc L' M M1 := fun a ha => h a (fun q => ha (hs a q))
theorem Exc.up {L : List Nat} {M : q_Mem} {a i : Nat} {z : Int} (h : a ∈ L) : Exc L M (q_up M a i z) := fun b hb => q_up_ne (fun e => hb (e ▸ h))
theorem Hrg.exc {L : List Nat} {M M' : q_Mem} {a : Nat} (h : Hrg M a) (hE : Exc L M M') (h0 : a ∉ L) (h1 : a + 1 ∉ L) (h3 : a + 3 ∉ L) (h4 : a + 4 ∉ L) : Hrg M' a := by
  unfold Hrg at *
  rw [hE a h0, hE _ h1, hE _ h3, hE _ h4]
  exact h
/-- what all sing at a beat as told, but for the silent ones -/
def toldV (M : q_Mem) (a : Nat) (b : Int) (s : Int) : Nat → Int := fun q => if s.toNat.testBit q = true then 0 else M (a + 4) (q * 6 + (hourOf (M a 2) b).toNat)
theorem toldV_rng {M : q_Mem} {a : Nat} {b s : Int} (h : ∀ k, 0 ≤ M (a + 4) k ∧ M (a + 4) k ≤ 30) (q : Nat) : 0 ≤ toldV M a b s q ∧ toldV M a b s q ≤ 30 := by
  have := h (q * 6 + (hourOf (M a 2) b).toNat)
  unfold toldV
  split <;> omega

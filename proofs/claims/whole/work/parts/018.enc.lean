/-! a situation out of its digits -/
def encN (f : Nat → Int) : Nat → Int
  | 0 => 0
  | n + 1 => w8 (encN f n) n (f n)
theorem encN_spec {f : Nat → Int} (hf : ∀ k, 0 ≤ f k ∧ f k < 8) : ∀ n, n ≤ 10 → (0 ≤ encN f n ∧ encN f n < 1073741824) ∧ ∀ j, g8 (encN f n) j = if j < n then f j else 0
  | 0, _ => ⟨by simp [encN], fun j => by simp [encN, g8]⟩
  | n + 1, h => by
    obtain ⟨h1, h2⟩ := encN_spec hf n (by omega)
    refine ⟨w8_lt h1 (by omega) (hf n), fun j => ?_⟩
    unfold encN
    rw [g8_w8 h1 (by omega) (hf n), h2 j]
    by_cases q1 : j = n
    · rw [if_pos q1, if_pos (by omega), q1]
    · rw [if_neg q1]
      by_cases q2 : j < n
      · rw [if_pos q2, if_pos (by omega)]
      · rw [if_neg q2, if_neg (by omega)]
/-- the situation behind a beat in which all sing so -/
def nxt (M : q_Mem) (a : Nat) (w : Int) (v : Nat → Int) : Int := encN (homeAft M a w v) 10
theorem nxt_rng {M : q_Mem} {a : Nat} {w : Int} {v : Nat → Int} (h : 0 ≤ M a 3 ∧ M a 3 ≤ 8) : 0 ≤ nxt M a w v ∧ nxt M a w v < 1073741824 := (encN_spec (homeAft_rng h) 10 (by omega)).1
theorem nxt_g8 {M : q_Mem} {a : Nat} {w : Int} {v : Nat → Int} (h : 0 ≤ M a 3 ∧ M a 3 ≤ 8) {k : Nat} (hk : k < 10) : g8 (nxt M a w v) k = homeAft M a w v k := by
  have := (encN_spec (homeAft_rng (w := w) (v := v) h) 10 (by omega)).2 k
  rw [if_pos hk] at this
  exact this
theorem nxt_eq {M : q_Mem} {a : Nat} {w z : Int} {v : Nat → Int} (h : 0 ≤ M a 3 ∧ M a 3 ≤ 8) (hz : 0 ≤ z ∧ z < 1073741824) (hd : ∀ k, k < 10 → g8 z k = homeAft M a w v k) : z = nxt M a w v := g8_inj hz (nxt_rng h) (fun j hj => by rw [hd j hj, nxt_g8 h hj])
theorem encN_congr {f g : Nat → Int} : ∀ {n : Nat}, (∀ k, k < n → f k = g k) → encN f n = encN g n
  | 0, _ => rfl
  | n + 1, h => by unfold encN; rw [encN_congr (fun k hk => h k (by omega)), h n (by omega)]
theorem nxt_congr {M M' : q_Mem} {a : Nat} {w : Int} {v v' : Nat → Int} (h0 : M' a = M a) (h1 : M' (a + 1) = M (a + 1)) (h3 : M' (a + 3) = M (a + 3)) (hv : ∀ q, q < (M a 4).toNat → v q = v' q) : nxt M a w v = nxt M' a w v' := encN_congr (fun k _ => homeAft_congr h0 h1 h3 hv k)
/-- the situation in k beats, as told -/
def fut (M : q_Mem) (a : Nat) : Nat → Int
  | 0 => M a 12
  | k + 1 => nxt M a (fut M a k) (toldV M a (M a 11 + k) 0)
theorem fut_rng {M : q_Mem} {a : Nat} (h : 0 ≤ M a 3 ∧ M a 3 ≤ 8) (h12 : 0 ≤ M a 12 ∧ M a 12 < 1073741824) : ∀ k, 0 ≤ fut M a k ∧ fut M a k < 1073741824
  | 0 => h12
  | k + 1 => nxt_rng h
theorem toldV_congr {M M' : q_Mem} {a : Nat} (h0 : M' a = M a) (h4 : M' (a + 4) = M (a + 4)) (b s : Int) : toldV M' a b s = toldV M a b s := by
  funext q
  unfold toldV
  rw [h0, h4]
theorem fut_congr {M M' : q_Mem} {a : Nat} (h0 : M' a = M a) (h1 : M' (a + 1) = M (a + 1)) (h3 : M' (a + 3) = M (a + 3)) (h4 : M' (a + 4) = M (a + 4)) : ∀ k, fut M' a k = fut M a k
  | 0 => by unfold fut; rw [h0]
  | k + 1 => by
    unfold fut
    rw [fut_congr h0 h1 h3 h4 k, toldV_congr h0 h4, h0]
    exact (nxt_congr h0 h1 h3 (fun _ _ => rfl)).symm

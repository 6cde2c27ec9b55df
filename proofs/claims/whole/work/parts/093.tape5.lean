/-! the tape: numbers -/
def isDg (b : Int) : Prop := 48 ≤ b ∧ b ≤ 57
/-- digits from a place: how many, and what they come to -/
def dg (f : Nat → Int) (n : Nat) : Nat → Nat → Nat → Int → Nat × Int
  | 0, _, k, v => (k, v)
  | m + 1, p, k, v => if 48 ≤ bytA f n p ∧ bytA f n p ≤ 57 then dg f n m (p + 1) (k + 1) (if k < 5 then v * 10 + bytA f n p - 48 else v) else (k, v)
theorem dg_s {f : Nat → Int} {n m p k : Nat} {v : Int} : dg f n (m + 1) p k v = if 48 ≤ bytA f n p ∧ bytA f n p ≤ 57 then dg f n m (p + 1) (k + 1) (if k < 5 then v * 10 + bytA f n p - 48 else v) else (k, v) := rfl
def numK (f : Nat → Int) (n q : Nat) : Nat := (dg f n (n - q) q 0 0).1
def numV (f : Nat → Int) (n q : Nat) : Int := (dg f n (n - q) q 0 0).2
def dgOk (k : Nat) (v : Int) : Prop := (0 ≤ v ∧ v ≤ 99999) ∧ (k ≤ 0 → v ≤ 0) ∧ (k ≤ 1 → v ≤ 9) ∧ (k ≤ 2 → v ≤ 99) ∧ (k ≤ 3 → v ≤ 999) ∧ (k ≤ 4 → v ≤ 9999)
theorem dgOk.step {k : Nat} {v b : Int} (h : dgOk k v) (hb : 48 ≤ b ∧ b ≤ 57) : dgOk (k + 1) (if k < 5 then v * 10 + b - 48 else v) := by
  unfold dgOk at *
  split <;> omega
/-- the fault of a number, and the number -/
def numF (f : Nat → Int) (n q : Nat) (lo hi : Int) : Int := if numK f n q = 0 then 1 + 8 * q else if 5 < numK f n q ∨ numV f n q < lo ∨ hi < numV f n q then 2 + 8 * q else 0
theorem C_readNumber {G : q_G} {d : Nat} {M : q_Mem} {N : q_MemL} {n p : Nat} {lo hi : Int} (hd : 2 ≤ d) (hn : M 1 1 = (n : Int)) (hn2 : n ≤ 400) (hp : M 1 2 = (p : Int)) (hp2 : p < 1000) (h3 : M 1 3 = 0) (hlo : i32 lo) (hhi : i32 hi) : AC0 G d m_X8_readNumber [.ref 1, I lo, I hi] M N (CV (fun x M' N' => N' = N ∧ M' = q_up (q_up M 1 2 ((skip (M 2) n p + numK (M 2) n (skip (M 2) n p) : Nat) : Int)) 1 3 (numF (M 2) n (skip (M 2) n p) lo hi) ∧ x = I (if numF (M 2) n (skip (M 2) n p) lo hi = 0 then numV (M 2) n (skip (M 2) n p) else lo))) := by
  unfold i32 at hlo hhi
  have hsk := skip_le (M 2) n p
  refine AC.of (L0 := [_, _, _, none, none, none, none]) pn_X8 (Nat.le_of_ble_eq_true rfl) rfl ?_
  refine st_aload_n dX8_readNumber_0 rfl ?_
  refine c_V0p (d' := d - 1) dX8_readNumber_1 l_X8_33 k_X8_failed i_X8_failed (Or.inl ⟨_, _, _, _, _, (by first | with_reducible assumption | rfl), by rfl⟩) (by omega) (Nat.le_of_ble_eq_true rfl) (C_failed (by rw [h3]; unfold i32; omega)) ?_
  refine b_eq (tgt := 9) dX8_readNumber_4 rfl (fun h => ?_) (fun h => absurd h3 h)
  refine st_aload_n dX8_readNumber_9 rfl ?_
  refine c_V0i (d' := d - 1) dX8_readNumber_10 l_X8_29 k_X8_peek i_X8_peek (Or.inl ⟨_, _, _, _, _, (by first | with_reducible assumption | rfl), by rfl⟩) (by omega) (Nat.le_of_ble_eq_true rfl) (C_peek (by omega) hn hn2 hp hp2) (fun x M1 N1 hx => ?_)
  obtain ⟨rfl, rfl, rfl⟩ := hx
  generalize skip (M 2) n p = q at *
  have hq2 : q < 1000 := by omega
  refine st_istore_n (L' := [_, _, _, _, _, _, _]) dX8_readNumber_13 (by decide) rfl rfl ?_
  refine st_aload_n dX8_readNumber_14 rfl ?_
  refine st_getfi dX8_readNumber_15 f_X8_19 (by first | with_reducible assumption | rfl) (by rfl) ?_
  rw [show q_up M 1 2 (q : Int) 1 2 = (q : Int) by simp [q_up]]
  refine st_istore (L' := [_, _, _, _, _, _, _]) dX8_readNumber_18 (by decide) rfl rfl ?_
  refine st_iconst dX8_readNumber_20 ?_
  refine st_istore (L' := [_, _, _, _, _, _, _]) dX8_readNumber_21 (by decide) rfl rfl ?_
  refine st_iconst dX8_readNumber_23 ?_
  refine st_istore (L' := [_, _, _, _, _, _, _]) dX8_readNumber_24 (by decide) rfl rfl ?_
  -- behind the digits
  have tl : ∀ (k : Nat) (v : Int) (l3 : Int) (M1 : q_Mem), dgOk k v → k ≤ 400 → M1 = q_up M 1 2 ((q + k : Nat) : Int) → (k, v) = dg (M 2) n (n - q) q 0 0 → AW0 G d m_X8_readNumber 97 [some (.ref 1), some (I lo), some (I hi), some (I l3), some (I q), some (I k), some (I v)] [] M1 N1 (CV (fun x M' N' => N' = N1 ∧ M' = q_up (q_up M 1 2 ((q + numK (M 2) n q : Nat) : Int)) 1 3 (numF (M 2) n q lo hi) ∧ x = I (if numF (M 2) n q lo hi = 0 then numV (M 2) n q else lo))) := by
    intro k v l3 M1 hok hk4 hM1 hD
    have hk : numK (M 2) n q = k := by unfold numK; rw [← hD]
    have hv : numV (M 2) n q = v := by unfold numV; rw [← hD]
    have h31 : M1 1 3 = 0 := by rw [hM1]; simp [q_up, h3]
    unfold numF
    rw [hk, hv]
    have hvr := hok.1
    have f1 : 5 < k ∨ v < lo ∨ hi < v → ¬ k = 0 → AW0 G d m_X8_readNumber 129 [some (.ref 1), some (I lo), some (I hi), some (I l3), some (I q), some (I k), some (I v)] [] M1 N1 (CV (fun x M' N' => N' = N1 ∧ M' = q_up (q_up M 1 2 ((q + k : Nat) : Int)) 1 3 (if k = 0 then 1 + 8 * (q : Int) else if 5 < k ∨ v < lo ∨ hi < v then 2 + 8 * (q : Int) else 0) ∧ x = I (if (if k = 0 then 1 + 8 * (q : Int) else if 5 < k ∨ v < lo ∨ hi < v then 2 + 8 * (q : Int) else 0) = 0 then v else lo))) := by
      intro hc hk0
      rw [if_neg hk0, if_pos hc, if_neg (by omega)]
      refine st_aload_n dX8_readNumber_129 rfl ?_
      refine st_iload dX8_readNumber_130 rfl ?_
      refine st_iconst dX8_readNumber_132 ?_
      refine c_V2v (d' := d - 1) dX8_readNumber_133 l_X8_37 k_X8_fail i_X8_fail (Or.inl ⟨_, _, _, _, _, (by first | with_reducible assumption | rfl), by rfl⟩) (by omega) (Nat.le_of_ble_eq_true rfl) (C_fail (by rw [h31]; unfold i32; omega)) (fun M2 N2 hx => ?_)
      obtain ⟨rfl, rfl⟩ := hx
      refine st_iload_n dX8_readNumber_136 rfl ?_
      exact r_i dX8_readNumber_137 rfl ⟨rfl, by rw [hM1, show flt (q_up M 1 2 ((q + k : Nat) : Int) 1 3) (q : Int) 1 = 2 + 8 * (q : Int) by rw [← hM1, h31, flt, if_pos rfl]; omega], rfl⟩
    refine st_iload dX8_readNumber_97 rfl ?_
    refine st_if_ne (tgt := 111) dX8_readNumber_99 (by omega) rfl (fun c0 => ?_) (fun c0 => ?_)
    · refine st_iload dX8_readNumber_111 rfl ?_
      refine st_iconst dX8_readNumber_113 ?_
      have hk0 : ¬ k = 0 := by omega
      refine st_icmp_gt (tgt := 129) dX8_readNumber_114 (by omega) (by omega) rfl (fun c1 => ?_) (fun c1 => ?_)
      · skip
        exact f1 (Or.inl (by omega)) hk0
      · refine st_iload dX8_readNumber_117 rfl ?_
        refine st_iload_n dX8_readNumber_119 rfl ?_
        refine st_icmp_lt (tgt := 129) dX8_readNumber_120 (by omega) (by omega) rfl (fun c2 => ?_) (fun c2 => ?_)
        · skip
          exact f1 (Or.inr (Or.inl c2)) hk0
        · refine st_iload dX8_readNumber_123 rfl ?_
          refine st_iload_n dX8_readNumber_125 rfl ?_
          refine st_icmp_le (tgt := 138) dX8_readNumber_126 (by omega) (by omega) rfl (fun c3 => ?_) (fun c3 => ?_)
          · refine st_iload dX8_readNumber_138 rfl ?_
            rw [if_neg hk0, if_neg (by omega), if_pos rfl]
            refine r_i dX8_readNumber_140 rfl ⟨rfl, ?_, rfl⟩
            rw [hM1, q_up_id (M := q_up M 1 2 ((q + k : Nat) : Int)) (a := 1) (i := 3) (by rw [← hM1, h31])]
          · skip
            exact f1 (Or.inr (Or.inr (by omega))) hk0
    · refine st_aload_n dX8_readNumber_102 rfl ?_
      refine st_iload dX8_readNumber_103 rfl ?_
      refine st_iconst dX8_readNumber_105 ?_
      have hk0 : k = 0 := by omega
      rw [if_pos hk0, if_neg (by omega)]
      refine c_V2v (d' := d - 1) dX8_readNumber_106 l_X8_37 k_X8_fail i_X8_fail (Or.inl ⟨_, _, _, _, _, (by first | with_reducible assumption | rfl), by rfl⟩) (by omega) (Nat.le_of_ble_eq_true rfl) (C_fail (by rw [h31]; unfold i32; omega)) (fun M2 N2 hx => ?_)
      obtain ⟨rfl, rfl⟩ := hx
      refine st_iload_n dX8_readNumber_109 rfl ?_
      exact r_i dX8_readNumber_110 rfl ⟨rfl, by rw [hM1, show flt (q_up M 1 2 ((q + k : Nat) : Int) 1 3) (q : Int) 0 = 1 + 8 * (q : Int) by rw [← hM1, h31, flt, if_pos rfl]; omega], rfl⟩
  have loop : ∀ (m k : Nat) (v : Int) (M1 : q_Mem), q + k + m = max n q → dgOk k v → M1 = q_up M 1 2 ((q + k : Nat) : Int) → dg (M 2) n (n - (q + k)) (q + k) k v = dg (M 2) n (n - q) q 0 0 → AW0 G d m_X8_readNumber 26 [some (.ref 1), some (I lo), some (I hi), some (I (bytA (M 2) n ((q + k : Nat) : Int))), some (I q), some (I k), some (I v)] [] M1 N1 (CV (fun x M' N' => N' = N1 ∧ M' = q_up (q_up M 1 2 ((q + numK (M 2) n q : Nat) : Int)) 1 3 (numF (M 2) n q lo hi) ∧ x = I (if numF (M 2) n q lo hi = 0 then numV (M 2) n q else lo))) := by
    intro m
    induction m with
    | zero =>
      intro k v M1 hm hok hM1 hD
      have e0 : n - (q + k) = 0 := by omega
      rw [e0] at hD
      have h2 : M1 1 2 = ((q + k : Nat) : Int) := by rw [hM1]; simp [q_up]
      have h1 : M1 1 1 = (n : Int) := by rw [hM1]; simp [q_up, hn]
      refine st_aload_n dX8_readNumber_26 rfl ?_
      refine st_getfi dX8_readNumber_27 f_X8_19 (by first | with_reducible assumption | rfl) (by rfl) ?_
      rw [h2]
      refine st_aload_n dX8_readNumber_30 rfl ?_
      refine st_getfi dX8_readNumber_31 f_X8_15 (by first | with_reducible assumption | rfl) (by rfl) ?_
      rw [h1]
      refine st_icmp_ge (tgt := 97) dX8_readNumber_34 (by omega) (by omega) rfl (fun c => ?_) (fun c => ?_)
      · skip
        exact tl k v _ M1 hok (by omega) hM1 hD
      · skip
        omega
    | succ m ih =>
      intro k v M1 hm hok hM1 hD
      have h2 : M1 1 2 = ((q + k : Nat) : Int) := by rw [hM1]; simp [q_up]
      have h1 : M1 1 1 = (n : Int) := by rw [hM1]; simp [q_up, hn]
      have hb := bytA_rng (M 2) n ((q + k : Nat) : Int)
      rw [show n - (q + k) = n - (q + (k + 1)) + 1 by omega] at hD
      rw [dg_s] at hD
      refine st_aload_n dX8_readNumber_26 rfl ?_
      refine st_getfi dX8_readNumber_27 f_X8_19 (by first | with_reducible assumption | rfl) (by rfl) ?_
      rw [h2]
      refine st_aload_n dX8_readNumber_30 rfl ?_
      refine st_getfi dX8_readNumber_31 f_X8_15 (by first | with_reducible assumption | rfl) (by rfl) ?_
      rw [h1]
      refine st_icmp_ge (tgt := 97) dX8_readNumber_34 (by omega) (by omega) rfl (fun c => ?_) (fun c => ?_)
      · skip
        omega
      · refine st_iload_n dX8_readNumber_37 rfl ?_
        refine st_bipush dX8_readNumber_38 (by decide) ?_
        refine st_icmp_lt (tgt := 97) dX8_readNumber_40 (by omega) (by omega) rfl (fun c2 => ?_) (fun c2 => ?_)
        · skip
          rw [if_neg (by omega)] at hD
          exact tl k v _ M1 hok (by omega) hM1 hD
        · refine st_iload_n dX8_readNumber_43 rfl ?_
          refine st_bipush dX8_readNumber_44 (by decide) ?_
          refine st_icmp_gt (tgt := 97) dX8_readNumber_46 (by omega) (by omega) rfl (fun c3 => ?_) (fun c3 => ?_)
          · skip
            rw [if_neg (by omega)] at hD
            exact tl k v _ M1 hok (by omega) hM1 hD
          · skip
            have hdg : 48 ≤ bytA (M 2) n ((q + k : Nat) : Int) ∧ bytA (M 2) n ((q + k : Nat) : Int) ≤ 57 := by omega
            rw [if_pos hdg] at hD
            have hok2 := hok.step hdg
            have nx : ∀ (v' : Int), v' = (if k < 5 then v * 10 + bytA (M 2) n ((q + k : Nat) : Int) - 48 else v) → AW0 G d m_X8_readNumber 70 [some (.ref 1), some (I lo), some (I hi), some (I (bytA (M 2) n ((q + k : Nat) : Int))), some (I q), some (I k), some (I v)] [I v'] M1 N1 (CV (fun x M' N' => N' = N1 ∧ M' = q_up (q_up M 1 2 ((q + numK (M 2) n q : Nat) : Int)) 1 3 (numF (M 2) n q lo hi) ∧ x = I (if numF (M 2) n q lo hi = 0 then numV (M 2) n q else lo))) := by
              intro v' hv'
              rw [← hv'] at hD hok2
              refine st_istore (L' := [_, _, _, _, _, _, _]) dX8_readNumber_70 (by decide) rfl rfl ?_
              refine st_iinc (L' := [_, _, _, _, _, _, _]) dX8_readNumber_72 rfl (by decide) rfl rfl ?_
              refine st_aload_n dX8_readNumber_75 rfl ?_
              refine st_dup dX8_readNumber_76 rfl ?_
              refine st_getfi dX8_readNumber_77 f_X8_19 (by first | with_reducible assumption | rfl) (by rfl) ?_
              rw [h2]
              refine st_iconst dX8_readNumber_80 ?_
              refine st_iadd dX8_readNumber_81 ?_
              refine st_putfi dX8_readNumber_82 w_X8_19 (by first | with_reducible assumption | rfl) (by rfl) rfl rfl ?_
              refine st_aload_n dX8_readNumber_85 rfl ?_
              refine st_aload_n dX8_readNumber_86 rfl ?_
              refine st_getfi dX8_readNumber_87 f_X8_19 (by first | with_reducible assumption | rfl) (by rfl) ?_
              rw [show q_up M1 1 2 (((q + k : Nat) : Int) + 1) 1 2 = ((q + (k + 1) : Nat) : Int) by simp [q_up]; omega]
              refine c_V1p (d' := d - 1) dX8_readNumber_90 l_X8_25 k_X8_byteAt i_X8_byteAt (Or.inl ⟨_, _, _, _, _, (by first | with_reducible assumption | rfl), by rfl⟩) (by omega) (Nat.le_of_ble_eq_true rfl) (C_byteAt (n := n) (by rw [show q_up M1 1 2 (((q + k : Nat) : Int) + 1) 1 1 = M1 1 1 by simp [q_up]]; exact h1) hn2 (by unfold i32; omega)) ?_
              rw [show q_up M1 1 2 (((q + k : Nat) : Int) + 1) 2 = M 2 by rw [hM1, q_up_ne (by decide), q_up_ne (by decide)]]
              refine st_istore_n (L' := [_, _, _, _, _, _, _]) dX8_readNumber_93 (by decide) rfl rfl ?_
              refine st_goto (tgt := 26) dX8_readNumber_94 rfl ?_
              refine AW.to (ih (k + 1) v' (q_up M 1 2 ((q + (k + 1) : Nat) : Int)) (by omega) hok2 rfl hD) (h2 := by simp) (h4 := ?_)
              rw [hM1]
              funext a j
              simp only [q_up]
              split
              · omega
              · rfl
            refine st_iload dX8_readNumber_49 rfl ?_
            refine st_iconst dX8_readNumber_51 ?_
            refine st_icmp_ge (tgt := 68) dX8_readNumber_52 (by omega) (by omega) rfl (fun c4 => ?_) (fun c4 => ?_)
            · refine st_iload dX8_readNumber_68 rfl ?_
              exact nx v (by rw [if_neg (by omega)])
            · refine st_iload dX8_readNumber_55 rfl ?_
              refine st_bipush dX8_readNumber_57 (by decide) ?_
              refine st_imul dX8_readNumber_59 ?_
              refine st_iload_n dX8_readNumber_60 rfl ?_
              refine st_iadd dX8_readNumber_61 ?_
              refine st_bipush dX8_readNumber_62 (by decide) ?_
              refine st_isub dX8_readNumber_64 ?_
              refine st_goto (tgt := 70) dX8_readNumber_65 rfl ?_
              exact nx _ (by rw [if_pos (by omega)])
  exact AW.to (loop (max n q - q) 0 0 (q_up M 1 2 (q : Int)) (by omega) (by unfold dgOk; omega) (by simp) (by simp)) (h2 := by simp)


/-! the system reads a house: numbers along the tape -/
theorem bytA_congr {f g : Nat → Int} {n : Nat} (h : ∀ j, j < n → f j = g j) (p : Int) : bytA f n p = bytA g n p := by
  unfold bytA
  split
  · rw [h _ (by omega)]
  · rfl
theorem bytA_fun {f g : Nat → Int} {n : Nat} (h : ∀ j, j < n → f j = g j) : bytA f n = bytA g n := funext (bytA_congr h)
theorem skB_congr {f g : Nat → Int} {n : Nat} (h : ∀ j, j < n → f j = g j) : ∀ m p, skB f n m p = skB g n m p
  | 0, _ => rfl
  | m + 1, p => by unfold skB; rw [bytA_fun h, skB_congr h m (p + 1)]
theorem skip_congr {f g : Nat → Int} {n : Nat} (h : ∀ j, j < n → f j = g j) (p : Nat) : skip f n p = skip g n p := skB_congr h _ _
theorem dg_congr {f g : Nat → Int} {n : Nat} (h : ∀ j, j < n → f j = g j) : ∀ m p k v, dg f n m p k v = dg g n m p k v
  | 0, _, _, _ => rfl
  | m + 1, p, k, v => by rw [dg_s, dg_s, bytA_fun h, dg_congr h m (p + 1)]
theorem numK_congr {f g : Nat → Int} {n : Nat} (h : ∀ j, j < n → f j = g j) (q : Nat) : numK f n q = numK g n q := by unfold numK; rw [dg_congr h]
theorem numV_congr {f g : Nat → Int} {n : Nat} (h : ∀ j, j < n → f j = g j) (q : Nat) : numV f n q = numV g n q := by unfold numV; rw [dg_congr h]
theorem numF_congr {f g : Nat → Int} {n : Nat} (h : ∀ j, j < n → f j = g j) (q : Nat) (lo hi : Int) : numF f n q lo hi = numF g n q lo hi := by unfold numF; rw [numK_congr h, numV_congr h]
theorem ltB_congr {f g : Nat → Int} {n : Nat} (h : ∀ j, j < n → f j = g j) : ∀ m p, ltB f n m p = ltB g n m p
  | 0, _ => rfl
  | m + 1, p => by rw [ltB_s, ltB_s, bytA_fun h, ltB_congr h m (p + 1)]
theorem lets_congr {f g : Nat → Int} {n : Nat} (h : ∀ j, j < n → f j = g j) (p : Nat) : lets f n p = lets g n p := ltB_congr h _ _
theorem mtB_congr {f g : Nat → Int} {n : Nat} (h : ∀ j, j < n → f j = g j) : ∀ (w : List Int) (p : Nat), mtB f n p w = mtB g n p w
  | [], _ => rfl
  | c :: w, p => by unfold mtB; rw [bytA_fun h, mtB_congr h w (p + 1)]
theorem isWd_congr {f g : Nat → Int} {n : Nat} (h : ∀ j, j < n → f j = g j) (p : Nat) (w : List Int) : isWd f n p w = isWd g n p w := by unfold isWd; rw [lets_congr h, mtB_congr h]
theorem findW_congr {f g : Nat → Int} {n : Nat} (h : ∀ j, j < n → f j = g j) (p : Nat) : ∀ (ws : List (List Int)) (k : Int), findW f n p ws k = findW g n p ws k
  | [], _ => rfl
  | w :: ws, k => by unfold findW; rw [isWd_congr h, findW_congr h p ws (k + 1)]
theorem dg_ok {f : Nat → Int} {n : Nat} : ∀ (m p k : Nat) (v : Int), dgOk k v → dgOk (dg f n m p k v).1 (dg f n m p k v).2 ∧ (dg f n m p k v).1 ≤ k + m
  | 0, p, k, v, h => ⟨h, Nat.le_refl _⟩
  | m + 1, p, k, v, h => by
    rw [dg_s]
    split
    · rename_i hb
      have := dg_ok (f := f) (n := n) m (p + 1) (k + 1) _ (h.step hb)
      exact ⟨this.1, by omega⟩
    · exact ⟨h, by omega⟩
theorem num_ok (f : Nat → Int) (n q : Nat) : numK f n q ≤ n - q ∧ (0 ≤ numV f n q ∧ numV f n q ≤ 99999) := by
  have := dg_ok (f := f) (n := n) (n - q) q 0 0 (by unfold dgOk; omega)
  unfold numK numV
  exact ⟨by omega, this.1.1⟩
theorem numF_rng {f : Nat → Int} {n q : Nat} {lo hi : Int} (hq : q ≤ 400) : (numF f n q lo hi = 0 → lo ≤ numV f n q ∧ numV f n q ≤ hi) ∧ 0 ≤ numF f n q lo hi ∧ numF f n q lo hi ≤ 3300 := by
  unfold numF
  split
  · omega
  · split <;> omega
/-- the tape of the system: n bytes, at a place, without a fault -/
def TP (M : q_Mem) (n p : Nat) : Prop := M 1 1 = (n : Int) ∧ n ≤ 400 ∧ M 1 2 = (p : Int) ∧ p ≤ n ∧ M 1 3 = 0
/-- with a fault -/
def TE (M : q_Mem) (n : Nat) (F : Int) : Prop := M 1 1 = (n : Int) ∧ n ≤ 400 ∧ (0 ≤ M 1 2 ∧ M 1 2 ≤ 400) ∧ M 1 3 = F ∧ ¬ F = 0 ∧ 0 ≤ F ∧ F ≤ 3300
theorem TP.exc {X : List Nat} {M M1 : q_Mem} {n p : Nat} (h : TP M n p) (hE : Exc X M M1) (hX : 1 ∉ X) : TP M1 n p := by
  unfold TP at *
  rw [hE 1 hX]
  exact h
theorem TE.exc {X : List Nat} {M M1 : q_Mem} {n : Nat} {F : Int} (h : TE M n F) (hE : Exc X M M1) (hX : 1 ∉ X) : TE M1 n F := by
  unfold TE at *
  rw [hE 1 hX]
  exact h
theorem TP.up {M : q_Mem} {n p q : Nat} (h : TP M n p) (hq : q ≤ n) : TP (q_up M 1 2 (q : Int)) n q := by
  obtain ⟨a, b, c, d, e⟩ := h
  exact ⟨by simp [q_up, a], b, by simp [q_up], hq, by simp [q_up, e]⟩
/-- a number is read -/
def rd (M : q_Mem) (n : Nat) (lo hi : Int) : Except Int (Int × q_Mem) :=
  if numF (M 2) n (skip (M 2) n (M 1 2).toNat) lo hi = 0 then .ok (numV (M 2) n (skip (M 2) n (M 1 2).toNat), q_up M 1 2 ((skip (M 2) n (M 1 2).toNat + numK (M 2) n (skip (M 2) n (M 1 2).toNat) : Nat) : Int))
  else .error (numF (M 2) n (skip (M 2) n (M 1 2).toNat) lo hi)
theorem rd_ok {M M1 : q_Mem} {n p : Nat} {lo hi v : Int} (h : TP M n p) (hr : rd M n lo hi = .ok (v, M1)) : Exc [1] M M1 ∧ (∃ q, TP M1 n q) ∧ (lo ≤ v ∧ v ≤ hi) ∧ (0 ≤ v ∧ v ≤ 99999) := by
  obtain ⟨a, b, c, e, f⟩ := h
  have hp : (M 1 2).toNat = p := by omega
  unfold rd at hr
  rw [hp] at hr
  have hs := skip_le (M 2) n p
  have hk := num_ok (M 2) n (skip (M 2) n p)
  split at hr
  · rename_i h0
    cases hr
    refine ⟨Exc.up (by simp), ⟨_, TP.up ⟨a, b, c, e, f⟩ ?_⟩, (numF_rng (by omega)).1 h0, hk.2⟩
    omega
  · cases hr
theorem C_readNumberE {G : q_G} {d : Nat} {M : q_Mem} {N : q_MemL} {n : Nat} {lo hi F : Int} (hd : 2 ≤ d) (h : TE M n F) : AC0 G d m_X8_readNumber [.ref 1, I lo, I hi] M N (CV (PU (I lo) M N)) := by
  obtain ⟨a, b, c, e, f, g1, g2⟩ := h
  refine AC.of (L0 := [_, _, _, none, none, none, none]) pn_X8 (Nat.le_of_ble_eq_true rfl) rfl ?_
  refine st_aload_n dX8_readNumber_0 rfl ?_
  refine c_V0p (d' := d - 1) dX8_readNumber_1 l_X8_33 k_X8_failed i_X8_failed (Or.inl ⟨_, _, _, _, _, (by first | with_reducible assumption | rfl), by rfl⟩) (by omega) (Nat.le_of_ble_eq_true rfl) (C_failed (by rw [e]; unfold i32; omega)) ?_
  refine b_eq (tgt := 9) dX8_readNumber_4 rfl (fun h => absurd (show ¬ M 1 3 = 0 by rw [e]; exact f) h) (fun h => ?_)
  refine st_iload_n dX8_readNumber_7 rfl ?_
  exact r_i dX8_readNumber_8 rfl ⟨rfl, rfl, rfl⟩
/-- what reading a number leaves -/
def rdQ (M : q_Mem) (n : Nat) (lo hi : Int) (x : Value) (M' : q_Mem) : Prop := (∃ v, rd M n lo hi = .ok (v, M') ∧ x = I v) ∨ (∃ F, rd M n lo hi = .error F ∧ x = I lo ∧ Exc [1] M M' ∧ TE M' n F)
theorem C_rd {G : q_G} {d : Nat} {M : q_Mem} {N : q_MemL} {n p : Nat} {lo hi : Int} (hd : 2 ≤ d) (h : TP M n p) (hlo : i32 lo) (hhi : i32 hi) : AC0 G d m_X8_readNumber [.ref 1, I lo, I hi] M N (CV (fun x M' N' => N' = N ∧ rdQ M n lo hi x M')) := by
  obtain ⟨a, b, c, e, f⟩ := h
  have hs := skip_le (M 2) n p
  have hk := num_ok (M 2) n (skip (M 2) n p)
  refine AC.mono (fun v S' M' N' hq => ?_) (C_readNumber (lo := lo) (hi := hi) hd a b c (by omega) f hlo hhi)
  obtain ⟨hS, x, hv, hN, hM, hx⟩ := hq
  refine ⟨hS, x, hv, hN, ?_⟩
  have hp : (M 1 2).toNat = p := by omega
  unfold rdQ rd
  rw [hp]
  generalize hF : numF (M 2) n (skip (M 2) n p) lo hi = F at *
  have hFr := numF_rng (f := M 2) (n := n) (q := skip (M 2) n p) (lo := lo) (hi := hi) (by omega)
  rw [hF] at hFr
  by_cases h0 : F = 0
  · left
    refine ⟨_, ?_, by rw [hx, if_pos h0]⟩
    rw [if_pos h0, hM, h0]
    rw [q_up_id (M := q_up M 1 2 ((skip (M 2) n p + numK (M 2) n (skip (M 2) n p) : Nat) : Int)) (a := 1) (i := 3) (by simp [q_up, f])]
  · right
    refine ⟨F, by rw [if_neg h0], by rw [hx, if_neg h0], ?_, ?_⟩
    · rw [hM]
      exact (Exc.up (by simp)).tr (Exc.up (by simp))
    · rw [hM]
      exact ⟨by simp [q_up, a], b, by simp [q_up]; omega, by simp [q_up], h0, hFr.2⟩
theorem C_failT {G : q_G} {d : Nat} {M : q_Mem} {N : q_MemL} {n p q k : Nat} (h : TP M n p) (hq : q ≤ 400) (hk : k < 8) : AC0 G d m_X8_fail [.ref 1, I q, I k] M N (CN (fun M' N' => N' = N ∧ Exc [1] M M' ∧ TE M' n (1 + 8 * (q : Int) + (k : Int)))) := by
  obtain ⟨a, b, c, e, f⟩ := h
  refine AC.mono (fun v S' M' N' hq => ?_) (C_fail (G := G) (d := d) (N := N) (a := (q : Int)) (k := (k : Int)) (M := M) (by rw [f]; unfold i32; omega))
  obtain ⟨hS, hv, hN, hM⟩ := hq
  rw [f, flt, if_pos rfl] at hM
  refine ⟨hS, hv, hN, by rw [hM]; exact Exc.up (by simp), ?_⟩
  rw [hM]
  exact ⟨by simp [q_up, a], b, by simp [q_up]; omega, by simp [q_up], by omega, by omega, by omega⟩
theorem C_peekT {G : q_G} {d : Nat} {M : q_Mem} {N : q_MemL} {n p : Nat} (hd : 1 ≤ d) (h : TP M n p) : AC0 G d m_X8_peek [.ref 1] M N (CV (fun x M' N' => N' = N ∧ x = I (bytA (M 2) n (skip (M 2) n p : Nat)) ∧ M' = q_up M 1 2 ((skip (M 2) n p : Nat) : Int) ∧ TP M' n (skip (M 2) n p))) := by
  have hs := skip_le (M 2) n p
  refine AC.mono (fun v S' M' N' hq => ?_) (C_peek hd h.1 h.2.1 h.2.2.1 (by have := h.2.1; have := h.2.2.2.1; omega))
  obtain ⟨hS, x, hv, hN, hx, hM⟩ := hq
  refine ⟨hS, x, hv, hN, hx, hM, ?_⟩
  rw [hM]
  exact h.up (hs.2.1 h.2.2.2.1)
/-- voices of a person -/
def hVo (n q : Nat) : Nat → Nat → q_Mem → Except Int q_Mem
  | 0, _, M => .ok M
  | m + 1, h, M => match rd M n 0 30 with
    | .error F => .error F
    | .ok (v, M1) => hVo n q m (h + 1) (q_up M1 14 (6 * q + h) v)
/-- a clause of a house behind its word -/
def hRest (n : Nat) (w : Int) (M : q_Mem) : Except Int q_Mem :=
  if w = 0 then (match rd M n 1 4 with
    | .error F => .error F
    | .ok (v, M1) => match rd (q_up M1 10 1 v) n 1 6 with
      | .error F => .error F
      | .ok (v2, M2) => .ok (q_up (q_up M2 10 2 v2) 10 3 1))
  else if w = 1 then (match rd M n 1 40 with
    | .error F => .error F
    | .ok (v, M1) => .ok (q_up (q_up M1 11 (M 10 3).toNat (M 11 ((M 10 3).toNat - 1) + v)) 10 3 (M 10 3 + 1)))
  else if w = 2 then (match rd M n 0 (M 10 1 - 1) with
    | .error F => .error F
    | .ok (v, M1) => match hVo n (M 10 4).toNat (M 10 2).toNat 0 (q_up M1 10 13 (w4 (M 10 13) (M 10 4).toNat v)) with
      | .error F => .error F
      | .ok M2 => .ok (q_up M2 10 4 (M 10 4 + 1)))
  else if w = 3 then (match rd M n 0 (M 10 4 - 1) with
    | .error F => .error F
    | .ok (v, M1) => .ok (q_up M1 10 6 (orb (M 10 6) v.toNat)))
  else if w = 4 then (match rd M n 0 (M 10 1 - 1) with
    | .error F => .error F
    | .ok (v, M1) => match rd (q_up M1 10 13 (w4 (M 10 13) (7 + (M 10 5).toNat) v)) n 0 60 with
      | .error F => .error F
      | .ok (v2, M2) => .ok (q_up (q_up M2 13 (M 10 5).toNat v2) 10 5 (M 10 5 + 1)))
  else (match rd M n 0 (M 10 4 - 1) with
    | .error F => .error F
    | .ok (v, M1) => match rd M1 n 0 99 with
      | .error F => .error F
      | .ok (v2, M2) => .ok (q_up M2 12 v.toNat v2))
/-- what lies outside of the rows of the spare home is 0 -/
def zT (M : q_Mem) : Prop := (∀ j, ¬ (j ≤ 6 ∨ j = 11 ∨ j = 12 ∨ j = 13 ∨ j = 15 ∨ j = 17 ∨ j = 18) → M 10 j = 0) ∧ (∀ j, 8 ≤ j → M 11 j = 0) ∧ (∀ j, 7 ≤ j → M 12 j = 0) ∧ (∀ j, 3 ≤ j → M 13 j = 0) ∧ ∀ j, 42 ≤ j → M 14 j = 0
def Exh (X : List Nat) (M M1 : q_Mem) : Prop := Exc X M M1 ∧ (zT M → zT M1)
theorem Exh.tr {X : List Nat} {M M1 M2 : q_Mem} (h : Exh X M M1) (h2 : Exh X M1 M2) : Exh X M M2 := ⟨h.1.tr h2.1, fun z => h2.2 (h.2 z)⟩
theorem Exh.sub {X Y : List Nat} {M M1 : q_Mem} (h : Exh X M M1) (hs : ∀ a, a ∈ X → a ∈ Y) : Exh Y M M1 := ⟨h.1.sub hs, h.2⟩
theorem Exc.hz {X : List Nat} {M M1 : q_Mem} (h : Exc [1] M M1) (hs : ∀ a, a ∈ [1] → a ∈ X) : Exh X M M1 := ⟨h.sub hs, fun z => by
  unfold zT at *
  rw [h 10 (by simp), h 11 (by simp), h 12 (by simp), h 13 (by simp), h 14 (by simp)]
  exact z⟩
theorem Exh.up {X : List Nat} {M : q_Mem} {a i : Nat} {z : Int} (h : a ∈ X) (hi : (a = 10 ∧ (i ≤ 6 ∨ i = 11 ∨ i = 12 ∨ i = 13 ∨ i = 15 ∨ i = 17 ∨ i = 18)) ∨ (a = 11 ∧ i < 8) ∨ (a = 12 ∧ i < 7) ∨ (a = 13 ∧ i < 3) ∨ (a = 14 ∧ i < 42)) : Exh X M (q_up M a i z) := by
  refine ⟨Exc.up h, fun zt => ?_⟩
  obtain ⟨z0, z1, z2, z3, z4⟩ := zt
  refine ⟨fun j hj => ?_, fun j hj => ?_, fun j hj => ?_, fun j hj => ?_, fun j hj => ?_⟩
  · have := z0 j hj
    simp only [q_up]
    rw [if_neg (by omega)]
    exact this
  · have := z1 j hj
    simp only [q_up]
    rw [if_neg (by omega)]
    exact this
  · have := z2 j hj
    simp only [q_up]
    rw [if_neg (by omega)]
    exact this
  · have := z3 j hj
    simp only [q_up]
    rw [if_neg (by omega)]
    exact this
  · have := z4 j hj
    simp only [q_up]
    rw [if_neg (by omega)]
    exact this
/-- how a reading ended -/
def hQ (X : List Nat) (M : q_Mem) (n : Nat) (r : Except Int q_Mem) (M' : q_Mem) : Prop := r = .ok M' ∨ ∃ F, r = .error F ∧ Exh X M M' ∧ TE M' n F
/-- what is told so far -/
def HP (M : q_Mem) : Prop := (0 ≤ M 10 1 ∧ M 10 1 ≤ 4) ∧ (0 ≤ M 10 2 ∧ M 10 2 ≤ 6) ∧ (0 ≤ M 10 3 ∧ M 10 3 ≤ 8) ∧ (0 ≤ M 10 4 ∧ M 10 4 ≤ 7) ∧ (0 ≤ M 10 5 ∧ M 10 5 ≤ 3) ∧ (0 ≤ M 10 6 ∧ M 10 6 < 128) ∧ (0 ≤ M 10 13 ∧ M 10 13 < 1048576)
theorem HP.exc {M M1 : q_Mem} (h : HP M) (e : M1 10 = M 10) : HP M1 := by
  unfold HP at *
  rw [e]
  exact h
theorem C_hperson {G : q_G} {d : Nat} {M : q_Mem} {N : q_MemL} {n p : Nat} (hd : 3 ≤ d) (h : TP M n p) (hH : HP M) (h7 : M 10 4 < 7) : AC0 G d m_X3_readPerson [.ref 83] M N (CN (fun M' N' => N' = N ∧ hQ [1, 10, 14] M n (hRest n 2 M) M')) := by
  have hH0 := hH
  obtain ⟨⟨r1, r2⟩, ⟨r3, r4⟩, ⟨r5, r6⟩, ⟨r7, r8⟩, ⟨r9, r10⟩, r11, r12⟩ := hH
  obtain ⟨q, hq⟩ : ∃ q : Nat, M 10 4 = (q : Int) := ⟨(M 10 4).toNat, by omega⟩
  obtain ⟨hs, hh⟩ : ∃ s : Nat, M 10 2 = (s : Int) := ⟨(M 10 2).toNat, by omega⟩
  have hq7 : q < 7 := by omega
  -- in a fault
  have err : ∀ (m k : Nat) (M1 : q_Mem) (F v : Int), k + m = hs → TE M1 n F → Exh [1, 10, 14] M M1 → M1 10 2 = (hs : Int) → M1 10 4 = (q : Int) → AW0 G d m_X3_readPerson 45 [some (.ref 83), some (I v), some (I k)] [] M1 N (CN (fun M' N' => N' = N ∧ Exh [1, 10, 14] M M' ∧ TE M' n F)) := by
    intro m
    induction m with
    | zero =>
      intro k M1 F v hk hT hE e2 e4
      refine st_iload_n dX3_readPerson_45 rfl ?_
      refine st_aload_n dX3_readPerson_46 rfl ?_
      refine st_getfr dX3_readPerson_47 f_X3_15 (by first | with_reducible assumption | rfl) (by rfl) ?_
      refine st_getfi dX3_readPerson_50 f_X3_85 (by first | with_reducible assumption | rfl) (by rfl) ?_
      rw [e2]
      refine st_icmp_ge (tgt := 94) dX3_readPerson_53 (by omega) (by omega) rfl (fun c => ?_) (fun c => ?_)
      · refine st_aload_n dX3_readPerson_94 rfl ?_
        refine st_getfr dX3_readPerson_95 f_X3_15 (by first | with_reducible assumption | rfl) (by rfl) ?_
        refine st_dup dX3_readPerson_98 rfl ?_
        refine st_getfi dX3_readPerson_99 f_X3_72 (by first | with_reducible assumption | rfl) (by rfl) ?_
        refine st_iconst dX3_readPerson_102 ?_
        refine st_iadd dX3_readPerson_103 ?_
        refine st_putfi dX3_readPerson_104 w_X3_72 (by first | with_reducible assumption | rfl) (by rfl) rfl rfl ?_
        refine r_v dX3_readPerson_107 rfl ⟨rfl, hE.tr (Exh.up (by simp) (by omega)), hT.exc (Exc.up (L := [10]) (by simp)) (by simp)⟩
      · skip
        omega
    | succ m ih =>
      intro k M1 F v hk hT hE e2 e4
      refine st_iload_n dX3_readPerson_45 rfl ?_
      refine st_aload_n dX3_readPerson_46 rfl ?_
      refine st_getfr dX3_readPerson_47 f_X3_15 (by first | with_reducible assumption | rfl) (by rfl) ?_
      refine st_getfi dX3_readPerson_50 f_X3_85 (by first | with_reducible assumption | rfl) (by rfl) ?_
      rw [e2]
      refine st_icmp_ge (tgt := 94) dX3_readPerson_53 (by omega) (by omega) rfl (fun c => ?_) (fun c => ?_)
      · skip
        omega
      · refine st_aload_n dX3_readPerson_56 rfl ?_
        refine st_getfr dX3_readPerson_57 f_X3_15 (by first | with_reducible assumption | rfl) (by rfl) ?_
        refine st_getfr dX3_readPerson_60 f_X3_119 (by first | with_reducible assumption | rfl) (by rfl) ?_
        refine st_aload_n dX3_readPerson_63 rfl ?_
        refine st_getfr dX3_readPerson_64 f_X3_15 (by first | with_reducible assumption | rfl) (by rfl) ?_
        refine st_getfi dX3_readPerson_67 f_X3_72 (by first | with_reducible assumption | rfl) (by rfl) ?_
        rw [e4]
        refine st_bipush dX3_readPerson_70 (by decide) ?_
        refine st_imul dX3_readPerson_72 ?_
        refine st_iload_n dX3_readPerson_73 rfl ?_
        refine st_iadd dX3_readPerson_74 ?_
        refine st_aload_n dX3_readPerson_75 rfl ?_
        refine st_getfr dX3_readPerson_76 f_X3_9 (by first | with_reducible assumption | rfl) (by rfl) ?_
        refine st_iconst dX3_readPerson_79 ?_
        refine st_bipush dX3_readPerson_80 (by decide) ?_
        refine c_V2p (d' := d - 1) dX3_readPerson_82 l_X3_78 k_X8_readNumber i_X8_readNumber (Or.inl ⟨_, _, _, _, _, (by first | with_reducible assumption | rfl), by rfl⟩) (by omega) (Nat.le_of_ble_eq_true rfl) (C_readNumberE (by omega) hT) ?_
        refine c_S3v (d' := d - 1) dX3_readPerson_85 l_X3_96 k_X10_put s_X10_put (by omega) (Nat.le_of_ble_eq_true rfl) (C_put (n := 42) rfl (by omega) (by omega)) (fun M2 N2 hx => ?_)
        obtain ⟨rfl, rfl⟩ := hx
        rw [if_pos (by omega)]
        refine st_iinc (L' := [_, _, _]) dX3_readPerson_88 rfl (by decide) rfl rfl ?_
        refine st_goto (tgt := 45) dX3_readPerson_91 rfl ?_
        exact AW.to (ih (k + 1) (q_up M1 14 ((q : Int) * 6 + (k : Int)).toNat 0) F v (by omega) (hT.exc (Exc.up (L := [14]) (by simp)) (by simp)) (hE.tr (Exh.up (by simp) (by omega))) (by simp [q_up, e2]) (by simp [q_up, e4])) (h2 := by simp)
  -- as told
  have lp : ∀ (m k : Nat) (M1 : q_Mem) (p1 : Nat) (v : Int), k + m = hs → TP M1 n p1 → Exh [1, 10, 14] M M1 → M1 10 2 = (hs : Int) → M1 10 4 = (q : Int) → AW0 G d m_X3_readPerson 45 [some (.ref 83), some (I v), some (I k)] [] M1 N (CN (fun M' N' => N' = N ∧ hQ [1, 10, 14] M n (match hVo n q m k M1 with | .error F => .error F | .ok M2 => .ok (q_up M2 10 4 (M 10 4 + 1))) M')) := by
    intro m
    induction m with
    | zero =>
      intro k M1 p1 v hk hT hE e2 e4
      refine st_iload_n dX3_readPerson_45 rfl ?_
      refine st_aload_n dX3_readPerson_46 rfl ?_
      refine st_getfr dX3_readPerson_47 f_X3_15 (by first | with_reducible assumption | rfl) (by rfl) ?_
      refine st_getfi dX3_readPerson_50 f_X3_85 (by first | with_reducible assumption | rfl) (by rfl) ?_
      rw [e2]
      refine st_icmp_ge (tgt := 94) dX3_readPerson_53 (by omega) (by omega) rfl (fun c => ?_) (fun c => ?_)
      · refine st_aload_n dX3_readPerson_94 rfl ?_
        refine st_getfr dX3_readPerson_95 f_X3_15 (by first | with_reducible assumption | rfl) (by rfl) ?_
        refine st_dup dX3_readPerson_98 rfl ?_
        refine st_getfi dX3_readPerson_99 f_X3_72 (by first | with_reducible assumption | rfl) (by rfl) ?_
        rw [e4]
        refine st_iconst dX3_readPerson_102 ?_
        refine st_iadd dX3_readPerson_103 ?_
        refine st_putfi dX3_readPerson_104 w_X3_72 (by first | with_reducible assumption | rfl) (by rfl) rfl rfl ?_
        refine r_v dX3_readPerson_107 rfl ⟨rfl, Or.inl ?_⟩
        rw [hq]
        rfl
      · skip
        omega
    | succ m ih =>
      intro k M1 p1 v hk hT hE e2 e4
      refine st_iload_n dX3_readPerson_45 rfl ?_
      refine st_aload_n dX3_readPerson_46 rfl ?_
      refine st_getfr dX3_readPerson_47 f_X3_15 (by first | with_reducible assumption | rfl) (by rfl) ?_
      refine st_getfi dX3_readPerson_50 f_X3_85 (by first | with_reducible assumption | rfl) (by rfl) ?_
      rw [e2]
      refine st_icmp_ge (tgt := 94) dX3_readPerson_53 (by omega) (by omega) rfl (fun c => ?_) (fun c => ?_)
      · skip
        omega
      · refine st_aload_n dX3_readPerson_56 rfl ?_
        refine st_getfr dX3_readPerson_57 f_X3_15 (by first | with_reducible assumption | rfl) (by rfl) ?_
        refine st_getfr dX3_readPerson_60 f_X3_119 (by first | with_reducible assumption | rfl) (by rfl) ?_
        refine st_aload_n dX3_readPerson_63 rfl ?_
        refine st_getfr dX3_readPerson_64 f_X3_15 (by first | with_reducible assumption | rfl) (by rfl) ?_
        refine st_getfi dX3_readPerson_67 f_X3_72 (by first | with_reducible assumption | rfl) (by rfl) ?_
        rw [e4]
        refine st_bipush dX3_readPerson_70 (by decide) ?_
        refine st_imul dX3_readPerson_72 ?_
        refine st_iload_n dX3_readPerson_73 rfl ?_
        refine st_iadd dX3_readPerson_74 ?_
        refine st_aload_n dX3_readPerson_75 rfl ?_
        refine st_getfr dX3_readPerson_76 f_X3_9 (by first | with_reducible assumption | rfl) (by rfl) ?_
        refine st_iconst dX3_readPerson_79 ?_
        refine st_bipush dX3_readPerson_80 (by decide) ?_
        refine c_V2i (d' := d - 1) dX3_readPerson_82 l_X3_78 k_X8_readNumber i_X8_readNumber (Or.inl ⟨_, _, _, _, _, (by first | with_reducible assumption | rfl), by rfl⟩) (by omega) (Nat.le_of_ble_eq_true rfl) (C_rd (by omega) hT (by unfold i32; omega) (by unfold i32; omega)) (fun x M2 N2 hx => ?_)
        obtain ⟨rfl, hx⟩ := hx
        rcases hx with ⟨v2, hr, rfl⟩ | ⟨F, hr, rfl, hE2, hT2⟩
        · obtain ⟨k1, ⟨p2, k2⟩, k3, -⟩ := rd_ok hT hr
          have e22 : M2 10 2 = (hs : Int) := by rw [k1 10 (by simp)]; exact e2
          have e24 : M2 10 4 = (q : Int) := by rw [k1 10 (by simp)]; exact e4
          refine c_S3v (d' := d - 1) dX3_readPerson_85 l_X3_96 k_X10_put s_X10_put (by omega) (Nat.le_of_ble_eq_true rfl) (C_put (n := 42) rfl (by omega) (by omega)) (fun M3 N3 hx => ?_)
          obtain ⟨rfl, rfl⟩ := hx
          rw [if_pos (by omega)]
          refine st_iinc (L' := [_, _, _]) dX3_readPerson_88 rfl (by decide) rfl rfl ?_
          refine st_goto (tgt := 45) dX3_readPerson_91 rfl ?_
          have ih2 := ih (k + 1) (q_up M2 14 (6 * q + k) v2) p2 v (by omega) (k2.exc (Exc.up (L := [14]) (by simp)) (by simp)) ((hE.tr (k1.hz (by simp))).tr (Exh.up (by simp) (by omega))) (by simp [q_up, e22]) (by simp [q_up, e24])
          unfold hVo
          rw [hr]
          refine AW.to ih2 (h2 := by simp) (h4 := ?_)
          rw [show ((q : Int) * 6 + (k : Int)).toNat = 6 * q + k by omega]
        · have e22 : M2 10 2 = (hs : Int) := by rw [hE2 10 (by simp)]; exact e2
          have e24 : M2 10 4 = (q : Int) := by rw [hE2 10 (by simp)]; exact e4
          refine c_S3v (d' := d - 1) dX3_readPerson_85 l_X3_96 k_X10_put s_X10_put (by omega) (Nat.le_of_ble_eq_true rfl) (C_put (n := 42) rfl (by omega) (by omega)) (fun M3 N3 hx => ?_)
          obtain ⟨rfl, rfl⟩ := hx
          rw [if_pos (by omega)]
          refine st_iinc (L' := [_, _, _]) dX3_readPerson_88 rfl (by decide) rfl rfl ?_
          refine st_goto (tgt := 45) dX3_readPerson_91 rfl ?_
          have ih2 := err m (k + 1) (q_up M2 14 ((q : Int) * 6 + (k : Int)).toNat 0) F v (by omega) (hT2.exc (Exc.up (L := [14]) (by simp)) (by simp)) ((hE.tr (hE2.hz (by simp))).tr (Exh.up (by simp) (by omega))) (by simp [q_up, e22]) (by simp [q_up, e24])
          unfold hVo
          rw [hr]
          refine AW.to (AW.mono (fun v S' M' N' hx => ?_) ih2) (h2 := by simp)
          obtain ⟨s1, s2, s3, s4, s5⟩ := hx
          exact ⟨s1, s2, s3, Or.inr ⟨F, rfl, s4, s5⟩⟩
  unfold hRest
  rw [if_neg (by decide), if_neg (by decide), if_pos rfl]
  refine AC.of (L0 := [_, none, none]) pn_X3 (Nat.le_of_ble_eq_true rfl) rfl ?_
  refine st_aload_n dX3_readPerson_0 rfl ?_
  refine st_getfr dX3_readPerson_1 f_X3_9 (by first | with_reducible assumption | rfl) (by rfl) ?_
  refine st_iconst dX3_readPerson_4 ?_
  refine st_aload_n dX3_readPerson_5 rfl ?_
  refine st_getfr dX3_readPerson_6 f_X3_15 (by first | with_reducible assumption | rfl) (by rfl) ?_
  refine st_getfi dX3_readPerson_9 f_X3_82 (by first | with_reducible assumption | rfl) (by rfl) ?_
  refine st_iconst dX3_readPerson_12 ?_
  refine st_isub dX3_readPerson_13 ?_
  refine c_V2i (d' := d - 1) dX3_readPerson_14 l_X3_78 k_X8_readNumber i_X8_readNumber (Or.inl ⟨_, _, _, _, _, (by first | with_reducible assumption | rfl), by rfl⟩) (by omega) (Nat.le_of_ble_eq_true rfl) (C_rd (by omega) h (by unfold i32; omega) (by unfold i32; omega)) (fun x M2 N2 hx => ?_)
  obtain ⟨rfl, hx⟩ := hx
  rcases hx with ⟨v2, hr, rfl⟩ | ⟨F, hr, rfl, hE2, hT2⟩
  · obtain ⟨k1, ⟨p2, k2⟩, k3, -⟩ := rd_ok h hr
    rw [hr]
    have e10 : M2 10 = M 10 := k1 10 (by simp)
    refine st_istore_n (L' := [_, _, _]) dX3_readPerson_17 (by decide) rfl rfl ?_
    refine st_aload_n dX3_readPerson_18 rfl ?_
    refine st_getfr dX3_readPerson_19 f_X3_15 (by first | with_reducible assumption | rfl) (by rfl) ?_
    refine st_aload_n dX3_readPerson_22 rfl ?_
    refine st_getfr dX3_readPerson_23 f_X3_15 (by first | with_reducible assumption | rfl) (by rfl) ?_
    refine st_getfi dX3_readPerson_26 f_X3_106 (by first | with_reducible assumption | rfl) (by rfl) ?_
    refine st_aload_n dX3_readPerson_29 rfl ?_
    refine st_getfr dX3_readPerson_30 f_X3_15 (by first | with_reducible assumption | rfl) (by rfl) ?_
    refine st_getfi dX3_readPerson_33 f_X3_72 (by first | with_reducible assumption | rfl) (by rfl) ?_
    rw [e10, hq]
    refine st_iload_n dX3_readPerson_36 rfl ?_
    refine c_S3p (d' := d - 1) dX3_readPerson_37 l_X3_109 k_X10_withRoom s_X10_withRoom (by omega) (Nat.le_of_ble_eq_true rfl) (C_withRoom r12.1 (by omega) (by omega)) ?_
    refine st_putfi dX3_readPerson_40 w_X3_106 (by first | with_reducible assumption | rfl) (by rfl) rfl rfl ?_
    refine st_iconst dX3_readPerson_43 ?_
    refine st_istore_n (L' := [_, _, _]) dX3_readPerson_44 (by decide) rfl rfl ?_
    have hL := lp hs 0 (q_up M2 10 13 (w4 (M 10 13) q v2)) p2 v2 (by omega) (k2.exc (Exc.up (L := [10]) (by simp)) (by simp)) ((k1.hz (by simp)).tr (Exh.up (by simp) (by omega))) (by simp [q_up, e10, hh]) (by simp [q_up, e10, hq])
    rw [hq] at hL
    rw [hh, Int.toNat_natCast, Int.toNat_natCast]
    exact AW.to hL
  · rw [hr]
    have e10 : M2 10 = M 10 := hE2 10 (by simp)
    refine st_istore_n (L' := [_, _, _]) dX3_readPerson_17 (by decide) rfl rfl ?_
    refine st_aload_n dX3_readPerson_18 rfl ?_
    refine st_getfr dX3_readPerson_19 f_X3_15 (by first | with_reducible assumption | rfl) (by rfl) ?_
    refine st_aload_n dX3_readPerson_22 rfl ?_
    refine st_getfr dX3_readPerson_23 f_X3_15 (by first | with_reducible assumption | rfl) (by rfl) ?_
    refine st_getfi dX3_readPerson_26 f_X3_106 (by first | with_reducible assumption | rfl) (by rfl) ?_
    refine st_aload_n dX3_readPerson_29 rfl ?_
    refine st_getfr dX3_readPerson_30 f_X3_15 (by first | with_reducible assumption | rfl) (by rfl) ?_
    refine st_getfi dX3_readPerson_33 f_X3_72 (by first | with_reducible assumption | rfl) (by rfl) ?_
    rw [e10, hq]
    refine st_iload_n dX3_readPerson_36 rfl ?_
    refine c_S3p (d' := d - 1) dX3_readPerson_37 l_X3_109 k_X10_withRoom s_X10_withRoom (by omega) (Nat.le_of_ble_eq_true rfl) (C_withRoom r12.1 (by omega) (by omega)) ?_
    refine st_putfi dX3_readPerson_40 w_X3_106 (by first | with_reducible assumption | rfl) (by rfl) rfl rfl ?_
    refine st_iconst dX3_readPerson_43 ?_
    refine st_istore_n (L' := [_, _, _]) dX3_readPerson_44 (by decide) rfl rfl ?_
    refine AW.to (AW.mono (fun v S' M' N' hx => ?_) (err hs 0 (q_up M2 10 13 (w4 (M 10 13) q 0)) F 0 (by omega) (hT2.exc (Exc.up (L := [10]) (by simp)) (by simp)) ((hE2.hz (by simp)).tr (Exh.up (by simp) (by omega))) (by simp [q_up, e10, hh]) (by simp [q_up, e10, hq])))
    obtain ⟨s1, s2, s3, s4, s5⟩ := hx
    exact ⟨s1, s2, s3, Or.inr ⟨F, rfl, s4, s5⟩⟩


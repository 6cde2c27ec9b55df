/-! the system's beats by a rule: clauses -/
def isRu (o : Nat) : Prop := o = 47 ∨ o = 53 ∨ o = 59 ∨ o = 65 ∨ o = 71 ∨ o = 77
theorem sh_ru {o : Nat} (h : isRu o) : S0[o]? = some (5, 7, [.ref (o + 1), .int 0, .ref (o + 2), .ref (o + 3), .ref (o + 4), .ref (o + 5), .int 0]) := by
  rcases h with rfl | rfl | rfl | rfl | rfl | rfl <;> rfl
theorem sh_ru1 {o : Nat} (h : isRu o) : S0[o + 1]? = some (20, 400, []) := by
  rcases h with rfl | rfl | rfl | rfl | rfl | rfl <;> rfl
theorem sh_ruk {o k : Nat} (h : isRu o) (hk : 2 ≤ k ∧ k ≤ 5) : S0[o + k]? = some (20, 12, []) := by
  have : k = 2 ∨ k = 3 ∨ k = 4 ∨ k = 5 := by omega
  rcases this with rfl | rfl | rfl | rfl <;> rcases h with rfl | rfl | rfl | rfl | rfl | rfl <;> rfl
/-- a rule that can be gone by -/
def RuC (B : q_Mem) (o : Nat) : Prop := (0 ≤ B o 6 ∧ B o 6 ≤ 12) ∧ ∀ c, c < (B o 6).toNat → (B (o + 2) c = 0 ∨ B (o + 2) c = 1) ∧ ∃ s t e : Nat, B (o + 3) c = s ∧ B (o + 4) c = t ∧ B (o + 5) c = e ∧ s ≤ t ∧ t ≤ e ∧ e ≤ 300 ∧ tyN (B (o + 1)) s (t - s) [] = some [false] ∧ (t = e ∨ tyN (B (o + 1)) t (e - t) [] = some [true])
def holdsB (B : q_Mem) (o : Nat) (w : Nat → Int64) (c : Nat) : Bool := decide (B (o + 4) c = B (o + 5) c ∨ evN w (B (o + 1)) (B (o + 4) c).toNat ((B (o + 5) c).toNat - (B (o + 4) c).toNat) [] = [1])
abbrev holdsC (B : q_Mem) (o : Nat) (w : Nat → Int64) (c : Nat) : Prop := holdsB B o w c = true
theorem holdsC_iff {B : q_Mem} {o : Nat} {w : Nat → Int64} {c : Nat} : holdsC B o w c ↔ (B (o + 4) c = B (o + 5) c ∨ evN w (B (o + 1)) (B (o + 4) c).toNat ((B (o + 5) c).toNat - (B (o + 4) c).toNat) [] = [1]) := by
  unfold holdsC holdsB
  rw [decide_eq_true_iff]
def sumV (B : q_Mem) (o : Nat) (w : Nat → Int64) (c : Nat) : Int64 := (evN w (B (o + 1)) (B (o + 3) c).toNat ((B (o + 4) c).toNat - (B (o + 3) c).toNat) []).headD 0
def firC (B : q_Mem) (o : Nat) (w : Nat → Int64) (k : Int) : Nat → Nat → Int
  | 0, _ => -1
  | m + 1, c => if B (o + 2) c = k ∧ holdsC B o w c then c else firC B o w k m (c + 1)
theorem firC_s {B : q_Mem} {o : Nat} {w : Nat → Int64} {k : Int} {m c : Nat} : firC B o w k (m + 1) c = if B (o + 2) c = k ∧ holdsC B o w c then (c : Int) else firC B o w k m (c + 1) := rfl
theorem firC_cs (B : q_Mem) (o : Nat) (w : Nat → Int64) (k : Int) : ∀ m c, firC B o w k m c = -1 ∨ ∃ q : Nat, firC B o w k m c = q ∧ c ≤ q ∧ q < c + m
  | 0, _ => Or.inl rfl
  | m + 1, c => by
    unfold firC
    by_cases h : B (o + 2) c = k ∧ holdsC B o w c
    · rw [if_pos h]
      exact Or.inr ⟨c, rfl, by omega, by omega⟩
    · rw [if_neg h]
      rcases firC_cs B o w k m (c + 1) with h | ⟨q, h, h1, h2⟩
      · exact Or.inl h
      · exact Or.inr ⟨q, h, by omega, by omega⟩
theorem EvX.tr {M M1 M2 : q_Mem} {N N1 N2 : q_MemL} (h : EvX M N M1 N1) (h2 : EvX M1 N1 M2 N2) : EvX M N M2 N2 := ⟨h.1.tr h2.1, fun j hj => (h2.2.1 j hj).trans (h.2.1 j hj), fun a ha => (h2.2.2 a ha).trans (h.2.2 a ha)⟩
def ruRow (B M : q_Mem) (o : Nat) : Prop := ∀ a, o ≤ a → a < o + 6 → M a = B a
theorem EvX.ru {B M M1 : q_Mem} {N N1 : q_MemL} {o : Nat} (h : EvX M N M1 N1) (ho : isRu o) (hr : ruRow B M o) : ruRow B M1 o := fun a a1 a2 => by
  rw [h.1 a (by unfold isRu at ho; simp; omega)]
  exact hr a a1 a2
theorem C_sumOf {G : q_G} {d : Nat} {B M : q_Mem} {N : q_MemL} {o c : Nat} {w : Nat → Int64} (hd : 3 ≤ d) (ho : isRu o) (hr : ruRow B M o) (hC : RuC B o) (hc : c < (B o 6).toNat) (hw : ∀ j, j < 11 → N 89 j = w j) : AC0 G d m_X6_sumOf [.ref 86, .ref o, I c] M N (CV (fun x M' N' => x = .long (sumV B o w c) ∧ EvX M N M' N')) := by
  obtain ⟨h6, hC⟩ := hC
  obtain ⟨hk, s, t, e, es, et, ee, hst, hte, he, hty, -⟩ := hC c hc
  have hsh := sh_ru ho
  have e1 : M (o + 1) = B (o + 1) := hr _ (by omega) (by omega)
  have e3 : M (o + 3) = B (o + 3) := hr _ (by omega) (by omega)
  have e4 : M (o + 4) = B (o + 4) := hr _ (by omega) (by omega)
  refine AC.of (L0 := [_, _, _]) pn_X6 (Nat.le_of_ble_eq_true rfl) rfl ?_
  refine st_aload_n dX6_sumOf_0 rfl ?_
  refine st_aload_n dX6_sumOf_1 rfl ?_
  refine st_aload_n dX6_sumOf_2 rfl ?_
  refine st_getfr dX6_sumOf_3 f_X6_156 (by first | with_reducible assumption | rfl) (by rfl) ?_
  refine st_iload_n dX6_sumOf_6 rfl ?_
  refine c_S2p (d' := d - 1) dX6_sumOf_7 l_X6_58 k_X10_cell s_X10_cell (by omega) (Nat.le_of_ble_eq_true rfl) (C_cellI (sh_ruk ho (by decide)) (by decide) (by omega)) ?_
  rw [Int.toNat_natCast, e3, es]
  refine st_aload_n dX6_sumOf_10 rfl ?_
  refine st_getfr dX6_sumOf_11 f_X6_146 (by first | with_reducible assumption | rfl) (by rfl) ?_
  refine st_iload_n dX6_sumOf_14 rfl ?_
  refine c_S2p (d' := d - 1) dX6_sumOf_15 l_X6_58 k_X10_cell s_X10_cell (by omega) (Nat.le_of_ble_eq_true rfl) (C_cellI (sh_ruk ho (by decide)) (by decide) (by omega)) ?_
  rw [Int.toNat_natCast, e4, et, show (t : Int) = ((s + (t - s) : Nat) : Int) by omega]
  refine c_V3i (d' := d - 1) dX6_sumOf_18 l_X6_152 k_X6_valueOf i_X6_valueOf (Or.inl ⟨_, _, _, _, _, (by first | with_reducible assumption | rfl), by rfl⟩) (by omega) (Nat.le_of_ble_eq_true rfl) (C_valueOf (t := false) (w := w) (by omega) ⟨_, hsh⟩ (sh_ru1 ho) (by unfold isRu at ho; omega) (by omega) hw (by rw [e1]; exact hty)) (fun x M2 N2 hx => ?_)
  obtain ⟨y, hy, -, rfl, hE⟩ := hx
  refine r_l dX6_sumOf_21 rfl ⟨?_, hE⟩
  unfold sumV
  rw [e1] at hy
  rw [es, et, Int.toNat_natCast, Int.toNat_natCast, hy]
  rfl
theorem C_holds {G : q_G} {d : Nat} {B M : q_Mem} {N : q_MemL} {o c : Nat} {w : Nat → Int64} (hd : 3 ≤ d) (ho : isRu o) (hr : ruRow B M o) (hC : RuC B o) (hc : c < (B o 6).toNat) (hw : ∀ j, j < 11 → N 89 j = w j) : AC0 G d m_X6_holds [.ref 86, .ref o, I c] M N (CV (fun x M' N' => x = Bz (holdsC B o w c) ∧ EvX M N M' N')) := by
  obtain ⟨h6, hC⟩ := hC
  obtain ⟨hk, s, t, e, es, et, ee, hst, hte, he, -, hty⟩ := hC c hc
  have hsh := sh_ru ho
  have e1 : M (o + 1) = B (o + 1) := hr _ (by omega) (by omega)
  have e5 : M (o + 5) = B (o + 5) := hr _ (by omega) (by omega)
  have e4 : M (o + 4) = B (o + 4) := hr _ (by omega) (by omega)
  refine AC.of (L0 := [_, _, _, none, none]) pn_X6 (Nat.le_of_ble_eq_true rfl) rfl ?_
  refine st_aload_n dX6_holds_0 rfl ?_
  refine st_getfr dX6_holds_1 f_X6_146 (by first | with_reducible assumption | rfl) (by rfl) ?_
  refine st_iload_n dX6_holds_4 rfl ?_
  refine c_S2p (d' := d - 1) dX6_holds_5 l_X6_58 k_X10_cell s_X10_cell (by omega) (Nat.le_of_ble_eq_true rfl) (C_cellI (sh_ruk ho (by decide)) (by decide) (by omega)) ?_
  rw [Int.toNat_natCast, e4, et]
  refine st_istore_n (L' := [_, _, _, _, _]) dX6_holds_8 (by decide) rfl rfl ?_
  refine st_aload_n dX6_holds_9 rfl ?_
  refine st_getfr dX6_holds_10 f_X6_149 (by first | with_reducible assumption | rfl) (by rfl) ?_
  refine st_iload_n dX6_holds_13 rfl ?_
  refine c_S2p (d' := d - 1) dX6_holds_14 l_X6_58 k_X10_cell s_X10_cell (by omega) (Nat.le_of_ble_eq_true rfl) (C_cellI (sh_ruk ho (by decide)) (by decide) (by omega)) ?_
  rw [Int.toNat_natCast, e5, ee]
  refine st_istore (L' := [_, _, _, _, _]) dX6_holds_17 (by decide) rfl rfl ?_
  refine st_iload_n dX6_holds_19 rfl ?_
  refine st_iload dX6_holds_20 rfl ?_
  refine st_icmp_eq (tgt := 38) dX6_holds_22 (by omega) (by omega) rfl (fun h => ?_) (fun h => ?_)
  · refine st_iconst dX6_holds_38 ?_
    refine st_goto (tgt := 43) dX6_holds_39 rfl ?_
    refine r_z dX6_holds_43 rfl (by first | omega | (split <;> decide)) ⟨bz1 ?_, EvX.rf⟩
    exact holdsC_iff.2 (Or.inl (by omega))
  · refine st_aload_n dX6_holds_25 rfl ?_
    refine st_aload_n dX6_holds_26 rfl ?_
    refine st_iload_n dX6_holds_27 rfl ?_
    refine st_iload dX6_holds_28 rfl ?_
    rw [show (e : Int) = ((t + (e - t) : Nat) : Int) by omega]
    refine c_V3i (d' := d - 1) dX6_holds_30 l_X6_152 k_X6_valueOf i_X6_valueOf (Or.inl ⟨_, _, _, _, _, (by first | with_reducible assumption | rfl), by rfl⟩) (by omega) (Nat.le_of_ble_eq_true rfl) (C_valueOf (t := true) (w := w) (by omega) ⟨_, hsh⟩ (sh_ru1 ho) (by unfold isRu at ho; omega) (by omega) hw (by rw [e1]; exact hty.resolve_left (by omega))) (fun x M2 N2 hx => ?_)
    obtain ⟨y, hy, hv, rfl, hE⟩ := hx
    rw [e1] at hy
    have hy2 : holdsC B o w c ↔ y = 1 := by
      rw [holdsC_iff]
      rw [et, ee, Int.toNat_natCast, Int.toNat_natCast, hy]
      constructor
      · rintro (z | z)
        · omega
        · exact (List.cons.inj z).1
      · rintro rfl
        exact Or.inr rfl
    have hcr := cmpL_rng y 0
    refine st_lc0K dX6_holds_33 ?_
    refine AW.topv (show _ = Value.long 0 from rfl) ?_
    refine st_lcmpL dX6_holds_34 ?_
    refine st_if_eq (tgt := 42) dX6_holds_35 (by omega) rfl (fun h2 => ?_) (fun h2 => ?_)
    · refine st_iconst dX6_holds_42 ?_
      refine r_z dX6_holds_43 rfl (by first | omega | (split <;> decide)) ⟨bz0 (fun z => ?_), hE⟩
      rw [hy2.1 z] at h2
      exact absurd h2 (by decide)
    · refine st_iconst dX6_holds_38 ?_
      refine st_goto (tgt := 43) dX6_holds_39 rfl ?_
      refine r_z dX6_holds_43 rfl (by first | omega | (split <;> decide)) ⟨bz1 ?_, hE⟩
      rcases hv.1 rfl with rfl | rfl
      · exact absurd (cmpL_rf 0) h2
      · exact hy2.2 rfl
theorem C_firstClause {G : q_G} {d : Nat} {B M : q_Mem} {N : q_MemL} {o : Nat} {k : Int} {w : Nat → Int64} (hd : 4 ≤ d) (ho : isRu o) (hr : ruRow B M o) (hC : RuC B o) (hk : k = 0 ∨ k = 1) (hw : ∀ j, j < 11 → N 89 j = w j) : AC0 G d m_X6_firstClause [.ref 86, .ref o, I k] M N (CV (fun x M' N' => x = I (firC B o w k (B o 6).toNat 0) ∧ EvX M N M' N')) := by
  have hC0 := hC
  obtain ⟨h6, hC⟩ := hC
  have hsh := sh_ru ho
  refine AC.of (L0 := [_, _, _, none]) pn_X6 (Nat.le_of_ble_eq_true rfl) rfl ?_
  refine st_iconst dX6_firstClause_0 ?_
  refine st_istore_n (L' := [_, _, _, _]) dX6_firstClause_1 (by decide) rfl rfl ?_
  have loop : ∀ (m c : Nat) (M1 : q_Mem) (N1 : q_MemL), c + m = (B o 6).toNat → EvX M N M1 N1 → firC B o w k m c = firC B o w k (B o 6).toNat 0 → AW0 G d m_X6_firstClause 2 [some (.ref 86), some (.ref o), some (I k), some (I c)] [] M1 N1 (CV (fun x M' N' => x = I (firC B o w k (B o 6).toNat 0) ∧ EvX M N M' N')) := by
    intro m
    induction m with
    | zero =>
      intro c M1 N1 hc hE hf
      have e0 : M1 o = B o := hE.ru ho hr _ (by omega) (by omega)
      refine st_iload_n dX6_firstClause_2 rfl ?_
      refine st_aload_n dX6_firstClause_3 rfl ?_
      refine st_getfi dX6_firstClause_4 f_X6_136 (by first | with_reducible assumption | rfl) (by rfl) ?_
      rw [e0]
      refine st_icmp_ge (tgt := 39) dX6_firstClause_7 (by omega) (by omega) rfl (fun h => ?_) (fun h => ?_)
      · refine st_iconst dX6_firstClause_39 ?_
        refine r_i dX6_firstClause_40 rfl ⟨by rw [← hf]; rfl, hE⟩
      · skip
        omega
    | succ m ih =>
      intro c M1 N1 hc hE hf
      have hr1 := hE.ru ho hr
      have e0 : M1 o = B o := hr1 _ (by omega) (by omega)
      have e2 : M1 (o + 2) = B (o + 2) := hr1 _ (by omega) (by omega)
      have hkc := (hC c (by omega)).1
      rw [firC_s] at hf
      refine st_iload_n dX6_firstClause_2 rfl ?_
      refine st_aload_n dX6_firstClause_3 rfl ?_
      refine st_getfi dX6_firstClause_4 f_X6_136 (by first | with_reducible assumption | rfl) (by rfl) ?_
      rw [e0]
      refine st_icmp_ge (tgt := 39) dX6_firstClause_7 (by omega) (by omega) rfl (fun h => ?_) (fun h => ?_)
      · skip
        omega
      · refine st_aload_n dX6_firstClause_10 rfl ?_
        refine st_getfr dX6_firstClause_11 f_X6_139 (by first | with_reducible assumption | rfl) (by rfl) ?_
        refine st_iload_n dX6_firstClause_14 rfl ?_
        refine c_S2p (d' := d - 1) dX6_firstClause_15 l_X6_58 k_X10_cell s_X10_cell (by omega) (Nat.le_of_ble_eq_true rfl) (C_cellI (sh_ruk ho (by decide)) (by decide) (by omega)) ?_
        rw [Int.toNat_natCast, e2]
        refine st_iload_n dX6_firstClause_18 rfl ?_
        refine st_icmp_ne (tgt := 33) dX6_firstClause_19 (by omega) (by omega) rfl (fun h2 => ?_) (fun h2 => ?_)
        · refine st_iinc (L' := [_, _, _, _]) dX6_firstClause_33 rfl (by decide) rfl rfl ?_
          refine st_goto (tgt := 2) dX6_firstClause_36 rfl ?_
          rw [if_neg (fun z => h2 z.1)] at hf
          exact AW.to (ih (c + 1) M1 N1 (by omega) hE hf) (h2 := by simp)
        · refine st_aload_n dX6_firstClause_22 rfl ?_
          refine st_aload_n dX6_firstClause_23 rfl ?_
          refine st_iload_n dX6_firstClause_24 rfl ?_
          refine c_V2i (d' := d - 1) dX6_firstClause_25 l_X6_142 k_X6_holds i_X6_holds (Or.inl ⟨_, _, _, _, _, (by first | with_reducible assumption | rfl), by rfl⟩) (by omega) (Nat.le_of_ble_eq_true rfl) (C_holds (w := w) (by omega) ho hr1 hC0 (by omega) (fun j hj => by rw [hE.2.2 89 (by decide)]; exact hw j hj)) (fun x M2 N2 hx => ?_)
          obtain ⟨rfl, hE2⟩ := hx
          refine b_eq (tgt := 33) dX6_firstClause_28 rfl (fun h3 => ?_) (fun h3 => ?_)
          · refine st_iinc (L' := [_, _, _, _]) dX6_firstClause_33 rfl (by decide) rfl rfl ?_
            refine st_goto (tgt := 2) dX6_firstClause_36 rfl ?_
            rw [if_neg (fun z => h3 z.2)] at hf
            exact AW.to (ih (c + 1) M2 N2 (by omega) (hE.tr hE2) hf) (h2 := by simp)
          · refine st_iload_n dX6_firstClause_31 rfl ?_
            rw [if_pos ⟨by omega, h3⟩] at hf
            refine r_i dX6_firstClause_32 rfl ⟨by rw [← hf], hE.tr hE2⟩
  refine AW.to (loop (B o 6).toNat 0 M N (by omega) EvX.rf rfl) (h2 := rfl)


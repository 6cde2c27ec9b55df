/-! the reference: the search for an order -/
theorem C_laysOrder {G : q_G} {d : Nat} {B M1 M : q_Mem} {N : q_MemL} {q : Nat → Nat} (hd : 4 ≤ d) (hN : RN B M1) (htl : B 3 0 = 1) (hi : 2 ≤ B 3 3 → 1 ≤ B 4 1) (hS : FiS B M1 M) (hq : prmQ (B 3 4).toNat (B 3 4).toNat q) (ho : ∀ j, j < (B 3 4).toNat → M 160 j = (q j : Nat)) (hr : -1 ≤ M 112 73 ∧ M 112 73 ≤ 100) : AC0 G d m_X11_laysOrder [.ref 112] M N (CN (fun M' N' => N' = N ∧ FiS B M1 M' ∧ M' 160 = M 160 ∧ ∃ t : Nat, t ≤ (B 3 4).toNat ∧ allD B (sitQ B q t) ∧ (∀ t', t' < t → ¬ allD B (sitQ B q t')) ∧ ((M 112 73 = -1 ∨ (t : Int) < M 112 73) → M' 112 73 = (t : Nat) ∧ ∀ j, j < (B 3 4).toNat → M' 161 j = (q j : Nat)) ∧ (¬ (M 112 73 = -1 ∨ (t : Int) < M 112 73) → M' 112 73 = M 112 73 ∧ M' 161 = M 161))) := by
  obtain ⟨h0, h1, h2, h3, h4, h5, -⟩ := id hN.1
  refine AC.of (L0 := [_, none, none]) pn_X11 (Nat.le_of_ble_eq_true rfl) rfl ?_
  refine st_aload_n dX11_laysOrder_0 rfl ?_
  refine c_V0i (d' := d - 1) dX11_laysOrder_1 l_X11_599 k_X11_beatsBy i_X11_beatsBy (Or.inl ⟨_, _, _, _, _, (by first | with_reducible assumption | rfl), by rfl⟩) (by omega) (Nat.le_of_ble_eq_true rfl) (C_beatsBy (by omega) hN htl hi hS hq ho) (fun v M2 N2 hx => ?_)
  obtain ⟨rfl, hE, hj, t, rfl, t1, t2, t3⟩ := hx
  obtain ⟨s1, s2, s3, s4, s5, s6⟩ := hS
  have e112 : M2 112 = M 112 := hE 112 (by decide)
  have hS2 : FiS B M1 M2 := ⟨s1.tr (hE.sub (by decide)), fun j j73 => by rw [e112]; exact s2 j j73, fun j j6 => by rw [hj j j6]; exact s3 j j6, fun j hj7 => by rw [hE 162 (by decide)]; exact s4 j hj7, fun j hj3 => by rw [hE 163 (by decide)]; exact s5 j hj3, s6⟩
  have e160 : M2 160 = M 160 := hE 160 (by decide)
  have e161 : M2 161 = M 161 := hE 161 (by decide)
  -- with a better one
  have up : (M 112 73 = -1 ∨ (t : Int) < M 112 73) → AW0 G d m_X11_laysOrder 21 [some (.ref 112), some (I t), none] [] M2 N2 (CN (fun M' N' => N' = N2 ∧ FiS B M1 M' ∧ M' 160 = M 160 ∧ ∃ t : Nat, t ≤ (B 3 4).toNat ∧ allD B (sitQ B q t) ∧ (∀ t', t' < t → ¬ allD B (sitQ B q t')) ∧ ((M 112 73 = -1 ∨ (t : Int) < M 112 73) → M' 112 73 = (t : Nat) ∧ ∀ j, j < (B 3 4).toNat → M' 161 j = (q j : Nat)) ∧ (¬ (M 112 73 = -1 ∨ (t : Int) < M 112 73) → M' 112 73 = M 112 73 ∧ M' 161 = M 161))) := by
    intro hbt
    refine st_aload_n dX11_laysOrder_21 rfl ?_
    refine st_iload_n dX11_laysOrder_22 rfl ?_
    refine st_putfi dX11_laysOrder_23 w_X11_593 (by first | with_reducible assumption | rfl) (by rfl) rfl rfl ?_
    refine st_iconst dX11_laysOrder_26 ?_
    refine st_istore_n (L' := [_, _, _]) dX11_laysOrder_27 (by decide) rfl rfl ?_
    have loop : ∀ (p k : Nat) (M3 : q_Mem), k + p = 7 → Exc [161] (q_up M2 112 73 t) M3 → (∀ j, j < k → M3 161 j = M2 160 j) → AW0 G d m_X11_laysOrder 28 [some (.ref 112), some (I t), some (I k)] [] M3 N2 (CN (fun M' N' => N' = N2 ∧ FiS B M1 M' ∧ M' 160 = M 160 ∧ ∃ t : Nat, t ≤ (B 3 4).toNat ∧ allD B (sitQ B q t) ∧ (∀ t', t' < t → ¬ allD B (sitQ B q t')) ∧ ((M 112 73 = -1 ∨ (t : Int) < M 112 73) → M' 112 73 = (t : Nat) ∧ ∀ j, j < (B 3 4).toNat → M' 161 j = (q j : Nat)) ∧ (¬ (M 112 73 = -1 ∨ (t : Int) < M 112 73) → M' 112 73 = M 112 73 ∧ M' 161 = M 161))) := by
      intro p
      induction p with
      | zero =>
        intro k M3 hk hE3 hc
        refine st_iload_n dX11_laysOrder_28 rfl ?_
        refine st_bipush dX11_laysOrder_29 (by decide) ?_
        refine st_icmp_ge (tgt := 52) dX11_laysOrder_31 (by omega) (by omega) rfl (fun h => ?_) (fun h => ?_)
        · skip
          have f112 : ∀ j, M3 112 j = q_up M2 112 73 t 112 j := fun j => by rw [hE3 112 (by decide)]
          have fr : ∀ a, ¬ a = 112 → ¬ a = 161 → M3 a = M2 a := fun a a1 a2 => by rw [hE3 a (by simpa using a2), q_up_ne a1]
          refine r_v dX11_laysOrder_52 rfl ⟨rfl, ⟨(hS2.1.tr (Exc.up (by decide))).tr (hE3.sub (by decide)), fun j j73 => by rw [f112, ← hS2.2.1 j j73]; simp [q_up, j73], fun j j6 => by rw [fr 113 (by decide) (by decide)]; exact hS2.2.2.1 j j6, fun j hj7 => by rw [fr 162 (by decide) (by decide)]; exact hS2.2.2.2.1 j hj7, fun j hj3 => by rw [fr 163 (by decide) (by decide)]; exact hS2.2.2.2.2.1 j hj3, s6⟩, by rw [fr 160 (by decide) (by decide)]; exact e160, t, t1, t2, t3, fun _ => ⟨by rw [f112]; simp [q_up], fun j hj2 => ?_⟩, fun z => absurd hbt z⟩
          rw [hc j (by omega), e160]
          exact ho j hj2
        · skip
          omega
      | succ p ih =>
        intro k M3 hk hE3 hc
        refine st_iload_n dX11_laysOrder_28 rfl ?_
        refine st_bipush dX11_laysOrder_29 (by decide) ?_
        refine st_icmp_ge (tgt := 52) dX11_laysOrder_31 (by omega) (by omega) rfl (fun h => ?_) (fun h => ?_)
        · skip
          omega
        · refine st_aload_n dX11_laysOrder_34 rfl ?_
          refine st_getfr dX11_laysOrder_35 f_X11_161 (by first | with_reducible assumption | rfl) (by rfl) ?_
          refine st_iload_n dX11_laysOrder_38 rfl ?_
          refine st_aload_n dX11_laysOrder_39 rfl ?_
          refine st_getfr dX11_laysOrder_40 f_X11_158 (by first | with_reducible assumption | rfl) (by rfl) ?_
          refine st_iload_n dX11_laysOrder_43 rfl ?_
          first | refine st_ialdK (k' := _) dX11_laysOrder_44 (by first | with_reducible assumption | rfl) rfl (by omega) (hn := by first | decide | omega) ?_ | refine st_iald dX11_laysOrder_44 (by first | with_reducible assumption | rfl) (by omega) (by omega) (hn := by first | decide | omega) ?_
          rw [hE3 160 (by decide), q_up_ne (by decide)]
          first | refine st_iastK (k' := _) dX11_laysOrder_45 (by first | with_reducible assumption | rfl) rfl (by omega) (hn := by first | decide | omega) ?_ | refine st_iast dX11_laysOrder_45 (by first | with_reducible assumption | rfl) (by omega) (by omega) (hn := by first | decide | omega) ?_
          refine st_iinc (L' := [_, _, _]) dX11_laysOrder_46 rfl (by decide) rfl rfl ?_
          refine st_goto (tgt := 28) dX11_laysOrder_49 rfl ?_
          refine AW.to (ih (k + 1) (q_up M3 161 k (M2 160 k)) (by omega) (hE3.tr (Exc.up (by decide))) (fun j hj2 => ?_)) (h2 := by simp)
          by_cases e : j = k
          · rw [e]; simp [q_up]
          · rw [← hc j (by omega)]; simp [q_up, e]
    exact AW.to (loop 7 0 _ (Nat.zero_add _) Exc.rf (fun j hj2 => absurd hj2 (by omega)))
  refine st_istore_n (L' := [_, _, _]) dX11_laysOrder_4 (by decide) rfl rfl ?_
  refine st_aload_n dX11_laysOrder_5 rfl ?_
  refine st_getfi dX11_laysOrder_6 f_X11_593 (by first | with_reducible assumption | rfl) (by rfl) ?_
  refine st_iconst dX11_laysOrder_9 ?_
  rw [e112]
  refine st_icmp_eq (tgt := 21) dX11_laysOrder_10 (by omega) (by omega) rfl (fun h8 => ?_) (fun h8 => ?_)
  · skip
    exact up (Or.inl h8)
  · refine st_iload_n dX11_laysOrder_13 rfl ?_
    refine st_aload_n dX11_laysOrder_14 rfl ?_
    refine st_getfi dX11_laysOrder_15 f_X11_593 (by first | with_reducible assumption | rfl) (by rfl) ?_
    rw [e112]
    refine st_icmp_ge (tgt := 52) dX11_laysOrder_18 (by omega) (by omega) rfl (fun h9 => ?_) (fun h9 => ?_)
    · skip
      have hnb : ¬ (M 112 73 = -1 ∨ (t : Int) < M 112 73) := by omega
      exact r_v dX11_laysOrder_52 rfl ⟨rfl, hS2, e160, t, t1, t2, t3, fun z => absurd z hnb, fun _ => ⟨by rw [e112], e161⟩⟩
    · skip
      exact up (Or.inr (by omega))
/-- found, or not yet -/
def fiFD (B M : q_Mem) : Prop := M 112 73 = (fK B : Nat) ∧ ∀ j, j < (B 3 4).toNat → M 161 j = (fT B j : Nat)
def fiNF (B M : q_Mem) : Prop := M 112 73 = -1 ∨ ((fK B : Nat) < M 112 73 ∧ M 112 73 ≤ 100)
/-- the answer lies behind what has been looked at -/
def ltT (B : q_Mem) (o : Nat → Nat) (l c : Nat) : Prop := (∃ j, j < l ∧ (∀ i, i < j → fT B i = o i) ∧ fT B j < o j) ∨ ((∀ i, i < l → fT B i = o i) ∧ fT B l < c)
theorem z_clr : ∀ s : Nat, s < 128 → ∀ p : Nat, p < 7 → s.testBit p = false → zi (orb s p) &&& ((zi 1 <<< (zi p &&& 31)) ^^^ zi (-1)) = zi s := by decide +kernel
def setC (o : Nat → Nat) (l c : Nat) : Int := if c = 0 then setQ o l else orb (setQ o l) (c - 1)
/-- at the head of the search, on a level, with so many candidates behind -/
def HdI (B M1 M : q_Mem) (l c : Nat) (o : Nat → Nat) : Prop := FiS B M1 M ∧ prmQ (B 3 4).toNat l o ∧ (∀ i, i < l → M 160 i = (o i : Nat)) ∧ M 160 l = (c : Int) - 1 ∧ (0 < c → ∀ i, i < l → ¬ o i = c - 1) ∧ (ltT B o l c → fiFD B M) ∧ (¬ ltT B o l c → fiNF B M)
/-- a level is through -/
def HdU (B M1 M : q_Mem) (l : Nat) (o : Nat → Nat) : Prop := FiS B M1 M ∧ (∀ i, i < l → M 160 i = (o i : Nat)) ∧ (((∃ j, j < l ∧ (∀ i, i < j → fT B i = o i) ∧ fT B j < o j) ∨ ∀ i, i < l → fT B i = o i) → fiFD B M) ∧ (¬ ((∃ j, j < l ∧ (∀ i, i < j → fT B i = o i) ∧ fT B j < o j) ∨ ∀ i, i < l → fT B i = o i) → fiNF B M)
theorem prmQ.congr {n m : Nat} {q q' : Nat → Nat} (h : prmQ n m q) (e : ∀ i, i < m → q i = q' i) : prmQ n m q' := fun i hi => by
  rw [← e i hi]
  exact ⟨(h i hi).1, fun i' hi' => by rw [← e i' (by omega)]; exact (h i hi).2 i' hi'⟩
theorem setQ_congr {q q' : Nat → Nat} : ∀ {t : Nat}, (∀ i, i < t → q i = q' i) → setQ q t = setQ q' t
  | 0, _ => rfl
  | t + 1, h => by
    show orb (setQ q t) (q t) = orb (setQ q' t) (q' t)
    rw [setQ_congr (fun i hi => h i (by omega)), h t (by omega)]
/-- one more at the end -/
def psh (o : Nat → Nat) (l v : Nat) : Nat → Nat := fun i => if i = l then v else o i
theorem psh_lt {o : Nat → Nat} {l v i : Nat} (h : i < l) : psh o l v i = o i := if_neg (by omega)
theorem psh_at {o : Nat → Nat} {l v : Nat} : psh o l v l = v := if_pos rfl
theorem psh_prm {n l v : Nat} {o : Nat → Nat} (h : prmQ n l o) (hv : v < n) (hn : ∀ i, i < l → ¬ o i = v) : prmQ n (l + 1) (psh o l v) := by
  intro i hi
  by_cases e : i = l
  · subst e
    rw [psh_at]
    exact ⟨hv, fun i' hi' => by rw [psh_lt hi']; exact hn i' hi'⟩
  · have hil : i < l := by omega
    rw [psh_lt hil]
    exact ⟨(h i hil).1, fun i' hi' => by rw [psh_lt (by omega)]; exact (h i hil).2 i' hi'⟩
theorem psh_set (o : Nat → Nat) (l v : Nat) : setQ (psh o l v) (l + 1) = orb (setQ o l) v := by
  show orb (setQ (psh o l v) l) (psh o l v l) = _
  rw [psh_at, setQ_congr (q' := o) (fun i hi => psh_lt hi)]
theorem lt_skip {B : q_Mem} {o : Nat → Nat} {l c v n : Nat} (hT : prmQ n n (fT B)) (hl : l < n) (hcv : c ≤ v) (hu : ∀ u, c ≤ u → u < v → ∃ i, i < l ∧ o i = u) : ltT B o l c ↔ ltT B o l v := by
  unfold ltT
  constructor
  · rintro (h | ⟨h1, h2⟩)
    · exact Or.inl h
    · exact Or.inr ⟨h1, by omega⟩
  · rintro (h | ⟨h1, h2⟩)
    · exact Or.inl h
    · refine Or.inr ⟨h1, ?_⟩
      by_cases e : fT B l < c
      · exact e
      · exfalso
        obtain ⟨i, hi, e2⟩ := hu (fT B l) (by omega) h2
        exact (hT l hl).2 i hi (by rw [h1 i hi]; exact e2)
theorem lt_push {B : q_Mem} {o : Nat → Nat} {l v : Nat} : (∃ j, j < l + 1 ∧ (∀ i, i < j → fT B i = psh o l v i) ∧ fT B j < psh o l v j) ↔ ltT B o l v := by
  unfold ltT
  constructor
  · rintro ⟨j, hj, h1, h2⟩
    by_cases e : j = l
    · subst e
      rw [psh_at] at h2
      exact Or.inr ⟨fun i hi => by rw [h1 i hi, psh_lt hi], h2⟩
    · have hjl : j < l := by omega
      rw [psh_lt hjl] at h2
      exact Or.inl ⟨j, hjl, fun i hi => by rw [h1 i hi, psh_lt (by omega)], h2⟩
  · rintro (⟨j, hj, h1, h2⟩ | ⟨h1, h2⟩)
    · exact ⟨j, by omega, fun i hi => by rw [h1 i hi, psh_lt (by omega)], by rw [psh_lt hj]; exact h2⟩
    · exact ⟨l, by omega, fun i hi => by rw [h1 i hi, psh_lt hi], by rw [psh_at]; exact h2⟩
theorem lt_pushU {B : q_Mem} {o : Nat → Nat} {l v : Nat} : ((∃ j, j < l + 1 ∧ (∀ i, i < j → fT B i = psh o l v i) ∧ fT B j < psh o l v j) ∨ ∀ i, i < l + 1 → fT B i = psh o l v i) ↔ ltT B o l (v + 1) := by
  rw [lt_push]
  unfold ltT
  constructor
  · rintro ((h | ⟨h1, h2⟩) | h)
    · exact Or.inl h
    · exact Or.inr ⟨h1, by omega⟩
    · refine Or.inr ⟨fun i hi => by rw [h i (by omega), psh_lt hi], ?_⟩
      have := h l (by omega)
      rw [psh_at] at this
      omega
  · rintro (h | ⟨h1, h2⟩)
    · exact Or.inl (Or.inl h)
    · by_cases e : fT B l < v
      · exact Or.inl (Or.inr ⟨h1, e⟩)
      · refine Or.inr (fun i hi => ?_)
        by_cases e2 : i = l
        · rw [e2, psh_at]; omega
        · rw [psh_lt (by omega)]
          exact h1 i (by omega)
theorem fst_diff {a b : Nat → Nat} : ∀ {l : Nat}, ¬ (∀ i, i < l → a i = b i) → ∃ j, j < l ∧ (∀ i, i < j → a i = b i) ∧ ¬ a j = b j
  | 0, h => absurd (fun i hi => absurd hi (by omega)) h
  | l + 1, h => by
    by_cases c : ∀ i, i < l → a i = b i
    · refine ⟨l, by omega, c, fun e => h (fun i hi => ?_)⟩
      by_cases e2 : i = l
      · rw [e2]; exact e
      · exact c i (by omega)
    · obtain ⟨j, j1, j2, j3⟩ := fst_diff c
      exact ⟨j, by omega, j2, j3⟩
theorem sitQ_congr {B : q_Mem} {q q' : Nat → Nat} : ∀ {t : Nat}, (∀ i, i < t → q i = q' i) → sitQ B q t = sitQ B q' t
  | 0, _ => rfl
  | t + 1, h => by
    unfold sitQ
    rw [sitQ_congr (fun i hi => h i (by omega)), setQ_congr h]
theorem C_findsFire {G : q_G} {d : Nat} {B M : q_Mem} {N : q_MemL} (hd : 5 ≤ d) (hN : RN B M) (htl : B 3 0 = 1) (hi : 2 ≤ B 3 3 → 1 ≤ B 4 1) (hnp : 0 < B 3 4) : AC0 G d m_X11_findsFire [.ref 112] M N (CN (fun M' N' => N' = N ∧ Qk M M' ∧ M' 112 73 = (fK B : Nat) ∧ ∀ j, j < (B 3 4).toNat → M' 161 j = (fT B j : Nat))) := by
  obtain ⟨hB, -, -, -, -⟩ := id hN
  obtain ⟨h0, h1, h2, h3, h4, h5, h6, h11, -⟩ := id hB
  have hT := fire_T hB hi
  have hf := fire_f hB hi
  refine AC.of (L0 := [_, none, none, none]) pn_X11 (Nat.le_of_ble_eq_true rfl) rfl ?_
  refine st_aload_n dX11_findsFire_0 rfl ?_
  refine c_V0v (d' := d - 1) dX11_findsFire_1 l_X11_485 k_X11_keepsAll i_X11_keepsAll (Or.inl ⟨_, _, _, _, _, (by first | with_reducible assumption | rfl), by rfl⟩) (by omega) (Nat.le_of_ble_eq_true rfl) (C_keepsAll (by omega)) (fun Ma Na hx => ?_)
  obtain ⟨rfl, hF⟩ := hx
  have hNa := hN.exc hF.1 (by decide)
  refine st_aload_n dX11_findsFire_4 rfl ?_
  refine st_getfr dX11_findsFire_5 f_X11_19 (by first | with_reducible assumption | rfl) (by rfl) ?_
  refine st_aload_n dX11_findsFire_8 rfl ?_
  refine st_getfr dX11_findsFire_9 f_X11_164 (by first | with_reducible assumption | rfl) (by rfl) ?_
  refine c_S2v (d' := d - 1) dX11_findsFire_12 l_X11_353 k_X11_copies s_X11_copies (by omega) (Nat.le_of_ble_eq_true rfl) (C_copies sh_116 sh_162 (by decide) (by decide) (by decide)) (fun Mb Nb hxb => ?_)
  obtain ⟨rfl, rb⟩ := hxb
  refine st_aload_n dX11_findsFire_15 rfl ?_
  refine st_getfr dX11_findsFire_16 f_X11_31 (by first | with_reducible assumption | rfl) (by rfl) ?_
  refine st_aload_n dX11_findsFire_19 rfl ?_
  refine st_getfr dX11_findsFire_20 f_X11_167 (by first | with_reducible assumption | rfl) (by rfl) ?_
  refine c_S2v (d' := d - 1) dX11_findsFire_23 l_X11_353 k_X11_copies s_X11_copies (by omega) (Nat.le_of_ble_eq_true rfl) (C_copies sh_120 sh_163 (by decide) (by decide) (by decide)) (fun Mc Nc hxc => ?_)
  obtain ⟨rfl, rc⟩ := hxc
  have hEc : Exc [162, 163] Ma Mc := by
    rw [rc, rb]
    intro a ha
    simp only [List.mem_cons, List.not_mem_nil, or_false, not_or] at ha
    funext j
    simp [q_cp, ha]
  have c162 : ∀ j, j < 7 → Mc 162 j = Ma 116 j := fun j hj => by rw [rc, rb]; simp [q_cp, hj]
  have c163 : ∀ j, j < 3 → Mc 163 j = Ma 120 j := fun j hj => by rw [rc, rb]; simp [q_cp, hj]
  have hNc := hNa.exc hEc (by decide)
  refine st_aload_n dX11_findsFire_26 rfl ?_
  refine st_aload_n dX11_findsFire_27 rfl ?_
  refine st_getfr dX11_findsFire_28 f_X11_9 (by first | with_reducible assumption | rfl) (by rfl) ?_
  refine st_bipush dX11_findsFire_31 (by decide) ?_
  refine st_ialdK (k' := 6) dX11_findsFire_33 (by first | with_reducible assumption | rfl) rfl (by omega) (hn := by first | decide | omega) ?_
  rw [hNc.2.2.2.2]
  refine st_putfi dX11_findsFire_34 w_X11_587 (by first | with_reducible assumption | rfl) (by rfl) rfl rfl ?_
  -- the base of the search
  have hE1 : Exc [112, 162, 163] Ma (q_up Mc 112 76 (B 3 11)) := (hEc.sub (by decide)).tr (Exc.up (by decide))
  have hN1 : RN B (q_up Mc 112 76 (B 3 11)) := hNc.exc (X := [112]) (Exc.up (by decide)) (by decide)
  have k112 : ∀ j, ¬ j = 76 → q_up Mc 112 76 (B 3 11) 112 j = Ma 112 j := fun j hj => by rw [← hEc 112 (by decide)]; simp [q_up, hj]
  have k162 : ∀ j, j < 7 → q_up Mc 112 76 (B 3 11) 162 j = q_up Mc 112 76 (B 3 11) 116 j := fun j hj => by rw [q_up_ne (by decide), q_up_ne (by decide), c162 j hj, hEc 116 (by decide)]
  have k163 : ∀ j, j < 3 → q_up Mc 112 76 (B 3 11) 163 j = q_up Mc 112 76 (B 3 11) 120 j := fun j hj => by rw [q_up_ne (by decide), q_up_ne (by decide), c163 j hj, hEc 120 (by decide)]
  have k76 : q_up Mc 112 76 (B 3 11) 112 76 = B 3 11 := by simp [q_up]
  generalize q_up Mc 112 76 (B 3 11) = M1 at *
  refine st_aload_n dX11_findsFire_37 rfl ?_
  refine st_iconst dX11_findsFire_38 ?_
  refine st_putfi dX11_findsFire_39 w_X11_593 (by first | with_reducible assumption | rfl) (by rfl) rfl rfl ?_
  refine st_aload_n dX11_findsFire_42 rfl ?_
  refine st_getfr dX11_findsFire_43 f_X11_9 (by first | with_reducible assumption | rfl) (by rfl) ?_
  refine st_iconst dX11_findsFire_46 ?_
  refine st_ialdK (k' := 3) dX11_findsFire_47 (by first | with_reducible assumption | rfl) rfl (by omega) (hn := by first | decide | omega) ?_
  have t3 : q_up M1 112 73 (-1) 113 3 = B 3 4 := by rw [q_up_ne (by decide)]; exact hN1.2.1.1.2.2.2.1
  rw [t3, show B 3 4 = (((B 3 4).toNat : Nat) : Int) by omega]
  refine st_istore_n (L' := [_, _, _, _]) dX11_findsFire_48 (by decide) rfl rfl ?_
  refine st_iconst dX11_findsFire_49 ?_
  refine st_istore_n (L' := [_, _, _, _]) dX11_findsFire_50 (by decide) rfl rfl ?_
  refine st_aload_n dX11_findsFire_51 rfl ?_
  refine st_getfr dX11_findsFire_52 f_X11_158 (by first | with_reducible assumption | rfl) (by rfl) ?_
  refine st_iconst dX11_findsFire_55 ?_
  refine st_iconst dX11_findsFire_56 ?_
  refine st_iastK (k' := 0) dX11_findsFire_57 (by first | with_reducible assumption | rfl) rfl (by omega) (hn := by first | decide | omega) ?_
  refine st_iconst dX11_findsFire_58 ?_
  refine st_istore_n (L' := [_, _, _, _]) dX11_findsFire_59 (by decide) rfl rfl ?_
  have hI0 : HdI B M1 (q_up (q_up M1 112 73 (-1)) 160 0 (-1)) 0 0 (fun _ => 0) := by
    refine ⟨⟨(Exc.up (by decide)).tr (Exc.up (by decide)), fun j j73 => by simp [q_up, j73], fun j _ => by simp [q_up], fun j hj => by rw [← k162 j hj]; simp [q_up], fun j hj => by rw [← k163 j hj]; simp [q_up], k76⟩, fun i hi => absurd hi (by omega), fun i hi => absurd hi (by omega), by simp [q_up], fun z => absurd z (by omega), fun z => ?_, fun _ => Or.inl (by simp [q_up])⟩
    rcases z with ⟨j, hj, -⟩ | ⟨-, z⟩
    · exact absurd hj (by omega)
    · exact absurd z (by omega)
  generalize q_up (q_up M1 112 73 (-1)) 160 0 (-1) = M2 at hI0
  have S : ∀ (r l : Nat), l + r + 1 = (B 3 4).toNat → ∀ (m c : Nat), c + m = (B 3 4).toNat → ∀ (o : Nat → Nat) (M3 : q_Mem), HdI B M1 M3 l c o → (∀ (M4 : q_Mem), HdU B M1 M4 l o → AW0 G d m_X11_findsFire 60 [some (.ref 112), some (I (B 3 4).toNat), some (I ((l : Int) - 1)), some (I (setQ o l))] [] M4 Nc (CN (fun M' N' => N' = Nc ∧ Qk M M' ∧ M' 112 73 = (fK B : Nat) ∧ ∀ j, j < (B 3 4).toNat → M' 161 j = (fT B j : Nat)))) →
      AW0 G d m_X11_findsFire 60 [some (.ref 112), some (I (B 3 4).toNat), some (I l), some (I (setC o l c))] [] M3 Nc (CN (fun M' N' => N' = Nc ∧ Qk M M' ∧ M' 112 73 = (fK B : Nat) ∧ ∀ j, j < (B 3 4).toNat → M' 161 j = (fT B j : Nat))) := by
    intro r
    induction r using Nat.strongRecOn with
    | _ r ihr =>
      intro l hl m
      induction m using Nat.strongRecOn with
      | _ m ihm =>
        intro c hc o M3 hI kk
        obtain ⟨i1, i2, i3, i4, i5, i6, i7⟩ := hI
        obtain ⟨s1, s2, s3, s4, s5, s6⟩ := id i1
        have hsr := setQ_rng (q := o) (n := (B 3 4).toNat) (by omega) l (fun i hi => (i2 i hi).1)
        -- from behind the taking out of the last candidate
        have af : AW0 G d m_X11_findsFire 95 [some (.ref 112), some (I (B 3 4).toNat), some (I l), some (I (setQ o l))] [] M3 Nc (CN (fun M' N' => N' = Nc ∧ Qk M M' ∧ M' 112 73 = (fK B : Nat) ∧ ∀ j, j < (B 3 4).toNat → M' 161 j = (fT B j : Nat))) := by
          refine st_aload_n dX11_findsFire_95 rfl ?_
          refine st_getfr dX11_findsFire_96 f_X11_158 (by first | with_reducible assumption | rfl) (by rfl) ?_
          refine st_iload_n dX11_findsFire_99 rfl ?_
          refine st_dup2 dX11_findsFire_100 rfl rfl ?_
          refine st_ialdK (k' := l) dX11_findsFire_101 sh_160 rfl (by omega) (hn := by decide) ?_
          rw [i4]
          refine st_iconst dX11_findsFire_102 ?_
          refine st_iadd dX11_findsFire_103 ?_
          rw [show (c : Int) - 1 + 1 = (c : Int) by omega]
          refine st_iastK (k' := l) dX11_findsFire_104 sh_160 rfl (by omega) (hn := by decide) ?_
          -- the next candidate
          have wl : ∀ (p v : Nat) (M4 : q_Mem), v + p = (B 3 4).toNat → c ≤ v → (∀ u, c ≤ u → u < v → ∃ i, i < l ∧ o i = u) → M4 = q_up M3 160 l (v : Int) → (∀ (v : Nat), c ≤ v → v ≤ (B 3 4).toNat → (∀ u, c ≤ u → u < v → ∃ i, i < l ∧ o i = u) → (v < (B 3 4).toNat → ∀ i, i < l → ¬ o i = v) → AW0 G d m_X11_findsFire 142 [some (.ref 112), some (I (B 3 4).toNat), some (I l), some (I (setQ o l))] [] (q_up M3 160 l (v : Int)) Nc (CN (fun M' N' => N' = Nc ∧ Qk M M' ∧ M' 112 73 = (fK B : Nat) ∧ ∀ j, j < (B 3 4).toNat → M' 161 j = (fT B j : Nat)))) →
              AW0 G d m_X11_findsFire 105 [some (.ref 112), some (I (B 3 4).toNat), some (I l), some (I (setQ o l))] [] M4 Nc (CN (fun M' N' => N' = Nc ∧ Qk M M' ∧ M' 112 73 = (fK B : Nat) ∧ ∀ j, j < (B 3 4).toNat → M' 161 j = (fT B j : Nat))) := by
            intro p
            induction p with
            | zero =>
              intro v M4 hv hcv hu e4 k2
              have ev : M4 160 l = (v : Int) := by rw [e4]; simp [q_up]
              refine st_aload_n dX11_findsFire_105 rfl ?_
              refine st_getfr dX11_findsFire_106 f_X11_158 (by first | with_reducible assumption | rfl) (by rfl) ?_
              refine st_iload_n dX11_findsFire_109 rfl ?_
              refine st_ialdK (k' := l) dX11_findsFire_110 sh_160 (by first | rfl | omega) (by omega) (hn := by decide) ?_
              rw [ev]
              refine st_iload_n dX11_findsFire_111 rfl ?_
              refine st_icmp_ge (tgt := 142) dX11_findsFire_112 (by omega) (by omega) rfl (fun h => ?_) (fun h => ?_)
              · skip
                rw [e4]
                exact k2 v hcv (by omega) hu (fun z => absurd z (by omega))
              · skip
                omega
            | succ p ihp =>
              intro v M4 hv hcv hu e4 k2
              have ev : M4 160 l = (v : Int) := by rw [e4]; simp [q_up]
              refine st_aload_n dX11_findsFire_105 rfl ?_
              refine st_getfr dX11_findsFire_106 f_X11_158 (by first | with_reducible assumption | rfl) (by rfl) ?_
              refine st_iload_n dX11_findsFire_109 rfl ?_
              refine st_ialdK (k' := l) dX11_findsFire_110 sh_160 (by first | rfl | omega) (by omega) (hn := by decide) ?_
              rw [ev]
              refine st_iload_n dX11_findsFire_111 rfl ?_
              refine st_icmp_ge (tgt := 142) dX11_findsFire_112 (by omega) (by omega) rfl (fun h => ?_) (fun h => ?_)
              · skip
                omega
              · refine st_iload_n dX11_findsFire_115 rfl ?_
                refine st_aload_n dX11_findsFire_116 rfl ?_
                refine st_getfr dX11_findsFire_117 f_X11_158 (by first | with_reducible assumption | rfl) (by rfl) ?_
                refine st_iload_n dX11_findsFire_120 rfl ?_
                refine st_ialdK (k' := l) dX11_findsFire_121 sh_160 (by first | rfl | omega) (by omega) (hn := by decide) ?_
                rw [ev]
                refine st_ishr dX11_findsFire_122 ?_; refine st_iconst dX11_findsFire_123 ?_; refine st_iand dX11_findsFire_124 ?_; refine AW.top (z_bit (by omega) (by omega)) ?_
                refine st_iconst dX11_findsFire_125 ?_
                have rb := bitI_rng (setQ o l) v
                refine st_icmp_ne (tgt := 142) dX11_findsFire_126 (by omega) (by omega) rfl (fun h2 => ?_) (fun h2 => ?_)
                · skip
                  rw [e4]
                  refine k2 v hcv (by omega) hu (fun _ i hi e => h2 ?_)
                  unfold bitI
                  rw [if_pos ((setQ_bit o l v).2 ⟨i, hi, e⟩)]
                · refine st_aload_n dX11_findsFire_129 rfl ?_
                  refine st_getfr dX11_findsFire_130 f_X11_158 (by first | with_reducible assumption | rfl) (by rfl) ?_
                  refine st_iload_n dX11_findsFire_133 rfl ?_
                  refine st_dup2 dX11_findsFire_134 rfl rfl ?_
                  refine st_ialdK (k' := l) dX11_findsFire_135 sh_160 (by first | rfl | omega) (by omega) (hn := by decide) ?_
                  rw [ev]
                  refine st_iconst dX11_findsFire_136 ?_
                  refine st_iadd dX11_findsFire_137 ?_
                  refine st_iastK (k' := l) dX11_findsFire_138 sh_160 (by first | rfl | omega) (by omega) (hn := by decide) ?_
                  refine st_goto (tgt := 105) dX11_findsFire_139 rfl ?_
                  have hb : (setQ o l).toNat.testBit v = true := by
                    unfold bitI at h2
                    split at h2
                    · assumption
                    · omega
                  refine ihp (v + 1) (q_up M4 160 l ((v : Int) + 1)) (by omega) (by omega) (fun u u1 u2 => ?_) ?_ k2
                  · by_cases e : u = v
                    · rw [e]; exact (setQ_bit o l v).1 hb
                    · exact hu u u1 (by omega)
                  · rw [e4]
                    funext a' j
                    simp only [q_up]
                    split
                    · simp
                    · rfl
          refine wl m c _ hc (Nat.le_refl _) (fun u u1 u2 => absurd u1 (by omega)) rfl (fun v v1 v2 v3 v4 => ?_)
          have hsk := lt_skip (c := c) (v := v) hT.1 (show l < (B 3 4).toNat by omega) v1 v3
          have ev : q_up M3 160 l (v : Int) 160 l = (v : Int) := by simp [q_up]
          have hS4 : FiS B M1 (q_up M3 160 l (v : Int)) := ⟨s1.tr (Exc.up (by decide)), fun j j73 => by rw [q_up_ne (by decide)]; exact s2 j j73, fun j j6 => by rw [q_up_ne (by decide)]; exact s3 j j6, fun j hj => by rw [q_up_ne (by decide)]; exact s4 j hj, fun j hj => by rw [q_up_ne (by decide)]; exact s5 j hj, s6⟩
          have hFD : fiFD B M3 → fiFD B (q_up M3 160 l (v : Int)) := fun z => ⟨by rw [q_up_ne (by decide)]; exact z.1, fun j hj => by rw [q_up_ne (by decide)]; exact z.2 j hj⟩
          have hNF : fiNF B M3 → fiNF B (q_up M3 160 l (v : Int)) := fun z => by unfold fiNF at *; rw [q_up_ne (by decide)]; exact z
          have hpre : ∀ i, i < l → q_up M3 160 l (v : Int) 160 i = (o i : Nat) := fun i hi => by rw [← i3 i hi]; simp [q_up, show ¬ i = l by omega]
          generalize q_up M3 160 l (v : Int) = M4 at *
          refine st_aload_n dX11_findsFire_142 rfl ?_
          refine st_getfr dX11_findsFire_143 f_X11_158 (by first | with_reducible assumption | rfl) (by rfl) ?_
          refine st_iload_n dX11_findsFire_146 rfl ?_
          refine st_ialdK (k' := l) dX11_findsFire_147 sh_160 (by first | rfl | omega) (by omega) (hn := by decide) ?_
          rw [ev]
          refine st_iload_n dX11_findsFire_148 rfl ?_
          refine st_icmp_ne (tgt := 165) dX11_findsFire_149 (by omega) (by omega) rfl (fun h => ?_) (fun h => ?_)
          · refine st_iload_n dX11_findsFire_165 rfl ?_
            refine st_iconst dX11_findsFire_166 ?_
            refine st_aload_n dX11_findsFire_167 rfl ?_
            refine st_getfr dX11_findsFire_168 f_X11_158 (by first | with_reducible assumption | rfl) (by rfl) ?_
            refine st_iload_n dX11_findsFire_171 rfl ?_
            -- a candidate
            have hvn : v < (B 3 4).toNat := by omega
            refine st_ialdK (k' := l) dX11_findsFire_172 sh_160 (by first | rfl | omega) (by omega) (hn := by decide) ?_
            rw [ev]
            refine st_ishl dX11_findsFire_173 ?_
            refine st_ior dX11_findsFire_174 ?_
            refine AW.topv (show _ = I (orb (setQ o l) v) from congrArg Value.int (z_set hsr.1 (by omega))) ?_
            refine st_istore_n (L' := [_, _, _, _]) dX11_findsFire_175 (by decide) rfl rfl ?_
            refine st_iload_n dX11_findsFire_176 rfl ?_
            refine st_iload_n dX11_findsFire_177 rfl ?_
            refine st_iconst dX11_findsFire_178 ?_
            refine st_isub dX11_findsFire_179 ?_
            have hpq := psh_prm i2 hvn (v4 hvn)
            have hord : ∀ i, i < l + 1 → M4 160 i = (psh o l v i : Nat) := by
              intro i hi
              by_cases e : i = l
              · rw [e, psh_at]; exact ev
              · rw [psh_lt (by omega)]; exact hpre i (by omega)
            -- on, with the next candidate of this level
            have nx : ∀ (M5 : q_Mem), HdI B M1 M5 l (v + 1) o → AW0 G d m_X11_findsFire 60 [some (.ref 112), some (I (B 3 4).toNat), some (I l), some (I (orb (setQ o l) v))] [] M5 Nc (CN (fun M' N' => N' = Nc ∧ Qk M M' ∧ M' 112 73 = (fK B : Nat) ∧ ∀ j, j < (B 3 4).toNat → M' 161 j = (fT B j : Nat))) := by
              intro M5 h5
              have := ihm ((B 3 4).toNat - (v + 1)) (by omega) (v + 1) (by omega) o M5 h5 kk
              rw [show setC o l (v + 1) = orb (setQ o l) v by unfold setC; rw [if_neg (by omega), show v + 1 - 1 = v by omega]] at this
              exact this
            refine st_icmp_ne (tgt := 190) dX11_findsFire_180 (by omega) (by omega) rfl (fun h2 => ?_) (fun h2 => ?_)
            · refine st_iinc (L' := [_, _, _, _]) dX11_findsFire_190 rfl (by decide) rfl rfl ?_
              refine st_aload_n dX11_findsFire_193 rfl ?_
              refine st_getfr dX11_findsFire_194 f_X11_158 (by first | with_reducible assumption | rfl) (by rfl) ?_
              refine st_iload_n dX11_findsFire_197 rfl ?_
              refine st_iconst dX11_findsFire_198 ?_
              -- a level down
              refine st_iastK (k' := l + 1) dX11_findsFire_199 sh_160 (by omega) (by omega) (hn := by decide) ?_
              have hI5 : HdI B M1 (q_up M4 160 (l + 1) (-1)) (l + 1) 0 (psh o l v) := by
                refine ⟨⟨hS4.1.tr (Exc.up (by decide)), fun j j73 => by rw [q_up_ne (by decide)]; exact hS4.2.1 j j73, fun j j6 => by rw [q_up_ne (by decide)]; exact hS4.2.2.1 j j6, fun j hj => by rw [q_up_ne (by decide)]; exact hS4.2.2.2.1 j hj, fun j hj => by rw [q_up_ne (by decide)]; exact hS4.2.2.2.2.1 j hj, s6⟩, hpq, fun i hi => by rw [← hord i hi]; simp [q_up, show ¬ i = l + 1 by omega], by simp [q_up], fun z => absurd z (by omega), fun z => ?_, fun z => ?_⟩
                · have hz : ltT B o l c := by
                    rw [hsk, ← lt_push]
                    rcases z with z | ⟨-, z⟩
                    · exact z
                    · exact absurd z (by omega)
                  have := hFD (i6 hz)
                  exact ⟨by rw [q_up_ne (by decide)]; exact this.1, fun j hj => by rw [q_up_ne (by decide)]; exact this.2 j hj⟩
                · have hz : ¬ ltT B o l c := by
                    rw [hsk, ← lt_push]
                    exact fun y => z (Or.inl y)
                  have := hNF (i7 hz)
                  unfold fiNF at *
                  rw [q_up_ne (by decide)]
                  exact this
              refine st_goto (tgt := 60) dX11_findsFire_200 rfl ?_
              refine AW.to (ihr (r - 1) (by omega) (l + 1) (by omega) (B 3 4).toNat 0 (Nat.zero_add _) (psh o l v) _ hI5 (fun M6 hU => ?_)) (h2 := by rw [show setC (psh o l v) (l + 1) 0 = setQ (psh o l v) (l + 1) from if_pos rfl, psh_set]; simp)
              obtain ⟨u1, u2, u3, u4⟩ := hU
              rw [psh_set, show ((l + 1 : Nat) : Int) - 1 = (l : Int) by omega]
              refine nx M6 ⟨u1, i2, fun i hi => by rw [u2 i (by omega), psh_lt hi], by rw [u2 l (by omega), psh_at]; omega, fun _ i hi => by rw [show v + 1 - 1 = v by omega]; exact v4 hvn i hi, fun z => u3 (lt_pushU.2 z), fun z => u4 (fun y => z (lt_pushU.1 y))⟩
            · refine st_aload_n dX11_findsFire_183 rfl ?_
              -- a whole order
              have hl1 : l + 1 = (B 3 4).toNat := by omega
              rw [hl1] at hpq hord
              have hr73 : -1 ≤ M4 112 73 ∧ M4 112 73 ≤ 100 := by
                by_cases z : ltT B o l c
                · have := (hFD (i6 z)).1; omega
                · rcases hNF (i7 z) with y | y <;> omega
              refine c_V0v (d' := d - 1) dX11_findsFire_184 l_X11_596 k_X11_laysOrder i_X11_laysOrder (Or.inl ⟨_, _, _, _, _, (by first | with_reducible assumption | rfl), by rfl⟩) (by omega) (Nat.le_of_ble_eq_true rfl) (C_laysOrder (by omega) hN1 htl hi hS4 hpq hord hr73) (fun M5 N5 hx5 => ?_)
              obtain ⟨rfl, hS5, e160, t, t1, t2, t3', t4, t5⟩ := hx5
              refine st_goto (tgt := 60) dX11_findsFire_187 rfl ?_
              have htK : fK B ≤ t := by
                by_cases z : t < fK B
                · exact absurd t2 (fire_none hB z (fun i hi2 => hpq i (by omega)))
                · omega
              refine nx M5 ⟨hS5, i2, fun i hi => by rw [e160]; exact hpre i hi, by rw [e160, ev]; omega, fun _ i hi => by rw [show v + 1 - 1 = v by omega]; exact v4 hvn i hi, fun z => ?_, fun z => ?_⟩
              · by_cases y : ltT B o l v
                · have hf4 := hFD (i6 (hsk.2 y))
                  have hk := t5 (by rw [hf4.1]; omega)
                  exact ⟨by rw [hk.1]; exact hf4.1, fun j hj => by rw [hk.2]; exact hf4.2 j hj⟩
                · have hall : ∀ i, i < l + 1 → fT B i = psh o l v i := by
                    rcases lt_pushU.2 z with x | x
                    · exact absurd (lt_push.1 x) y
                    · exact x
                  rw [hl1] at hall
                  have htle : t ≤ fK B := by
                    by_cases x : fK B < t
                    · refine absurd ?_ (t3' _ x)
                      rw [← sitQ_congr (q := fT B) (q' := psh o l v) (fun i hi2 => hall i (by omega))]
                      exact hT.2
                    · omega
                  have hup := t4 (by
                    rcases hNF (i7 (fun x => y (hsk.1 x))) with x | x
                    · exact Or.inl x
                    · exact Or.inr (by omega))
                  exact ⟨by rw [hup.1, show t = fK B by omega], fun j hj => by rw [hup.2 j hj, hall j hj]⟩
              · have hnv : ¬ ltT B o l v := fun y => z (by
                  rcases y with y | ⟨y1, y2⟩
                  · exact Or.inl y
                  · exact Or.inr ⟨y1, by omega⟩)
                have htgt : fK B < t := by
                  by_cases x : t = fK B
                  · exfalso
                    rw [x] at t2
                    have hne : ¬ (∀ i, i < l + 1 → fT B i = psh o l v i) := fun y => z (lt_pushU.1 (Or.inr y))
                    obtain ⟨j, j1, j2, j3⟩ := fst_diff hne
                    have hle := fire_least hB hi hpq t2 (j := j) (by omega) (fun i hi2 => (j2 i hi2).symm)
                    exact hnv (lt_push.1 ⟨j, j1, j2, by omega⟩)
                  · omega
                have h4 := hNF (i7 (fun x => hnv (hsk.1 x)))
                by_cases y : M4 112 73 = -1 ∨ (t : Int) < M4 112 73
                · have := (t4 y).1
                  exact Or.inr ⟨by rw [this]; omega, by rw [this]; omega⟩
                · have := (t5 y).1
                  unfold fiNF at h4 ⊢
                  rw [this]
                  exact h4
          · refine st_aload_n dX11_findsFire_152 rfl ?_
            refine st_getfr dX11_findsFire_153 f_X11_158 (by first | with_reducible assumption | rfl) (by rfl) ?_
            refine st_iload_n dX11_findsFire_156 rfl ?_
            refine st_iconst dX11_findsFire_157 ?_
            refine st_iastK (k' := l) dX11_findsFire_158 sh_160 (by first | rfl | omega) (by omega) (hn := by decide) ?_
            refine st_iinc (L' := [_, _, _, _]) dX11_findsFire_159 rfl (by decide) rfl rfl ?_
            refine st_goto (tgt := 60) dX11_findsFire_162 rfl ?_
            have hvn : v = (B 3 4).toNat := by omega
            have hTl := (hT.1 l (by omega)).1
            have hiff : ltT B o l v ↔ ((∃ j, j < l ∧ (∀ i, i < j → fT B i = o i) ∧ fT B j < o j) ∨ ∀ i, i < l → fT B i = o i) := by
              unfold ltT
              constructor
              · rintro (y | y)
                · exact Or.inl y
                · exact Or.inr y.1
              · rintro (y | y)
                · exact Or.inl y
                · exact Or.inr ⟨y, by omega⟩
            refine AW.to (kk (q_up M4 160 l (-1)) ⟨⟨hS4.1.tr (Exc.up (by decide)), fun j j73 => by rw [q_up_ne (by decide)]; exact hS4.2.1 j j73, fun j j6 => by rw [q_up_ne (by decide)]; exact hS4.2.2.1 j j6, fun j hj => by rw [q_up_ne (by decide)]; exact hS4.2.2.2.1 j hj, fun j hj => by rw [q_up_ne (by decide)]; exact hS4.2.2.2.2.1 j hj, s6⟩, fun i hi => by rw [← hpre i hi]; simp [q_up, show ¬ i = l by omega], fun z => ?_, fun z => ?_⟩) (h2 := by rw [Int.sub_eq_add_neg])
            · have := hFD (i6 (hsk.2 (hiff.2 z)))
              exact ⟨by rw [q_up_ne (by decide)]; exact this.1, fun j hj => by rw [q_up_ne (by decide)]; exact this.2 j hj⟩
            · have := hNF (i7 (fun y => z (hiff.1 (hsk.1 y))))
              unfold fiNF at *
              rw [q_up_ne (by decide)]
              exact this
        refine st_iload_n dX11_findsFire_60 rfl ?_
        refine st_if_lt (tgt := 203) dX11_findsFire_61 (by omega) rfl (fun h => ?_) (fun h => ?_)
        · skip
          omega
        · refine st_iload_n dX11_findsFire_64 rfl ?_
          refine st_if_le (tgt := 203) dX11_findsFire_65 (by omega) rfl (fun h2 => ?_) (fun h2 => ?_)
          · skip
            omega
          · refine st_iload_n dX11_findsFire_68 rfl ?_
            refine st_aload_n dX11_findsFire_69 rfl ?_
            refine st_getfr dX11_findsFire_70 f_X11_158 (by first | with_reducible assumption | rfl) (by rfl) ?_
            refine st_iload_n dX11_findsFire_73 rfl ?_
            refine st_ialdK (k' := l) dX11_findsFire_74 sh_160 rfl (by omega) (hn := by decide) ?_
            rw [i4]
            refine st_iconst dX11_findsFire_75 ?_
            refine st_icmp_ne (tgt := 83) dX11_findsFire_76 (by omega) (by omega) rfl (fun h3 => ?_) (fun h3 => ?_)
            · refine st_iconst dX11_findsFire_83 ?_
              refine st_aload_n dX11_findsFire_84 rfl ?_
              refine st_getfr dX11_findsFire_85 f_X11_158 (by first | with_reducible assumption | rfl) (by rfl) ?_
              refine st_iload_n dX11_findsFire_88 rfl ?_
              refine st_ialdK (k' := l) dX11_findsFire_89 sh_160 rfl (by omega) (hn := by decide) ?_
              rw [i4]
              rw [show (c : Int) - 1 = ((c - 1 : Nat) : Int) by omega, show setC o l c = orb (setQ o l) (c - 1) from if_neg (by omega)]
              refine st_ishl dX11_findsFire_90 ?_
              refine st_iconst dX11_findsFire_91 ?_
              refine st_ixor dX11_findsFire_92 ?_
              refine st_iand dX11_findsFire_93 ?_
              have hz := z_clr (setQ o l).toNat (by omega) (c - 1) (by omega) (by
                have hb := setQ_bit o l (c - 1)
                cases hx : (setQ o l).toNat.testBit (c - 1) with
                | false => rfl
                | true =>
                  obtain ⟨i, hi2, e⟩ := hb.1 hx
                  exact absurd e (i5 (by omega) i hi2))
              rw [Int.toNat_of_nonneg hsr.1] at hz
              refine AW.topv (show _ = I (setQ o l) from congrArg Value.int hz) ?_
              refine st_istore_n (L' := [_, _, _, _]) dX11_findsFire_94 (by decide) rfl rfl ?_
              exact af
            · refine st_iload_n dX11_findsFire_79 rfl ?_
              refine st_goto (tgt := 93) dX11_findsFire_80 rfl ?_
              refine st_iand dX11_findsFire_93 ?_
              have hc0 : c = 0 := by omega
              rw [show setC o l c = setQ o l from if_pos hc0]
              refine AW.topv (show _ = I (setQ o l) from congrArg Value.int (show zi (setQ o l) &&& zi (setQ o l) = zi (setQ o l) by rw [z_toN hsr.1, zi_and, Nat.and_self])) ?_
              refine st_istore_n (L' := [_, _, _, _]) dX11_findsFire_94 (by decide) rfl rfl ?_
              exact af
  refine AW.to (S ((B 3 4).toNat - 1) 0 (by omega) (B 3 4).toNat 0 (Nat.zero_add _) (fun _ => 0) M2 hI0 (fun M3 hU => ?_)) (h2 := by rw [show setC (fun _ => 0) 0 0 = 0 from rfl]; rfl)
  obtain ⟨u1, u2, u3, u4⟩ := hU
  have hFD := u3 (Or.inr (fun i hi2 => absurd hi2 (by omega)))
  refine st_iload_n dX11_findsFire_60 rfl ?_
  refine st_if_lt (tgt := 203) dX11_findsFire_61 (by omega) rfl (fun h => ?_) (fun h => ?_)
  · refine st_aload_n dX11_findsFire_203 rfl ?_
    refine c_V0v (d' := d - 1) dX11_findsFire_204 l_X11_488 k_X11_laysBack i_X11_laysBack (Or.inl ⟨_, _, _, _, _, (by first | with_reducible assumption | rfl), by rfl⟩) (by omega) (Nat.le_of_ble_eq_true rfl) (C_laysBack (by omega)) (fun M4 N4 hx4 => ?_)
    obtain ⟨rfl, hb⟩ := hx4
    refine r_v dX11_findsFire_207 rfl ⟨rfl, hF.back (X := fiX) ((hE1.sub (by decide)).tr u1.1) hb (by decide) (by decide) (fun j hj => ?_), ?_, fun j hj => ?_⟩
    · simp only [List.mem_cons, List.not_mem_nil, or_false] at hj
      rw [u1.2.1 j (by omega)]
      exact k112 j (by omega)
    · rw [hb.2.2.1 73 (by decide) (by decide) (by decide)]
      exact hFD.1
    · rw [hb.exc 161 (by decide)]
      exact hFD.2 j hj
  · skip
    omega
theorem fire_val {B : q_Mem} (hB : NowOk B) {j : Nat} (h2 : j < (B 3 4).toNat) : (fT B j : Int) = if j < fK B then g8 (fO B) j else rstF (amg (fO B) (fK B)) (B 3 4).toNat 0 ((j : Int) - fK B) := by
  unfold fT
  by_cases c : j < fK B
  · rw [if_pos c, if_pos c]
    have := g8_lt (fO B) j
    unfold dgN
    omega
  · rw [if_neg c, if_neg c]
    have hc : (j : Int) - fK B < cnA (amg (fO B) (fK B)) 0 (B 3 4).toNat := by
      have e : cnA (amg (fO B) (fK B)) 0 (B 3 4).toNat = cnt (fun i => ¬ amg (fO B) (fK B) i) (B 3 4).toNat := cnt_cg (fun q _ => by rw [Nat.zero_add])
      rw [e, cnt_not]
      have := amg_cnt (fO B) (B 3 4).toNat (fK B)
      omega
    obtain ⟨v, v1, -⟩ := rst_spec (amg (fO B) (fK B)) (B 3 4).toNat 0 ((j : Int) - fK B) (by omega) hc
    rw [v1, Int.toNat_natCast]
theorem C_rfire {G : q_G} {d : Nat} {B M : q_Mem} {N : q_MemL} {what : Int} (hd : 6 ≤ d) (hN : RN B M) (hi : 2 ≤ B 3 3 → 1 ≤ B 4 1) (hw : i32 what) : AC0 G d m_X11_fire [.ref 112, I what] M N (CV (fun v M' N' => v = I (A_fire B what) ∧ N' = N ∧ Qk M M')) := by
  obtain ⟨hB, hT, hP, hW, hb6⟩ := id hN
  obtain ⟨h0, h1, h2, h3, h4, h5, h6, h11, -⟩ := id hB
  have hf := fire_f hB hi
  have hww := hw
  unfold i32 at hww
  have no : ¬ (B 3 0 = 1 ∧ 0 ≤ what ∧ what ≤ 7) → AW0 G d m_X11_fire 19 [some (.ref 112), some (I what)] [] M N (CV (fun v M' N' => v = I (A_fire B what) ∧ N' = N ∧ Qk M M')) := by
    intro h
    refine st_iconst dX11_fire_19 ?_
    exact r_i dX11_fire_20 rfl ⟨by rw [A_fire, if_neg h], rfl, Qk.rf⟩
  refine AC.of (L0 := [_, _]) pn_X11 (Nat.le_of_ble_eq_true rfl) rfl ?_
  refine st_aload_n dX11_fire_0 rfl ?_
  refine c_V0p (d' := d - 1) dX11_fire_1 l_X11_186 k_X11_isHouse i_X11_isHouse (Or.inl ⟨_, _, _, _, _, (by first | with_reducible assumption | rfl), by rfl⟩) (by omega) (Nat.le_of_ble_eq_true rfl) (C_isHouse hB hT) ?_
  refine b_eq (tgt := 19) dX11_fire_4 rfl (fun h7 => ?_) (fun h7 => ?_)
  · skip
    exact no (fun z => h7 z.1)
  · refine st_iload_n dX11_fire_7 rfl ?_
    refine st_i2lK dX11_fire_8 (by omega) ?_
    refine st_lc0K dX11_fire_9 ?_
    refine st_ldc2 dX11_fire_10 l_X11_602 ?_
    refine AW.topv (show _ = J 7 from rfl) ?_
    refine c_S3p (d' := d - 1) dX11_fire_13 l_X11_182 k_X11_in s_X11_in (by omega) (Nat.le_of_ble_eq_true rfl) (C_in (by omega) (by omega) (by omega)) ?_
    refine b_ne (tgt := 21) dX11_fire_16 rfl (fun h8 => ?_) (fun h8 => ?_)
    · refine st_iload_n dX11_fire_21 rfl ?_
      refine st_aload_n dX11_fire_22 rfl ?_
      refine st_getfr dX11_fire_23 f_X11_9 (by first | with_reducible assumption | rfl) (by rfl) ?_
      refine st_iconst dX11_fire_26 ?_
      refine st_ialdK (k' := 3) dX11_fire_27 (by first | with_reducible assumption | rfl) rfl (by omega) (hn := by first | decide | omega) ?_
      rw [hT.1.2.2.2.1, show A_fire B what = A_hush B what from if_pos ⟨h7, h8⟩]
      have eA : A_hush B what = if B 3 4 < what then -2 else if what = 0 then (fK B : Int) else if what ≤ fK B then g8 (fO B) (what - 1).toNat else rstF (amg (fO B) (fK B)) (B 3 4).toNat 0 (what - 1 - fK B) := rfl
      rw [eA]
      refine st_icmp_le (tgt := 34) dX11_fire_28 (by omega) (by omega) rfl (fun h9 => ?_) (fun h9 => ?_)
      · refine st_aload_n dX11_fire_34 rfl ?_
        refine st_getfr dX11_fire_35 f_X11_9 (by first | with_reducible assumption | rfl) (by rfl) ?_
        refine st_iconst dX11_fire_38 ?_
        refine st_ialdK (k' := 3) dX11_fire_39 (by first | with_reducible assumption | rfl) rfl (by omega) (hn := by first | decide | omega) ?_
        rw [hT.1.2.2.2.1, if_neg (by omega)]
        refine st_if_ne (tgt := 45) dX11_fire_40 (by omega) rfl (fun h10 => ?_) (fun h10 => ?_)
        · refine st_aload_n dX11_fire_45 rfl ?_
          refine c_V0v (d' := d - 1) dX11_fire_46 l_X11_604 k_X11_findsFire i_X11_findsFire (Or.inl ⟨_, _, _, _, _, (by first | with_reducible assumption | rfl), by rfl⟩) (by omega) (Nat.le_of_ble_eq_true rfl) (C_findsFire (by omega) hN h7 hi (by omega)) (fun M1 N1 hx => ?_)
          obtain ⟨rfl, hq, e73, e161⟩ := hx
          refine st_iload_n dX11_fire_49 rfl ?_
          refine st_if_ne (tgt := 60) dX11_fire_50 (by omega) rfl (fun h11 => ?_) (fun h11 => ?_)
          · skip
            obtain ⟨j, hj⟩ : ∃ j : Nat, what = ((j + 1 : Nat) : Int) := ⟨(what - 1).toNat, by omega⟩
            subst hj
            refine st_aload_n dX11_fire_60 rfl ?_
            refine st_getfr dX11_fire_61 f_X11_161 (by first | with_reducible assumption | rfl) (by rfl) ?_
            refine st_iload_n dX11_fire_64 rfl ?_
            refine st_iconst dX11_fire_65 ?_
            refine st_isub dX11_fire_66 ?_
            rw [show ((j + 1 : Nat) : Int) - 1 = (j : Int) by omega]
            first | refine st_ialdK (k' := _) dX11_fire_67 (by first | with_reducible assumption | rfl) rfl (by omega) (hn := by first | decide | omega) ?_ | refine st_iald dX11_fire_67 (by first | with_reducible assumption | rfl) (by omega) (by omega) (hn := by first | decide | omega) ?_
            rw [e161 j (by omega), fire_val hB (by omega), if_neg h11]
            by_cases c : j < fK B
            · skip
              exact r_i dX11_fire_68 rfl ⟨by rw [if_pos c, if_pos (by omega), Int.toNat_natCast], rfl, hq⟩
            · skip
              exact r_i dX11_fire_68 rfl ⟨by rw [if_neg c, if_neg (by omega)], rfl, hq⟩
          · refine st_aload_n dX11_fire_53 rfl ?_
            refine st_getfi dX11_fire_54 f_X11_593 (by first | with_reducible assumption | rfl) (by rfl) ?_
            refine st_goto (tgt := 68) dX11_fire_57 rfl ?_
            rw [e73, if_pos h11]
            exact r_i dX11_fire_68 rfl ⟨rfl, rfl, hq⟩
        · refine st_iconst dX11_fire_43 ?_
          have hw0 : what = 0 := by omega
          rw [if_pos hw0]
          exact r_i dX11_fire_44 rfl ⟨by rw [show fK B = 0 by omega]; rfl, rfl, Qk.rf⟩
      · refine st_bipush dX11_fire_31 (by decide) ?_
        rw [if_pos (by omega)]
        exact r_i dX11_fire_33 rfl ⟨rfl, rfl, Qk.rf⟩
    · skip
      exact no (fun z => h8 z.2)


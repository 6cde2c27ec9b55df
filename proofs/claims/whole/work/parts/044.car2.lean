/-! the system's Carrier: what is heard of a set of singers is the sum of the shares -/
def setV (k : Nat) : Nat → Int := fun q => if k.testBit q = true then 30 else 0
def aloV (s : Nat) : Nat → Int := fun q => if q = s then 30 else 0
theorem setV_rng (k q : Nat) : 0 ≤ setV k q ∧ setV k q ≤ 30 := by unfold setV; split <;> omega
theorem aloV_rng (s q : Nat) : 0 ≤ aloV s q ∧ aloV s q ≤ 30 := by unfold aloV; split <;> omega
theorem hsum_at {f : Nat → Int} {p n : Nat} (hp : p < n) (h : ∀ q, q < n → ¬ q = p → f q = 0) : hsum f n = f p := by
  have := hsum_rm (f := f) (g := fun _ => 0) hp (fun q hq => by
    by_cases e : q = p
    · rw [if_pos e]
    · rw [if_neg e, h q hq e])
  rw [this, hsum_0 (fun _ _ => rfl), Int.zero_add]
theorem shS_congr {a b : Nat → Int} {np k : Nat} (h : ∀ q, q < np → k.testBit q = true → a q = b q) : shS a np k = shS b np k := hsum_congr (fun q hq => by
  show (if k.testBit q = true then a q else 0) = if k.testBit q = true then b q else 0
  by_cases e : k.testBit q = true
  · rw [if_pos e, if_pos e, h q hq e]
  · rw [if_neg e, if_neg e])
theorem fade_0 (d : Int) : fade 0 d = 0 := by
  unfold fade
  split
  · rfl
  · split <;> rfl
theorem lin_hear {np k p : Nat} {df : Int} {st rm : Nat → Int} (hp : p < np) : shS (fun q => hearP np df st rm (aloV q) p) np k = hearP np df st rm (setV k) p := by
  by_cases hd : df.toNat.testBit p = true
  · have e : hearP np df st rm (setV k) p = setV k p := if_pos hd
    rw [e]
    unfold shS
    rw [hsum_at hp (fun q _ hq => by
      show (if k.testBit q = true then hearP np df st rm (aloV q) p else 0) = 0
      have e : hearP np df st rm (aloV q) p = aloV q p := if_pos hd
      have e3 : aloV q p = 0 := if_neg (fun z => hq z.symm)
      rw [e, e3]
      split <;> rfl)]
    show (if k.testBit p = true then hearP np df st rm (aloV p) p else 0) = setV k p
    have e2 : hearP np df st rm (aloV p) p = aloV p p := if_pos hd
    have e3 : aloV p p = 30 := if_pos rfl
    rw [e2, e3]
    rfl
  · have e : hearP np df st rm (setV k) p = hsum (hearF st rm (setV k) p) np := if_neg hd
    rw [e]
    refine hsum_congr (fun q hq => ?_)
    have e2 : hearP np df st rm (aloV q) p = hsum (hearF st rm (aloV q) p) np := if_neg hd
    show (if k.testBit q = true then hearP np df st rm (aloV q) p else 0) = _
    rw [e2, hsum_at hq (fun j _ hj => by
      unfold hearF aloV
      rw [if_neg hj, fade_0]
      split
      · rfl
      · split <;> rfl)]
    unfold hearF setV aloV
    rw [if_pos rfl]
    by_cases b : k.testBit q = true
    · rw [if_pos b, if_pos b]
    · rw [if_neg b, if_neg b, fade_0]
      split
      · rfl
      · split <;> rfl
theorem lin_thing {np k t : Nat} {st rm : Nat → Int} : shS (fun q => if rm (7 + t) = rm q ∧ st (7 + t) = st q then 30 else 0) np k = hsum (withF st rm (setV k) t) np := hsum_congr (fun q hq => by
  show (if k.testBit q = true then (if rm (7 + t) = rm q ∧ st (7 + t) = st q then 30 else 0) else 0) = withF st rm (setV k) t q
  unfold withF setV
  by_cases b : k.testBit q = true
  · rw [if_pos b, if_pos b]
  · rw [if_neg b, if_neg b]
    split <;> rfl)
theorem C_singAlone {G : q_G} {d : Nat} {M : q_Mem} {N : q_MemL} {s : Nat} (hd : 1 ≤ d) (hs : s < 7) : AC0 G d m_X0_singAlone [.ref 94, I s] M N (CN (fun M' N' => N' = N ∧ Exc [99] M M' ∧ ∀ q, q < 7 → M' 99 q = aloV s q)) := by
  refine AC.of (L0 := [_, _]) pn_X0 (Nat.le_of_ble_eq_true rfl) rfl ?_
  refine st_aload_n dX0_singAlone_0 rfl ?_
  refine st_getfr dX0_singAlone_1 f_X0_24 (by first | assumption | rfl) (by rfl) ?_
  refine st_iconst dX0_singAlone_4 ?_
  refine c_S2v (d' := d - 1) dX0_singAlone_5 l_X0_53 k_J7_fill_53178 s_J7_fill_53178 (by omega) (Nat.le_of_ble_eq_true rfl) (C_fill sh_99 (by decide)) (fun M1 N1 hx => ?_)
  obtain ⟨q1, r1⟩ := hx
  rw [q1]
  have hE1 : Exc [99] M M1 := by
    intro a ha
    simp only [List.mem_cons, List.not_mem_nil, or_false] at ha
    rw [r1]
    funext j
    simp [ha]
  refine st_aload_n dX0_singAlone_8 rfl ?_
  refine st_getfr dX0_singAlone_9 f_X0_24 (by first | assumption | rfl) (by rfl) ?_
  refine st_iload_n dX0_singAlone_12 rfl ?_
  refine st_bipush dX0_singAlone_13 (by decide) ?_
  refine c_S3v (d' := d - 1) dX0_singAlone_15 l_X0_81 k_X10_put s_X10_put (by omega) (Nat.le_of_ble_eq_true rfl) (C_putI sh_99 (by decide) (by omega)) (fun M2 N2 hx => ?_)
  obtain ⟨r2, rfl⟩ := hx
  exact r_v dX0_singAlone_18 rfl ⟨rfl, r2 ▸ hE1.tr (Exc.up (by decide)), fun q hq => by rw [r2]; unfold aloV; by_cases e : q = s; simp [q_up, e]; rw [if_neg e, Int.toNat_natCast]; have e2 : q_up M1 99 s 30 99 q = M1 99 q := by { simp [q_up, e] }; rw [e2, r1]; simp [hq]⟩


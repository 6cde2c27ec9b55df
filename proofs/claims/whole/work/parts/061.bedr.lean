/-! the reference: beds -/
theorem C_copies {G : q_G} {d : Nat} {M : q_Mem} {N : q_MemL} {r q n n' : Nat} {vs ws : List Value} (hr : S0[r]? = some (20, n, vs)) (hq : S0[q]? = some (20, n', ws)) (hn : n ≤ n') (hn2 : n' ≤ 2000) (hrq : ¬ r = q) : AC0 G d m_X11_copies [.ref r, .ref q] M N (CN (fun M' N' => N' = N ∧ M' = q_cp M r q 0 0 n)) := by
  refine AC.of (L0 := [_, _, none]) pn_X11 (Nat.le_of_ble_eq_true rfl) rfl ?_
  refine st_iconst dX11_copies_0 ?_
  refine st_istore_n (L' := [_, _, _]) dX11_copies_1 (by decide) rfl rfl ?_
  have loop : ∀ (m k : Nat) (M1 : q_Mem), k + m = n → M1 = q_cp M r q 0 0 k → AW0 G d m_X11_copies 2 [some (.ref r), some (.ref q), some (I k)] [] M1 N (CN (fun M' N' => N' = N ∧ M' = q_cp M r q 0 0 n)) := by
    intro m
    induction m with
    | zero =>
      intro k M1 hk e
      refine st_iload_n dX11_copies_2 rfl ?_
      refine st_aload_n dX11_copies_3 rfl ?_
      refine st_alen dX11_copies_4 hr (by decide) ?_
      refine st_icmp_ge (tgt := 20) dX11_copies_5 (by omega) (by omega) rfl (fun h => ?_) (fun h => ?_)
      · skip
        exact r_v dX11_copies_20 rfl ⟨rfl, by rw [e, show k = n by omega]⟩
      · skip
        omega
    | succ m ih =>
      intro k M1 hk e
      have fr : M1 r k = M r k := by rw [e]; simp [q_cp, hrq]
      refine st_iload_n dX11_copies_2 rfl ?_
      refine st_aload_n dX11_copies_3 rfl ?_
      refine st_alen dX11_copies_4 hr (by decide) ?_
      refine st_icmp_ge (tgt := 20) dX11_copies_5 (by omega) (by omega) rfl (fun h => ?_) (fun h => ?_)
      · skip
        omega
      · refine st_aload_n dX11_copies_8 rfl ?_
        refine st_iload_n dX11_copies_9 rfl ?_
        refine st_aload_n dX11_copies_10 rfl ?_
        refine st_iload_n dX11_copies_11 rfl ?_
        refine st_ialdK (k' := k) dX11_copies_12 hr rfl (by omega) (hn := by omega) ?_
        rw [fr]
        refine st_iastK (k' := k) dX11_copies_13 hq rfl (by omega) (hn := by omega) ?_
        refine st_iinc (L' := [_, _, _]) dX11_copies_14 rfl (by decide) rfl rfl ?_
        refine st_goto (tgt := 2) dX11_copies_17 rfl ?_
        refine AW.to (ih (k + 1) (q_up M1 q k (M r k)) (by omega) ?_) (h2 := by simp)
        rw [e]
        funext a' j
        by_cases c1 : a' = q
        · subst c1
          by_cases c2 : j = k
          · subst c2; simp [q_up, q_cp]
          · have : j < k + 1 ↔ j < k := by omega
            simp [q_up, q_cp, c2, this]
        · simp [q_up, q_cp, c1]
  refine AW.to (loop n 0 M (Nat.zero_add _) ?_)
  funext a' j
  simp [q_cp]
  intro e
  rw [e]
theorem hearP_all {n : Nat} {df : Int} {st st' rm v : Nat → Int} {p : Nat} (h : ∀ q, q < n → st q = st p) (h' : ∀ q, q < n → st' q = st' p) : hearP n df st rm v p = hearP n df st' rm v p := by
  unfold hearP
  rw [hsum_congr (fun q hq => by unfold hearF; rw [if_pos (h q hq), if_pos (h' q hq)] : ∀ q, q < n → hearF st rm v p q = hearF st' rm v p q)]
abbrev bdX : List Nat := [112, 115, 116, 143, 155]
/-- what the search for beds has found among the first k ways -/
def BdI (B M1 M2 : q_Mem) (s h : Int) (k : Nat) : Prop := Exc bdX M1 M2 ∧ (∀ j, ¬ j = 65 → M2 112 j = M1 112 j) ∧ (∀ q, q < (B 3 4).toNat → M2 116 q = s) ∧ (∀ q, q < (B 3 4).toNat → M2 143 q = toldV B 3 h 0 q) ∧ M2 112 65 = (slF B s h k).1 ∧ (0 < (slF B s h k).1 → ∀ q, q < (B 3 4).toNat → M2 155 q = g4 (slF B s h k).2 q)
theorem C_findsBeds {G : q_G} {d : Nat} {B M : q_Mem} {N : q_MemL} {s : Int} {hh : Nat} (hd : 3 ≤ d) (hN : RN B M) (hs : 0 ≤ s ∧ s < B 3 3) (hhl : hh < (B 3 2).toNat) : AC0 G d m_X11_findsBeds [.ref 112, I s, I hh] M N (CN (fun M' N' => N' = N ∧ Qk M M' ∧ M' 112 65 = (slF B s hh ((B 3 1).toNat ^ (B 3 4).toNat)).1 ∧ (0 < (slF B s hh ((B 3 1).toNat ^ (B 3 4).toNat)).1 → ∀ q, q < (B 3 4).toNat → M' 155 q = g4 (slF B s hh ((B 3 1).toNat ^ (B 3 4).toNat)).2 q))) := by
  obtain ⟨hB, hT0, hP, hW, hb6⟩ := id hN
  obtain ⟨h0, h1, h2, h3, h4, h5, h6, h11, h12, h13, h15, h17, h18, hbg, hc, hw, hv, hp, he, ht1, ht0⟩ := id hB
  have hto := ht1 (told_of hB (by omega))
  have hpo : ∀ n, n ≤ 7 → (B 3 1).toNat ^ n ≤ 4 ^ 7 := fun n hn => Nat.le_trans (Nat.pow_le_pow_left (by omega) n) (Nat.pow_le_pow_right (by omega) hn)
  have h47 : (4 : Nat) ^ 7 = 16384 := by decide
  have hpoA := hpo (B 3 4).toNat (by omega)
  have hmx : max 1 (B 3 1) = B 3 1 := by omega
  refine AC.of (L0 := [_, _, _, none, none, none, none, none, none]) pn_X11 (Nat.le_of_ble_eq_true rfl) rfl ?_
  refine st_aload_n dX11_findsBeds_0 rfl ?_
  refine c_V0v (d' := d - 1) dX11_findsBeds_1 l_X11_485 k_X11_keepsAll i_X11_keepsAll (Or.inl ⟨_, _, _, _, _, (by first | with_reducible assumption | rfl), by rfl⟩) (by omega) (Nat.le_of_ble_eq_true rfl) (C_keepsAll (by omega)) (fun M1 N1 hx => ?_)
  obtain ⟨rfl, hF⟩ := hx
  have hN1 := hN.exc hF.1 (by decide)
  have hTe : ∀ M2, Exc bdX M1 M2 → RT B M2 := fun M2 hE2 => hN1.2.1.exc hE2 (fun j _ _ => by rw [hE2 113 (by decide)]) (by decide)
  refine st_aload_n dX11_findsBeds_4 rfl ?_
  refine st_iload_n dX11_findsBeds_5 rfl ?_
  refine c_V1v (d' := d - 1) dX11_findsBeds_6 l_X11_393 k_X11_laysVoices i_X11_laysVoices (Or.inl ⟨_, _, _, _, _, (by first | with_reducible assumption | rfl), by rfl⟩) (by omega) (Nat.le_of_ble_eq_true rfl) (C_laysVoices hB hN1.2.1 hhl) (fun M2 N2 hx => ?_)
  obtain ⟨rfl, hE2, hv2, -⟩ := hx
  have hv2' : ∀ q, q < (B 3 4).toNat → M2 143 q = toldV B 3 hh 0 q := by
    intro q hq
    rw [hv2 q hq]
    have ho : hourOf (B 3 2) (hh : Int) = (hh : Int) := by
      unfold hourOf
      rw [if_pos (by omega), Int.emod_eq_of_lt (by omega) (by omega)]
    unfold toldV
    rw [ho]
    simp
  refine st_aload_n dX11_findsBeds_9 rfl ?_
  refine st_getfr dX11_findsBeds_10 f_X11_9 (by first | with_reducible assumption | rfl) (by rfl) ?_
  refine st_iconst dX11_findsBeds_13 ?_
  refine st_ialdK (k' := 3) dX11_findsBeds_14 (by first | with_reducible assumption | rfl) rfl (by omega) (hn := by first | decide | omega) ?_
  rw [(hTe M2 (hE2.sub (by decide))).1.2.2.2.1, show B 3 4 = (((B 3 4).toNat : Nat) : Int) by omega]
  refine st_istore_n (L' := [_, _, _, _, _, _, _, _, _]) dX11_findsBeds_15 (by decide) rfl rfl ?_
  refine st_iconst dX11_findsBeds_16 ?_
  refine st_istore (L' := [_, _, _, _, _, _, _, _, _]) dX11_findsBeds_17 (by decide) rfl rfl ?_
  refine st_iconst dX11_findsBeds_19 ?_
  refine st_istore (L' := [_, _, _, _, _, _, _, _, _]) dX11_findsBeds_20 (by decide) rfl rfl ?_
  -- how many ways, and all on that storey
  have l1 : ∀ (m k : Nat) (M3 : q_Mem), k + m = (B 3 4).toNat → Exc [116] M2 M3 → (∀ q, q < k → M3 116 q = s) → (∀ (M4 : q_Mem) (l5 : Option Value), Exc [116] M2 M4 → (∀ q, q < (B 3 4).toNat → M4 116 q = s) → AW0 G d m_X11_findsBeds 53 [some (.ref 112), some (I s), some (I hh), some (I (B 3 4).toNat), some (I ((B 3 1).toNat ^ (B 3 4).toNat : Nat)), l5, none, none, none] [] M4 N2 (CN (fun M' N' => N' = N2 ∧ Qk M M' ∧ M' 112 65 = (slF B s hh ((B 3 1).toNat ^ (B 3 4).toNat)).1 ∧ (0 < (slF B s hh ((B 3 1).toNat ^ (B 3 4).toNat)).1 → ∀ q, q < (B 3 4).toNat → M' 155 q = g4 (slF B s hh ((B 3 1).toNat ^ (B 3 4).toNat)).2 q)))) →
      AW0 G d m_X11_findsBeds 22 [some (.ref 112), some (I s), some (I hh), some (I (B 3 4).toNat), some (I ((B 3 1).toNat ^ k : Nat)), some (I k), none, none, none] [] M3 N2 (CN (fun M' N' => N' = N2 ∧ Qk M M' ∧ M' 112 65 = (slF B s hh ((B 3 1).toNat ^ (B 3 4).toNat)).1 ∧ (0 < (slF B s hh ((B 3 1).toNat ^ (B 3 4).toNat)).1 → ∀ q, q < (B 3 4).toNat → M' 155 q = g4 (slF B s hh ((B 3 1).toNat ^ (B 3 4).toNat)).2 q))) := by
    intro m
    induction m with
    | zero =>
      intro k M3 hk hE hst kk
      have hkn : k = (B 3 4).toNat := by omega
      subst hkn
      refine st_iload dX11_findsBeds_22 rfl ?_
      refine st_iload_n dX11_findsBeds_24 rfl ?_
      refine st_icmp_ge (tgt := 53) dX11_findsBeds_25 (by omega) (by omega) rfl (fun h => ?_) (fun h => ?_)
      · skip
        exact kk M3 _ hE hst
      · skip
        omega
    | succ m ih =>
      intro k M3 hk hE hst kk
      have e3 := (hTe M3 ((hE2.sub (by decide)).tr (hE.sub (by decide)))).1.1
      refine st_iload dX11_findsBeds_22 rfl ?_
      refine st_iload_n dX11_findsBeds_24 rfl ?_
      refine st_icmp_ge (tgt := 53) dX11_findsBeds_25 (by omega) (by omega) rfl (fun h => ?_) (fun h => ?_)
      · skip
        omega
      · refine st_iload dX11_findsBeds_28 rfl ?_
        refine st_aload_n dX11_findsBeds_30 rfl ?_
        refine st_getfr dX11_findsBeds_31 f_X11_9 (by first | with_reducible assumption | rfl) (by rfl) ?_
        refine st_iconst dX11_findsBeds_34 ?_
        refine st_ialdK (k' := 0) dX11_findsBeds_35 (by first | with_reducible assumption | rfl) rfl (by omega) (hn := by first | decide | omega) ?_
        rw [e3]
        refine st_imul dX11_findsBeds_36 ?_
        rw [show (((B 3 1).toNat ^ k : Nat) : Int) * B 3 1 = (((B 3 1).toNat ^ (k + 1) : Nat) : Int) by rw [Nat.pow_succ, Int.natCast_mul, Int.toNat_of_nonneg h1.1]]
        refine st_istore (L' := [_, _, _, _, _, _, _, _, _]) dX11_findsBeds_37 (by decide) rfl rfl ?_
        refine st_aload_n dX11_findsBeds_39 rfl ?_
        refine st_getfr dX11_findsBeds_40 f_X11_19 (by first | with_reducible assumption | rfl) (by rfl) ?_
        refine st_iload dX11_findsBeds_43 rfl ?_
        refine st_iload_n dX11_findsBeds_45 rfl ?_
        first | refine st_iastK (k' := _) dX11_findsBeds_46 (by first | with_reducible assumption | rfl) rfl (by omega) (hn := by first | decide | omega) ?_ | refine st_iast dX11_findsBeds_46 (by first | with_reducible assumption | rfl) (by omega) (by omega) (hn := by first | decide | omega) ?_
        refine st_iinc (L' := [_, _, _, _, _, _, _, _, _]) dX11_findsBeds_47 rfl (by decide) rfl rfl ?_
        refine st_goto (tgt := 22) dX11_findsBeds_50 rfl ?_
        refine AW.to (ih (k + 1) (q_up M3 116 k s) (by omega) (hE.tr (Exc.up (by decide))) (fun q hq => ?_) kk) (h2 := by simp)
        by_cases e : q = k
        · rw [e]; simp [q_up]
        · rw [← hst q (by omega)]; simp [q_up, e]
  refine AW.to (l1 (B 3 4).toNat 0 M2 (Nat.zero_add _) Exc.rf (fun q hq => absurd hq (by omega)) (fun M3 l5 hE3 hst3 => ?_)) (h2 := by simp)
  refine st_aload_n dX11_findsBeds_53 rfl ?_
  refine st_iconst dX11_findsBeds_54 ?_
  refine st_putfi dX11_findsBeds_55 w_X11_562 (by first | with_reducible assumption | rfl) (by rfl) rfl rfl ?_
  refine st_iconst dX11_findsBeds_58 ?_
  refine st_istore (L' := [_, _, _, _, _, _, _, _, _]) dX11_findsBeds_59 (by decide) rfl rfl ?_
  have hI0 : BdI B M1 (q_up M3 112 65 0) s hh 0 := by
    refine ⟨((hE2.sub (by decide)).tr (hE3.sub (by decide))).tr (Exc.up (by decide)), fun j hj => ?_, fun q hq => by rw [q_up_ne (by decide)]; exact hst3 q hq, fun q hq => by rw [q_up_ne (by decide), hE3 143 (by decide)]; exact hv2' q hq, by simp [q_up, slF], fun z => absurd z (by simp [slF])⟩
    rw [show q_up M3 112 65 0 112 j = M3 112 j by simp [q_up, hj], hE3 112 (by decide), hE2 112 (by decide)]
  generalize q_up M3 112 65 0 = M4 at hI0
  have outl : ∀ (m k : Nat) (M5 : q_Mem) (l6 l7 l8 : Option Value), k + m = (B 3 1).toNat ^ (B 3 4).toNat → BdI B M1 M5 s hh k → AW0 G d m_X11_findsBeds 61 [some (.ref 112), some (I s), some (I hh), some (I (B 3 4).toNat), some (I ((B 3 1).toNat ^ (B 3 4).toNat : Nat)), some (I k), l6, l7, l8] [] M5 N2 (CN (fun M' N' => N' = N2 ∧ Qk M M' ∧ M' 112 65 = (slF B s hh ((B 3 1).toNat ^ (B 3 4).toNat)).1 ∧ (0 < (slF B s hh ((B 3 1).toNat ^ (B 3 4).toNat)).1 → ∀ q, q < (B 3 4).toNat → M' 155 q = g4 (slF B s hh ((B 3 1).toNat ^ (B 3 4).toNat)).2 q))) := by
    intro m
    induction m with
    | zero =>
      intro k M5 l6 l7 l8 hk hI
      have hkn : k = (B 3 1).toNat ^ (B 3 4).toNat := by omega
      obtain ⟨i1, i2, i3, i4, i5, i6⟩ := hI
      refine st_iload dX11_findsBeds_61 rfl ?_
      refine st_iload dX11_findsBeds_63 rfl ?_
      refine st_icmp_ge (tgt := 207) dX11_findsBeds_65 (by omega) (by omega) rfl (fun h => ?_) (fun h => ?_)
      · refine st_aload_n dX11_findsBeds_207 rfl ?_
        refine c_V0v (d' := d - 1) dX11_findsBeds_208 l_X11_488 k_X11_laysBack i_X11_laysBack (Or.inl ⟨_, _, _, _, _, (by first | with_reducible assumption | rfl), by rfl⟩) (by omega) (Nat.le_of_ble_eq_true rfl) (C_laysBack (by omega)) (fun M6 N6 hx => ?_)
        obtain ⟨rfl, hb⟩ := hx
        refine r_v dX11_findsBeds_211 rfl ⟨rfl, hF.back i1 hb (by decide) (by decide) (fun j hj => ?_), ?_, ?_⟩
        · simp only [List.mem_cons, List.not_mem_nil, or_false] at hj
          exact i2 j (by omega)
        · rw [hb.2.2.1 65 (by decide) (by decide) (by decide), i5, hkn]
        · rw [hb.exc 155 (by decide), ← hkn]
          exact i6
      · skip
        omega
    | succ m ih =>
      intro k M5 l6 l7 l8 hk hI
      obtain ⟨i1, i2, i3, i4, i5, i6⟩ := hI
      have hsl := slF_rng h1 h4 s hh k
      have hrr := rmF_rng (h := B 3 1) (n := (B 3 4).toNat) (rest := k) (acc := 0) (by omega) (by omega) (by omega) (by omega)
      refine st_iload dX11_findsBeds_61 rfl ?_
      refine st_iload dX11_findsBeds_63 rfl ?_
      refine st_icmp_ge (tgt := 207) dX11_findsBeds_65 (by omega) (by omega) rfl (fun h => ?_) (fun h => ?_)
      · skip
        omega
      · refine st_iload dX11_findsBeds_68 rfl ?_
        refine st_istore (L' := [_, _, _, _, _, _, _, _, _]) dX11_findsBeds_70 (by decide) rfl rfl ?_
        refine st_iload_n dX11_findsBeds_72 rfl ?_
        refine st_iconst dX11_findsBeds_73 ?_
        refine st_isub dX11_findsBeds_74 ?_
        refine st_istore (L' := [_, _, _, _, _, _, _, _, _]) dX11_findsBeds_75 (by decide) rfl rfl ?_
        -- the rooms of this way
        have dec : ∀ (n : Nat) (rest acc : Int) (M6 : q_Mem), n ≤ (B 3 4).toNat → 0 ≤ rest ∧ rest < 2147483648 → (0 ≤ acc ∧ acc < 1048576) → rmF (B 3 1) n rest acc = rmF (B 3 1) (B 3 4).toNat k 0 → Exc [115] M5 M6 → (∀ q, n ≤ q → q < (B 3 4).toNat → M6 115 q = g4 acc q) → (∀ (M7 : q_Mem) (x6 : Int) (l7 : Option Value), Exc [115] M5 M7 → (∀ q, q < (B 3 4).toNat → M7 115 q = g4 (rmF (B 3 1) (B 3 4).toNat k 0) q) → AW0 G d m_X11_findsBeds 115 [some (.ref 112), some (I s), some (I hh), some (I (B 3 4).toNat), some (I ((B 3 1).toNat ^ (B 3 4).toNat : Nat)), some (I k), some (I x6), l7, l8] [] M7 N2 (CN (fun M' N' => N' = N2 ∧ Qk M M' ∧ M' 112 65 = (slF B s hh ((B 3 1).toNat ^ (B 3 4).toNat)).1 ∧ (0 < (slF B s hh ((B 3 1).toNat ^ (B 3 4).toNat)).1 → ∀ q, q < (B 3 4).toNat → M' 155 q = g4 (slF B s hh ((B 3 1).toNat ^ (B 3 4).toNat)).2 q)))) →
            AW0 G d m_X11_findsBeds 77 [some (.ref 112), some (I s), some (I hh), some (I (B 3 4).toNat), some (I ((B 3 1).toNat ^ (B 3 4).toNat : Nat)), some (I k), some (I rest), some (I ((n : Int) - 1)), l8] [] M6 N2 (CN (fun M' N' => N' = N2 ∧ Qk M M' ∧ M' 112 65 = (slF B s hh ((B 3 1).toNat ^ (B 3 4).toNat)).1 ∧ (0 < (slF B s hh ((B 3 1).toNat ^ (B 3 4).toNat)).1 → ∀ q, q < (B 3 4).toNat → M' 155 q = g4 (slF B s hh ((B 3 1).toNat ^ (B 3 4).toNat)).2 q))) := by
          intro n
          induction n with
          | zero =>
            intro rest acc M6 hn hrest hacc hrm hE6 hro kk
            refine st_iload dX11_findsBeds_77 rfl ?_
            refine st_if_lt (tgt := 115) dX11_findsBeds_79 (by omega) rfl (fun h9 => ?_) (fun h9 => ?_)
            · skip
              exact kk M6 rest _ hE6 (fun q hq => by rw [← hrm]; exact hro q (by omega) hq)
            · skip
              omega
          | succ n ihn =>
            intro rest acc M6 hn hrest hacc hrm hE6 hro kk
            have hE1 : Exc bdX M1 M6 := i1.tr (hE6.sub (by decide))
            have e3 := (hTe M6 hE1).1.1
            have hE7 : ∀ z, Exc bdX M1 (q_up M6 115 n z) := fun z => hE1.tr (Exc.up (by decide))
            have e3b := fun z => (hTe _ (hE7 z)).1.1
            have hmr := Int.emod_lt_of_pos rest (show 0 < B 3 1 by omega)
            have hmn := Int.emod_nonneg rest (show B 3 1 ≠ 0 by omega)
            have hdn : 0 ≤ rest / B 3 1 := Int.ediv_nonneg hrest.1 (by omega)
            have hdl : rest / B 3 1 ≤ rest := Int.ediv_le_self _ hrest.1
            refine st_iload dX11_findsBeds_77 rfl ?_
            refine st_if_lt (tgt := 115) dX11_findsBeds_79 (by omega) rfl (fun h9 => ?_) (fun h9 => ?_)
            · skip
              omega
            · refine st_aload_n dX11_findsBeds_82 rfl ?_
              refine st_getfr dX11_findsBeds_83 f_X11_16 (by first | with_reducible assumption | rfl) (by rfl) ?_
              refine st_iload dX11_findsBeds_86 rfl ?_
              refine st_iload dX11_findsBeds_88 rfl ?_
              refine st_aload_n dX11_findsBeds_90 rfl ?_
              refine st_getfr dX11_findsBeds_91 f_X11_9 (by first | with_reducible assumption | rfl) (by rfl) ?_
              refine st_iconst dX11_findsBeds_94 ?_
              refine st_ialdK (k' := 0) dX11_findsBeds_95 (by first | with_reducible assumption | rfl) rfl (by omega) (hn := by first | decide | omega) ?_
              rw [e3]
              refine st_iremK dX11_findsBeds_96 (by omega) (by omega) ?_
              rw [show ((n + 1 : Nat) : Int) - 1 = (n : Int) by omega]
              first | refine st_iastK (k' := _) dX11_findsBeds_97 (by first | with_reducible assumption | rfl) rfl (by omega) (hn := by first | decide | omega) ?_ | refine st_iast dX11_findsBeds_97 (by first | with_reducible assumption | rfl) (by omega) (by omega) (hn := by first | decide | omega) ?_
              refine st_iload dX11_findsBeds_98 rfl ?_
              refine st_aload_n dX11_findsBeds_100 rfl ?_
              refine st_getfr dX11_findsBeds_101 f_X11_9 (by first | with_reducible assumption | rfl) (by rfl) ?_
              refine st_iconst dX11_findsBeds_104 ?_
              refine st_ialdK (k' := 0) dX11_findsBeds_105 (by first | with_reducible assumption | rfl) rfl (by omega) (hn := by first | decide | omega) ?_
              rw [e3b]
              refine st_idivK dX11_findsBeds_106 (by omega) (by omega) ?_
              refine st_istore (L' := [_, _, _, _, _, _, _, _, _]) dX11_findsBeds_107 (by decide) rfl rfl ?_
              refine st_iinc (L' := [_, _, _, _, _, _, _, _, _]) dX11_findsBeds_109 rfl (by decide) rfl rfl ?_
              refine st_goto (tgt := 77) dX11_findsBeds_112 rfl ?_
              refine AW.to (ihn (rest / B 3 1) (w4 acc n (rest % B 3 1)) (q_up M6 115 n (rest % B 3 1)) (by omega) (by omega) (w4_lt hacc (by omega) (by omega)) hrm (hE6.tr (Exc.up (by decide))) (fun q hq hq2 => ?_) kk) (h2 := by rw [show (n : Int) + -1 = (n : Int) - 1 by omega])
              rw [g4_w4 hacc (by omega) (by omega)]
              by_cases e : q = n
              · rw [e]; simp [q_up]
              · rw [if_neg e, ← hro q (by omega) hq2]; simp [q_up, e]
        refine AW.to (dec (B 3 4).toNat k 0 M5 (Nat.le_refl _) (by omega) (by omega) rfl Exc.rf (fun q hq hq2 => absurd hq (by omega)) (fun M7 x6 l7 hE7 hro7 => ?_))
        have hE17 : Exc bdX M1 M7 := i1.tr (hE7.sub (by decide))
        have hT7 := hTe M7 hE17
        have hst7 : ∀ q, q < (B 3 4).toNat → M7 116 q = s := fun q hq => by rw [hE7 116 (by decide)]; exact i3 q hq
        have hv7 : ∀ q, q < (B 3 4).toNat → M7 143 q = toldV B 3 hh 0 q := fun q hq => by rw [hE7 143 (by decide)]; exact i4 q hq
        have hw7 : M7 112 65 = (slF B s hh k).1 := by rw [hE7 112 (by decide)]; exact i5
        have hslk : slF B s hh (k + 1) = if noL B (toldV B 3 hh 0) s (rmF (B 3 1) (B 3 4).toNat k 0) then ((slF B s hh k).1 + 1, if (slF B s hh k).1 = 0 then rmF (B 3 1) (B 3 4).toNat k 0 else (slF B s hh k).2) else slF B s hh k := by
          show (if noL B (toldV B 3 hh 0) s (rmF (max 1 (B 3 1)) (B 3 4).toNat k 0) then _ else _) = _
          rw [hmx]
        generalize hrm : rmF (B 3 1) (B 3 4).toNat k 0 = rm at *
        refine st_iconst dX11_findsBeds_115 ?_
        refine st_istore (L' := [_, _, _, _, _, _, _, _, _]) dX11_findsBeds_116 (by decide) rfl rfl ?_
        refine st_iconst dX11_findsBeds_118 ?_
        refine st_istore (L' := [_, _, _, _, _, _, _, _, _]) dX11_findsBeds_119 (by decide) rfl rfl ?_
        -- whether all stay
        have al : ∀ (m o : Nat) (x : Int), o + m = (B 3 4).toNat → (x = 1 ∧ ∀ q, q < o → stof (B 4) (hearP (B 3 4).toNat (B 3 6) (g8 0) (g4 rm) (toldV B 3 hh 0) q) ((B 3 3).toNat - 1) 0 = s) ∨ (x = 0 ∧ ¬ noL B (toldV B 3 hh 0) s rm) → (∀ (x : Int) (l8 : Option Value), (x = if noL B (toldV B 3 hh 0) s rm then 1 else 0) → AW0 G d m_X11_findsBeds 159 [some (.ref 112), some (I s), some (I hh), some (I (B 3 4).toNat), some (I ((B 3 1).toNat ^ (B 3 4).toNat : Nat)), some (I k), some (I x6), some (I x), l8] [] M7 N2 (CN (fun M' N' => N' = N2 ∧ Qk M M' ∧ M' 112 65 = (slF B s hh ((B 3 1).toNat ^ (B 3 4).toNat)).1 ∧ (0 < (slF B s hh ((B 3 1).toNat ^ (B 3 4).toNat)).1 → ∀ q, q < (B 3 4).toNat → M' 155 q = g4 (slF B s hh ((B 3 1).toNat ^ (B 3 4).toNat)).2 q)))) →
            AW0 G d m_X11_findsBeds 121 [some (.ref 112), some (I s), some (I hh), some (I (B 3 4).toNat), some (I ((B 3 1).toNat ^ (B 3 4).toNat : Nat)), some (I k), some (I x6), some (I x), some (I o)] [] M7 N2 (CN (fun M' N' => N' = N2 ∧ Qk M M' ∧ M' 112 65 = (slF B s hh ((B 3 1).toNat ^ (B 3 4).toNat)).1 ∧ (0 < (slF B s hh ((B 3 1).toNat ^ (B 3 4).toNat)).1 → ∀ q, q < (B 3 4).toNat → M' 155 q = g4 (slF B s hh ((B 3 1).toNat ^ (B 3 4).toNat)).2 q))) := by
          intro m
          induction m with
          | zero =>
            intro o x ho hx kk
            refine st_iload dX11_findsBeds_121 rfl ?_
            refine st_iload_n dX11_findsBeds_123 rfl ?_
            refine st_icmp_ge (tgt := 159) dX11_findsBeds_124 (by omega) (by omega) rfl (fun h9 => ?_) (fun h9 => ?_)
            · skip
              refine kk x _ ?_
              rcases hx with ⟨rfl, hx⟩ | ⟨rfl, hx⟩
              · rw [if_pos (fun q hq => hx q (by omega))]
              · rw [if_neg hx]
            · skip
              omega
          | succ m iha =>
            intro o x ho hx kk
            refine st_iload dX11_findsBeds_121 rfl ?_
            refine st_iload_n dX11_findsBeds_123 rfl ?_
            refine st_icmp_ge (tgt := 159) dX11_findsBeds_124 (by omega) (by omega) rfl (fun h9 => ?_) (fun h9 => ?_)
            · skip
              omega
            · refine st_iload dX11_findsBeds_127 rfl ?_
              rcases hx with ⟨rfl, hx⟩ | ⟨rfl, hx⟩
              · refine st_if_eq (tgt := 159) dX11_findsBeds_129 (by omega) rfl (fun h10 => ?_) (fun h10 => ?_)
                · skip
                  omega
                · refine st_aload_n dX11_findsBeds_132 rfl ?_
                  refine st_aload_n dX11_findsBeds_133 rfl ?_
                  refine st_iload dX11_findsBeds_134 rfl ?_
                  have vr : Sok M7 143 (B 3 4).toNat := fun q hq => by rw [hv7 q hq]; exact nowV_rng hB _ _ q
                  have hr3 := hearP_rng (n := (B 3 4).toNat) (df := B 3 6) (st := fun _ => s) (rm := g4 rm) (v := M7 143) (p := o) (by omega) (by omega) vr
                  refine c_V1p (d' := d - 1) dX11_findsBeds_136 l_X11_399 k_X11_heardOf i_X11_heardOf (Or.inl ⟨_, _, _, _, _, (by first | with_reducible assumption | rfl), by rfl⟩) (by omega) (Nat.le_of_ble_eq_true rfl) (C_rHeardOf (st := fun _ => s) (rm := g4 rm) (by omega) hB hT7 hst7 hro7 (fun _ => by omega) (g4_lt _) vr (by omega)) ?_
                  refine c_V1p (d' := d - 1) dX11_findsBeds_139 l_X11_402 k_X11_storeyOf i_X11_storeyOf (Or.inl ⟨_, _, _, _, _, (by first | with_reducible assumption | rfl), by rfl⟩) (by omega) (Nat.le_of_ble_eq_true rfl) (C_rStoreyOf (by omega) hB hT7 (by unfold i32; omega)) ?_
                  have eh : hearP (B 3 4).toNat (B 3 6) (fun _ => s) (g4 rm) (M7 143) o = hearP (B 3 4).toNat (B 3 6) (g8 0) (g4 rm) (toldV B 3 hh 0) o := by
                    rw [hearP_congr (v' := toldV B 3 hh 0) (st' := fun _ => s) (rm' := g4 rm) (show o < (B 3 4).toNat by omega) (fun _ _ => rfl) (fun _ _ => rfl) hv7]
                    exact hearP_all (fun _ _ => rfl) (fun _ _ => by rw [g8_zero, g8_zero])
                  rw [eh]
                  have hsr := stof_rng (B 4) (hearP (B 3 4).toNat (B 3 6) (g8 0) (g4 rm) (toldV B 3 hh 0) o) ((B 3 3).toNat - 1) 0
                  refine st_iload_n dX11_findsBeds_142 rfl ?_
                  refine st_icmp_ne (tgt := 150) dX11_findsBeds_143 (by omega) (by omega) rfl (fun h11 => ?_) (fun h11 => ?_)
                  · refine st_iconst dX11_findsBeds_150 ?_
                    refine st_istore (L' := [_, _, _, _, _, _, _, _, _]) dX11_findsBeds_151 (by decide) rfl rfl ?_
                    refine st_iinc (L' := [_, _, _, _, _, _, _, _, _]) dX11_findsBeds_153 rfl (by decide) rfl rfl ?_
                    refine st_goto (tgt := 121) dX11_findsBeds_156 rfl ?_
                    exact AW.to (iha (o + 1) 0 (by omega) (Or.inr ⟨rfl, fun z => h11 (z o (by omega))⟩) kk) (h2 := by simp)
                  · refine st_iconst dX11_findsBeds_146 ?_
                    refine st_goto (tgt := 151) dX11_findsBeds_147 rfl ?_
                    refine st_istore (L' := [_, _, _, _, _, _, _, _, _]) dX11_findsBeds_151 (by decide) rfl rfl ?_
                    refine st_iinc (L' := [_, _, _, _, _, _, _, _, _]) dX11_findsBeds_153 rfl (by decide) rfl rfl ?_
                    refine st_goto (tgt := 121) dX11_findsBeds_156 rfl ?_
                    refine AW.to (iha (o + 1) 1 (by omega) (Or.inl ⟨rfl, fun q hq => ?_⟩) kk) (h2 := by simp)
                    by_cases e : q = o
                    · rw [e]; exact h11
                    · exact hx q (by omega)
              · skip
                refine st_if_eq (tgt := 159) dX11_findsBeds_129 (by omega) rfl (fun h10 => ?_) (fun h10 => ?_)
                · skip
                  exact kk 0 _ (by rw [if_neg hx])
                · skip
                  omega
        refine AW.to (al (B 3 4).toNat 0 1 (Nat.zero_add _) (Or.inl ⟨rfl, fun q hq => absurd hq (by omega)⟩) (fun x l8 hx => ?_))
        -- counting it
        have cn : ∀ (M8 : q_Mem) (l8 : Option Value), Exc bdX M1 M8 → (∀ j, ¬ j = 65 → M8 112 j = M1 112 j) → (∀ q, q < (B 3 4).toNat → M8 116 q = s) → (∀ q, q < (B 3 4).toNat → M8 143 q = toldV B 3 hh 0 q) → M8 112 65 = (slF B s hh k).1 → (0 < (slF B s hh (k + 1)).1 → ∀ q, q < (B 3 4).toNat → M8 155 q = g4 (slF B s hh (k + 1)).2 q) → AW0 G d m_X11_findsBeds 182 [some (.ref 112), some (I s), some (I hh), some (I (B 3 4).toNat), some (I ((B 3 1).toNat ^ (B 3 4).toNat : Nat)), some (I k), some (I x6), some (I x), l8] [] M8 N2 (CN (fun M' N' => N' = N2 ∧ Qk M M' ∧ M' 112 65 = (slF B s hh ((B 3 1).toNat ^ (B 3 4).toNat)).1 ∧ (0 < (slF B s hh ((B 3 1).toNat ^ (B 3 4).toNat)).1 → ∀ q, q < (B 3 4).toNat → M' 155 q = g4 (slF B s hh ((B 3 1).toNat ^ (B 3 4).toNat)).2 q))) := by
          intro M8 l8 c1 c2 c3 c4 c5 c6
          have fin : ∀ (z : Int), z = (slF B s hh (k + 1)).1 → BdI B M1 (q_up M8 112 65 z) s hh (k + 1) := fun z hz => ⟨c1.tr (Exc.up (by decide)), fun j hj => by rw [← c2 j hj]; simp [q_up, hj], fun q hq => by rw [q_up_ne (by decide)]; exact c3 q hq, fun q hq => by rw [q_up_ne (by decide)]; exact c4 q hq, by rw [hz]; simp [q_up], fun z q hq => by rw [q_up_ne (by decide)]; exact c6 z q hq⟩
          refine st_aload_n dX11_findsBeds_182 rfl ?_
          refine st_dup dX11_findsBeds_183 rfl ?_
          refine st_getfi dX11_findsBeds_184 f_X11_562 (by first | with_reducible assumption | rfl) (by rfl) ?_
          refine st_iload dX11_findsBeds_187 rfl ?_
          rw [c5]
          by_cases cx : noL B (toldV B 3 hh 0) s rm
          · rw [if_pos cx] at hx hslk
            subst hx
            refine st_if_eq (tgt := 196) dX11_findsBeds_189 (by omega) rfl (fun h12 => ?_) (fun h12 => ?_)
            · skip
              omega
            · refine st_iconst dX11_findsBeds_192 ?_
              refine st_goto (tgt := 197) dX11_findsBeds_193 rfl ?_
              refine st_iadd dX11_findsBeds_197 ?_
              refine st_putfi dX11_findsBeds_198 w_X11_562 (by first | with_reducible assumption | rfl) (by rfl) rfl rfl ?_
              refine st_iinc (L' := [_, _, _, _, _, _, _, _, _]) dX11_findsBeds_201 rfl (by decide) rfl rfl ?_
              refine st_goto (tgt := 61) dX11_findsBeds_204 rfl ?_
              exact AW.to (ih (k + 1) (q_up M8 112 65 ((slF B s hh k).1 + 1)) _ _ _ (by omega) (fin _ (by rw [hslk]))) (h2 := by simp; exact ⟨rfl, rfl, rfl⟩)
          · rw [if_neg cx] at hx hslk
            subst hx
            refine st_if_eq (tgt := 196) dX11_findsBeds_189 (by omega) rfl (fun h12 => ?_) (fun h12 => ?_)
            · refine st_iconst dX11_findsBeds_196 ?_
              refine st_iadd dX11_findsBeds_197 ?_
              refine st_putfi dX11_findsBeds_198 w_X11_562 (by first | with_reducible assumption | rfl) (by rfl) rfl rfl ?_
              refine st_iinc (L' := [_, _, _, _, _, _, _, _, _]) dX11_findsBeds_201 rfl (by decide) rfl rfl ?_
              refine st_goto (tgt := 61) dX11_findsBeds_204 rfl ?_
              exact AW.to (ih (k + 1) (q_up M8 112 65 ((slF B s hh k).1 + 0)) _ _ _ (by omega) (fin _ (by rw [hslk]; omega))) (h2 := by simp; exact ⟨rfl, rfl, rfl⟩)
            · skip
              omega
        refine st_iload dX11_findsBeds_159 rfl ?_
        have g155 : ∀ q, M7 155 q = M5 155 q := fun q => by rw [hE7 155 (by decide)]
        by_cases cx : noL B (toldV B 3 hh 0) s rm
        · have hx1 := hx
          rw [if_pos cx] at hx1 hslk
          subst hx1
          refine st_if_eq (tgt := 182) dX11_findsBeds_161 (by omega) rfl (fun h12 => ?_) (fun h12 => ?_)
          · skip
            omega
          · refine st_aload_n dX11_findsBeds_164 rfl ?_
            refine st_getfi dX11_findsBeds_165 f_X11_562 (by first | with_reducible assumption | rfl) (by rfl) ?_
            rw [hw7]
            refine st_if_ne (tgt := 182) dX11_findsBeds_168 (by omega) rfl (fun h13 => ?_) (fun h13 => ?_)
            · skip
              refine cn M7 _ hE17 (fun j hj => by rw [hE7 112 (by decide)]; exact i2 j hj) hst7 hv7 hw7 (fun _ q hq => ?_)
              rw [g155, hslk, if_neg h13]
              exact i6 (by omega) q hq
            · refine st_aload_n dX11_findsBeds_171 rfl ?_
              refine st_getfr dX11_findsBeds_172 f_X11_16 (by first | with_reducible assumption | rfl) (by rfl) ?_
              refine st_aload_n dX11_findsBeds_175 rfl ?_
              refine st_getfr dX11_findsBeds_176 f_X11_143 (by first | with_reducible assumption | rfl) (by rfl) ?_
              refine c_S2v (d' := d - 1) dX11_findsBeds_179 l_X11_353 k_X11_copies s_X11_copies (by omega) (Nat.le_of_ble_eq_true rfl) (C_copies sh_115 sh_155 (by decide) (by decide) (by decide)) (fun M8 N8 hx => ?_)
              obtain ⟨rfl, rfl⟩ := hx
              refine cn (q_cp M7 115 155 0 0 7) _ (hE17.tr (fun a ha => ?_)) (fun j hj => ?_) (fun q hq => ?_) (fun q hq => ?_) ?_ (fun _ q hq => ?_)
              · simp only [List.mem_cons, List.not_mem_nil, or_false, not_or] at ha
                funext j
                simp [q_cp, ha]
              · rw [show q_cp M7 115 155 0 0 7 112 j = M7 112 j by simp [q_cp], hE7 112 (by decide)]; exact i2 j hj
              · rw [show q_cp M7 115 155 0 0 7 116 q = M7 116 q by simp [q_cp]]; exact hst7 q hq
              · rw [show q_cp M7 115 155 0 0 7 143 q = M7 143 q by simp [q_cp]]; exact hv7 q hq
              · rw [show q_cp M7 115 155 0 0 7 112 65 = M7 112 65 by simp [q_cp]]; exact hw7
              · rw [hslk, if_pos h13]
                show q_cp M7 115 155 0 0 7 155 q = g4 rm q
                rw [← hro7 q hq]
                simp [q_cp, show q < 7 by omega]
        · have hx1 := hx
          rw [if_neg cx] at hx1 hslk
          subst hx1
          refine st_if_eq (tgt := 182) dX11_findsBeds_161 (by omega) rfl (fun h12 => ?_) (fun h12 => ?_)
          · skip
            refine cn M7 _ hE17 (fun j hj => by rw [hE7 112 (by decide)]; exact i2 j hj) hst7 hv7 hw7 (fun z q hq => ?_)
            rw [hslk] at z
            rw [g155, hslk]
            exact i6 z q hq
          · skip
            omega
  exact AW.to (outl _ 0 M4 none none none (Nat.zero_add _) hI0)


/-! the system's Carrier: keeps a situation -/
theorem zi_mod (x : Int) : zi x = zi (((x % 4294967296).toNat : Nat) : Int) := by
  apply Int32.toBitVec.inj
  rw [z_bv]
  show BitVec.ofInt 32 x = _
  apply BitVec.eq_of_toNat_eq
  rw [BitVec.toNat_ofInt, BitVec.toNat_ofNat]
  show (x % 4294967296).toNat = (x % 4294967296).toNat % 4294967296
  omega
def hsh (w : Int) : Nat := ((w * -1640531535) % 4294967296).toNat / 2 ^ 21
theorem hsh_lt (w : Int) : hsh w < 2048 := by unfold hsh; omega
abbrev caT : Type := List (Int × Int × Int)
def cg (L : caT) (j : Nat) : Int × Int × Int := L.getD j (0, 0, 0)
abbrev inL (L : caT) (w : Int) : Prop := ∃ i, i < L.length ∧ (cg L i).1 = w
theorem cg_lt {L : caT} {e : Int × Int × Int} {j : Nat} (h : j < L.length) : cg (L ++ [e]) j = cg L j := by
  unfold cg
  rw [List.getD_eq_getElem?_getD, List.getElem?_append_left h, ← List.getD_eq_getElem?_getD]
theorem cg_eq {L : caT} {e : Int × Int × Int} : cg (L ++ [e]) L.length = e := by
  unfold cg
  rw [List.getD_eq_getElem?_getD, List.getElem?_append_right (Nat.le_refl _), show L.length - L.length = 0 by omega]
  rfl
theorem cnt_all {P : Nat → Prop} [hd : DecidablePred P] : ∀ {n : Nat}, (∀ q, q < n → P q) → cnt P n = n
  | 0, _ => rfl
  | n + 1, h => by
    rw [cnt_succ, cnt_all (fun q hq => h q (by omega)), if_pos (h n (by omega))]
    omega
theorem cnt_up {f g : Nat → Int} {s n : Nat} (hs : s < n) (h0 : f s = 0) (h1 : ¬ g s = 0) (h : ∀ j, ¬ j = s → g j = f j) : cnt (fun j => ¬ g j = 0) n = cnt (fun j => ¬ f j = 0) n + 1 := by
  unfold cnt
  rw [hsum_rm (f := fun q => if ¬ g q = 0 then 1 else 0) (g := fun q => if ¬ f q = 0 then 1 else 0) hs (fun q _ => by
    by_cases e : q = s
    · rw [e]; simp [h0]
    · simp only [if_neg e]; rw [h q e])]
  show _ + (if ¬ g s = 0 then 1 else 0) = _
  rw [if_pos h1]
/-- the rows of the Carrier hold this list, and the slots find it -/
def hC (M : q_Mem) (L : caT) : Prop := M 94 5 = (L.length : Nat) ∧ L.length ≤ 600 ∧ (∀ j, j < L.length → M 95 j = (cg L j).1 ∧ M 96 j = (cg L j).2.1 ∧ M 97 j = (cg L j).2.2) ∧ (∀ j, j < 2048 → 0 ≤ M 98 j ∧ M 98 j ≤ L.length) ∧ cnt (fun j => ¬ M 98 j = 0) 2048 = (L.length : Nat) ∧
  (∀ i, i < L.length → ∃ t, t < 2048 ∧ M 98 ((hsh (cg L i).1 + t) % 2048) = ((i + 1 : Nat) : Int) ∧ ∀ u, u < t → ¬ M 98 ((hsh (cg L i).1 + u) % 2048) = 0) ∧ ∀ i, i < L.length → 0 ≤ (cg L i).1 ∧ (cg L i).1 < 1073741824
theorem hC.exc {X : List Nat} {M M' : q_Mem} {L : caT} (h : hC M L) (hE : Exc X M M') (h94 : M' 94 5 = M 94 5) (h1 : 95 ∉ X) (h2 : 96 ∉ X) (h3 : 97 ∉ X) (h4 : 98 ∉ X) : hC M' L := by
  unfold hC at *
  rw [h94, hE 95 h1, hE 96 h2, hE 97 h3, hE 98 h4]
  exact h
abbrev caK : List Nat := [94, 95, 96, 97, 98]
theorem hC_ins {M M' : q_Mem} {L : caT} {w b f : Int} {k : Nat} (h : hC M L) (hw : 0 ≤ w ∧ w < 1073741824) (hl : L.length < 600) (h0 : M 98 ((hsh w + k) % 2048) = 0) (hk : k < 2048) (hu : ∀ u, u < k → ¬ M 98 ((hsh w + u) % 2048) = 0)
    (e94 : M' 94 5 = ((L.length + 1 : Nat) : Int)) (e95 : ∀ j, M' 95 j = if j = L.length then w else M 95 j) (e96 : ∀ j, M' 96 j = if j = L.length then b else M 96 j) (e97 : ∀ j, M' 97 j = if j = L.length then f else M 97 j) (e98 : ∀ j, M' 98 j = if j = (hsh w + k) % 2048 then ((L.length + 1 : Nat) : Int) else M 98 j) : hC M' (L ++ [(w, b, f)]) := by
  obtain ⟨a1, a2, a3, a4, a5, a6, a7⟩ := h
  have hlen : (L ++ [(w, b, f)]).length = L.length + 1 := by simp
  have nz : ∀ j, ¬ M 98 j = 0 → ¬ M' 98 j = 0 := by
    intro j hj
    rw [e98]
    split
    · omega
    · exact hj
  unfold hC
  rw [hlen]
  refine ⟨e94, by omega, fun j hj => ?_, fun j hj => ?_, ?_, fun i hi => ?_, fun i hi => ?_⟩
  · rw [e95, e96, e97]
    by_cases e : j = L.length
    · rw [if_pos e, if_pos e, if_pos e, e, cg_eq]
      exact ⟨rfl, rfl, rfl⟩
    · rw [if_neg e, if_neg e, if_neg e, cg_lt (by omega)]
      exact a3 j (by omega)
  · have := a4 j hj
    rw [e98]
    split <;> omega
  · rw [cnt_up (f := M 98) (s := (hsh w + k) % 2048) (by omega) h0 (by rw [e98, if_pos rfl]; omega) (fun j hj => by rw [e98, if_neg hj]), a5]
    omega
  · by_cases e : i = L.length
    · rw [e, cg_eq]
      exact ⟨k, hk, by rw [e98, if_pos rfl], fun u hu2 => nz _ (hu u hu2)⟩
    · rw [cg_lt (by omega)]
      obtain ⟨t, t1, t2, t3⟩ := a6 i (by omega)
      refine ⟨t, t1, ?_, fun u hu2 => nz _ (t3 u hu2)⟩
      rw [e98]
      split
      · next q => rw [q, h0] at t2; omega
      · exact t2
  · by_cases e : i = L.length
    · rw [e, cg_eq]; exact hw
    · rw [cg_lt (by omega)]
      exact a7 i (by omega)
def KeepR (M : q_Mem) (N : q_MemL) (L : caT) (w b f : Int) : Value → q_Mem → q_MemL → Prop := fun x M' N' => N' = N ∧ ((inL L w ∧ x = I 1 ∧ M' = M) ∨ (¬ inL L w ∧ 600 ≤ L.length ∧ x = I 0 ∧ M' = M) ∨ (¬ inL L w ∧ L.length < 600 ∧ x = I 1 ∧ Exc caK M M' ∧ hC M' (L ++ [(w, b, f)])))
theorem C_keep {G : q_G} {d : Nat} {M : q_Mem} {N : q_MemL} {L : caT} {w b f : Int} (hd : 1 ≤ d) (hL : hC M L) (hw : 0 ≤ w ∧ w < 1073741824) : AC0 G d m_X0_keep [.ref 94, I w, I b, I f] M N (CV (KeepR M N L w b f)) := by
  obtain ⟨a1, a2, a3, a4, a5, a6, a7⟩ := id hL
  have hh := hsh_lt w
  have ins : ∀ (k : Nat), k < 2048 → M 98 ((hsh w + k) % 2048) = 0 → (∀ u, u < k → ¬ M 98 ((hsh w + u) % 2048) = 0) → ¬ inL L w → AW0 G d m_X0_keep 72 [some (.ref 94), some (I w), some (I b), some (I f), some (I ((hsh w + k) % 2048 : Nat)), some (I k)] [] M N (CV (KeepR M N L w b f)) := by
    intro k hk h0 hu hn
    refine st_aload_n dX0_keep_72 rfl ?_
    refine st_getfi dX0_keep_73 f_X0_59 (by first | with_reducible assumption | rfl) (by rfl) ?_
    refine st_sipush dX0_keep_76 (by decide) ?_
    rw [a1]
    refine st_icmp_lt (tgt := 84) dX0_keep_79 (by omega) (by omega) rfl (fun h => ?_) (fun h => ?_)
    · refine st_aload_n dX0_keep_84 rfl ?_
      refine st_getfr dX0_keep_85 f_X0_11 (by first | with_reducible assumption | rfl) (by rfl) ?_
      refine st_aload_n dX0_keep_88 rfl ?_
      refine st_getfi dX0_keep_89 f_X0_59 (by first | with_reducible assumption | rfl) (by rfl) ?_
      refine st_iload_n dX0_keep_92 rfl ?_
      rw [a1]
      refine c_S3v (d' := d - 1) dX0_keep_93 l_X0_81 k_X10_put s_X10_put (by omega) (Nat.le_of_ble_eq_true rfl) (C_putI sh_95 (by decide) (by omega)) (fun M1 N1 hx => ?_)
      obtain ⟨r1, q1⟩ := hx
      rw [Int.toNat_natCast] at r1
      rw [q1]
      have f1 : M1 94 5 = (L.length : Nat) := by rw [r1, q_up_ne (by decide)]; exact a1
      refine st_aload_n dX0_keep_96 rfl ?_
      refine st_getfr dX0_keep_97 f_X0_15 (by first | with_reducible assumption | rfl) (by rfl) ?_
      refine st_aload_n dX0_keep_100 rfl ?_
      refine st_getfi dX0_keep_101 f_X0_59 (by first | with_reducible assumption | rfl) (by rfl) ?_
      refine st_iload_n dX0_keep_104 rfl ?_
      rw [f1]
      refine c_S3v (d' := d - 1) dX0_keep_105 l_X0_81 k_X10_put s_X10_put (by omega) (Nat.le_of_ble_eq_true rfl) (C_putI sh_96 (by decide) (by omega)) (fun M2 N2 hx => ?_)
      obtain ⟨r2, q2⟩ := hx
      rw [Int.toNat_natCast] at r2
      rw [q2]
      have f2 : M2 94 5 = (L.length : Nat) := by rw [r2, q_up_ne (by decide)]; exact f1
      refine st_aload_n dX0_keep_108 rfl ?_
      refine st_getfr dX0_keep_109 f_X0_18 (by first | with_reducible assumption | rfl) (by rfl) ?_
      refine st_aload_n dX0_keep_112 rfl ?_
      refine st_getfi dX0_keep_113 f_X0_59 (by first | with_reducible assumption | rfl) (by rfl) ?_
      refine st_iload_n dX0_keep_116 rfl ?_
      rw [f2]
      refine c_S3v (d' := d - 1) dX0_keep_117 l_X0_81 k_X10_put s_X10_put (by omega) (Nat.le_of_ble_eq_true rfl) (C_putI sh_97 (by decide) (by omega)) (fun M3 N3 hx => ?_)
      obtain ⟨r3, q3⟩ := hx
      rw [Int.toNat_natCast] at r3
      rw [q3]
      have f3 : M3 94 5 = (L.length : Nat) := by rw [r3, q_up_ne (by decide)]; exact f2
      refine st_aload_n dX0_keep_120 rfl ?_
      refine st_dup dX0_keep_121 rfl ?_
      refine st_getfi dX0_keep_122 f_X0_59 (by first | with_reducible assumption | rfl) (by rfl) ?_
      refine st_iconst dX0_keep_125 ?_
      refine st_iadd dX0_keep_126 ?_
      refine st_putfi dX0_keep_127 w_X0_59 (by first | with_reducible assumption | rfl) (by rfl) rfl rfl ?_
      refine st_aload_n dX0_keep_130 rfl ?_
      refine st_getfr dX0_keep_131 f_X0_21 (by first | with_reducible assumption | rfl) (by rfl) ?_
      refine st_iload dX0_keep_134 rfl ?_
      refine st_aload_n dX0_keep_136 rfl ?_
      refine st_getfi dX0_keep_137 f_X0_59 (by first | with_reducible assumption | rfl) (by rfl) ?_
      rw [f3]
      have f4 : q_up M3 94 5 ((L.length : Nat) + 1) 94 5 = ((L.length + 1 : Nat) : Int) := by simp [q_up]
      rw [f4]
      refine c_S3v (d' := d - 1) dX0_keep_140 l_X0_81 k_X10_put s_X10_put (by omega) (Nat.le_of_ble_eq_true rfl) (C_putI sh_98 (by decide) (by omega)) (fun M5 N5 hx => ?_)
      obtain ⟨r5, q5⟩ := hx
      rw [Int.toNat_natCast] at r5
      rw [q5]
      refine st_iconst dX0_keep_143 ?_
      have hE : Exc caK M M5 := by
        rw [r5, r3, r2, r1]
        exact ((((Exc.up (by decide)).tr (Exc.up (by decide))).tr (Exc.up (by decide))).tr (Exc.up (by decide))).tr (Exc.up (by decide))
      refine r_z dX0_keep_144 rfl (Or.inr rfl) ⟨rfl, Or.inr (Or.inr ⟨hn, by omega, rfl, hE, hC_ins (k := k) hL hw (by omega) h0 hk hu ?_ (fun j => ?_) (fun j => ?_) (fun j => ?_) (fun j => ?_)⟩)⟩
      · rw [r5, q_up_ne (by decide)]; exact f4
      · rw [r5, r3, r2, r1]; simp [q_up]
      · rw [r5, r3, r2, r1]; simp [q_up]
      · rw [r5, r3, r2, r1]; simp [q_up]
      · rw [r5, r3, r2, r1]; simp [q_up]
    · refine st_iconst dX0_keep_82 ?_
      exact r_z dX0_keep_83 rfl (by first | omega | (split <;> decide)) ⟨rfl, Or.inr (Or.inl ⟨hn, by omega, rfl, rfl⟩)⟩
  refine AC.of (L0 := [_, _, _, _, none, none]) pn_X0 (Nat.le_of_ble_eq_true rfl) rfl ?_
  refine st_iload_n dX0_keep_0 rfl ?_
  refine st_ldc dX0_keep_1 l_X0_80 ?_
  refine st_imul dX0_keep_3 ?_
  refine st_bipush dX0_keep_4 (by decide) ?_
  refine st_iushr dX0_keep_6 ?_
  refine AW.top (show _ = zi ((hsh w : Nat) : Int) from by rw [zi_mod (w * -1640531535)]; exact z_us (k := 21) rfl (by omega) (by omega)) ?_
  refine st_istore (L' := [_, _, _, _, _, _]) dX0_keep_7 (by decide) rfl rfl ?_
  refine st_iconst dX0_keep_9 ?_
  refine st_istore (L' := [_, _, _, _, _, _]) dX0_keep_10 (by decide) rfl rfl ?_
  have lp : ∀ (q k : Nat), k + q = 2048 → (∀ u, u < k → ¬ M 98 ((hsh w + u) % 2048) = 0 ∧ ¬ (cg L (M 98 ((hsh w + u) % 2048) - 1).toNat).1 = w) → AW0 G d m_X0_keep 12 [some (.ref 94), some (I w), some (I b), some (I f), some (I ((hsh w + k) % 2048 : Nat)), some (I k)] [] M N (CV (KeepR M N L w b f)) := by
    intro q
    induction q with
    | zero =>
      intro k hk hp
      exfalso
      have hall := cnt_all (P := fun j => ¬ M 98 j = 0) (n := 2048) (fun j hj => by
        by_cases e : hsh w ≤ j
        · have := (hp (j - hsh w) (by omega)).1
          rw [show (hsh w + (j - hsh w)) % 2048 = j by omega] at this
          exact this
        · have := (hp (j + 2048 - hsh w) (by omega)).1
          rw [show (hsh w + (j + 2048 - hsh w)) % 2048 = j by omega] at this
          exact this)
      rw [a5] at hall
      omega
    | succ q ih =>
      intro k hk hp
      have hs := a4 ((hsh w + k) % 2048) (by omega)
      refine st_iload dX0_keep_12 rfl ?_
      refine st_sipush dX0_keep_14 (by decide) ?_
      refine st_icmp_ge (tgt := 72) dX0_keep_17 (by omega) (by omega) rfl (fun h => ?_) (fun h => ?_)
      · skip
        omega
      · refine st_aload_n dX0_keep_20 rfl ?_
        refine st_getfr dX0_keep_21 f_X0_21 (by first | with_reducible assumption | rfl) (by rfl) ?_
        refine st_iload dX0_keep_24 rfl ?_
        refine c_S2p (d' := d - 1) dX0_keep_26 l_X0_66 k_X10_cell s_X10_cell (by omega) (Nat.le_of_ble_eq_true rfl) (C_cellI sh_98 (by decide) (by omega)) ?_
        rw [Int.toNat_natCast]
        refine st_if_eq (tgt := 72) dX0_keep_29 (by omega) rfl (fun h2 => ?_) (fun h2 => ?_)
        · skip
          refine ins k (by omega) h2 (fun u hu => (hp u hu).1) (fun hin => ?_)
          obtain ⟨i, hi, e⟩ := hin
          obtain ⟨t, t1, t2, t3⟩ := a6 i hi
          rw [e] at t2 t3
          rcases Nat.lt_trichotomy t k with ht | ht | ht
          · refine (hp t ht).2 ?_
            rw [t2, show (((i + 1 : Nat) : Int) - 1).toNat = i by omega]
            exact e
          · rw [ht, h2] at t2
            omega
          · exact t3 k ht h2
        · refine st_aload_n dX0_keep_32 rfl ?_
          refine st_getfr dX0_keep_33 f_X0_11 (by first | with_reducible assumption | rfl) (by rfl) ?_
          refine st_aload_n dX0_keep_36 rfl ?_
          refine st_getfr dX0_keep_37 f_X0_21 (by first | with_reducible assumption | rfl) (by rfl) ?_
          refine st_iload dX0_keep_40 rfl ?_
          refine c_S2p (d' := d - 1) dX0_keep_42 l_X0_66 k_X10_cell s_X10_cell (by omega) (Nat.le_of_ble_eq_true rfl) (C_cellI sh_98 (by decide) (by omega)) ?_
          rw [Int.toNat_natCast]
          refine st_iconst dX0_keep_45 ?_
          refine st_isub dX0_keep_46 ?_
          refine c_S2p (d' := d - 1) dX0_keep_47 l_X0_66 k_X10_cell s_X10_cell (by omega) (Nat.le_of_ble_eq_true rfl) (C_cellI sh_95 (by decide) (by omega)) ?_
          have hv := a3 (M 98 ((hsh w + k) % 2048) - 1).toNat (by omega)
          have hv7 := a7 (M 98 ((hsh w + k) % 2048) - 1).toNat (by omega)
          rw [hv.1]
          refine st_iload_n dX0_keep_50 rfl ?_
          refine st_icmp_ne (tgt := 56) dX0_keep_51 (by omega) (by omega) rfl (fun h3 => ?_) (fun h3 => ?_)
          · refine st_iload dX0_keep_56 rfl ?_
            refine st_iconst dX0_keep_58 ?_
            refine st_iadd dX0_keep_59 ?_
            refine st_sipush dX0_keep_60 (by decide) ?_
            refine st_iand dX0_keep_63 ?_
            rw [show (((hsh w + k) % 2048 : Nat) : Int) + 1 = (((hsh w + k) % 2048 + 1 : Nat) : Int) by omega]
            refine AW.top (z_an (b := 2047) rfl) ?_
            rw [Nat.and_two_pow_sub_one_eq_mod _ 11, show ((hsh w + k) % 2048 + 1) % 2 ^ 11 = (hsh w + (k + 1)) % 2048 by omega]
            refine st_istore (L' := [_, _, _, _, _, _]) dX0_keep_64 (by decide) rfl rfl ?_
            refine st_iinc (L' := [_, _, _, _, _, _]) dX0_keep_66 rfl (by decide) rfl rfl ?_
            refine st_goto (tgt := 12) dX0_keep_69 rfl ?_
            refine AW.to (ih (k + 1) (by omega) (fun u hu => ?_)) (h2 := by simp)
            by_cases e : u = k
            · rw [e]; exact ⟨h2, h3⟩
            · exact hp u (by omega)
          · refine st_iconst dX0_keep_54 ?_
            exact r_z dX0_keep_55 rfl (Or.inr rfl) ⟨rfl, Or.inl ⟨⟨(M 98 ((hsh w + k) % 2048) - 1).toNat, by omega, h3⟩, rfl, rfl⟩⟩
  exact AW.to (lp 2048 0 (by omega) (fun u hu => by omega)) (h2 := by simp [Nat.mod_eq_of_lt hh])


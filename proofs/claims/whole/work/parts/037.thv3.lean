/-! the system's Thieves: the best place for the next ear -/
def hrT (L : List (Nat × Nat × Nat)) (r s : Int) (j : Nat) : Int := hmh (r - ((L.getD j (0, 0, 0)).1 : Nat)) (s - ((L.getD j (0, 0, 0)).2.1 : Nat)) ((L.getD j (0, 0, 0)).2.2 : Nat)
def cnH (L : List (Nat × Nat × Nat)) (r s : Int) (k : Nat) (h : Int) : Int := cnt (fun j => hrT L r s j = h) k
def mstT (L : List (Nat × Nat × Nat)) (r s : Int) (k : Nat) : Int := fmax (fun j => cnH L r s (j + 1) (hrT L r s j)) 0 k
theorem mstT_rng (L : List (Nat × Nat × Nat)) (r s : Int) (k : Nat) : 0 ≤ mstT L r s k ∧ mstT L r s k ≤ k := ⟨fmax_ge _ _ _, fmax_le (by omega) (fun j hj => by have := (cnt_rng (fun i => hrT L r s i = hrT L r s j) (j + 1)).2; show cnt _ _ ≤ _; omega)⟩
/-- those who fit are where they may be -/
def okT (L : List (Nat × Nat × Nat)) : Prop := L.length ≤ 960 ∧ ∀ j, j < L.length → (L.getD j (0, 0, 0)).1 ≤ 10 ∧ (L.getD j (0, 0, 0)).2.1 ≤ 10 ∧ (L.getD j (0, 0, 0)).2.2 ≤ 30
abbrev thX2 : List Nat := [106, 107, 108, 109, 110]
theorem holdT_exc {L : List (Nat × Nat × Nat)} {M M1 : q_Mem} (h : holdT L M) (hE : Exc [110] M M1) : holdT L M1 := by
  unfold holdT at *
  rw [hE 106 (by decide), hE 107 (by decide), hE 108 (by decide), hE 109 (by decide)]
  exact h
theorem C_mostStaying {G : q_G} {d : Nat} {M : q_Mem} {N : q_MemL} {L : List (Nat × Nat × Nat)} {r s : Int} (hd : 2 ≤ d) (hH : holdT L M) (hL : okT L) (hr : 0 ≤ r ∧ r ≤ 10) (hs : 0 ≤ s ∧ s ≤ 10) : AC0 G d m_X9_mostStaying [.ref 106, I r, I s] M N (CV (fun x M' N' => x = I (mstT L r s L.length) ∧ N' = N ∧ Exc [110] M M')) := by
  refine AC.of (L0 := [_, _, _, none, none, none, none]) pn_X9 (Nat.le_of_ble_eq_true rfl) rfl ?_
  refine st_aload_n dX9_mostStaying_0 rfl ?_
  refine st_getfr dX9_mostStaying_1 f_X9_21 (by first | assumption | rfl) (by rfl) ?_
  refine st_iconst dX9_mostStaying_4 ?_
  refine c_S2v (d' := d - 1) dX9_mostStaying_5 l_X9_73 k_J7_fill_53178 s_J7_fill_53178 (by omega) (Nat.le_of_ble_eq_true rfl) (C_fill sh_110 (by decide)) (fun M1 N1 hx => ?_)
  obtain ⟨hN, hM1⟩ := hx
  rw [hN]
  have hE1 : Exc [110] M M1 := by
    intro a ha
    simp only [List.mem_cons, List.not_mem_nil, or_false] at ha
    rw [hM1]
    funext j
    simp [ha]
  have h110 : ∀ h, h < 31 → M1 110 h = 0 := fun h hh => by rw [hM1]; simp [hh]
  refine st_iconst dX9_mostStaying_8 ?_
  refine st_istore_n (L' := [_, _, _, _, _, _, _]) dX9_mostStaying_9 (by decide) rfl rfl ?_
  refine st_iconst dX9_mostStaying_10 ?_
  refine st_istore (L' := [_, _, _, _, _, _, _]) dX9_mostStaying_11 (by decide) rfl rfl ?_
  have loop : ∀ (q k : Nat) (M1 : q_Mem), k + q = L.length → Exc [110] M M1 → (∀ h : Nat, h < 31 → M1 110 h = cnH L r s k h) → {l5 l6 : Option Value} → AW0 G d m_X9_mostStaying 13 [some (.ref 106), some (I r), some (I s), some (I (mstT L r s k)), some (I k), l5, l6] [] M1 N (CV (fun x M' N' => x = I (mstT L r s L.length) ∧ N' = N ∧ Exc [110] M M')) := by
    intro q
    induction q with
    | zero =>
      intro k M1 hk hE hc l5 l6
      have hH1 := holdT_exc hH hE
      have hl := hL.1
      refine st_iload dX9_mostStaying_13 rfl ?_
      refine st_aload_n dX9_mostStaying_15 rfl ?_
      refine st_getfi dX9_mostStaying_16 f_X9_31 (by first | assumption | rfl) (by rfl) ?_
      rw [hH1.1]
      refine st_icmp_ge (tgt := 95) dX9_mostStaying_19 (by omega) (by omega) rfl (fun h => ?_) (fun h => ?_)
      · refine st_iload_n dX9_mostStaying_95 rfl ?_
        exact r_i dX9_mostStaying_96 rfl ⟨by rw [show k = L.length by omega], rfl, hE⟩
      · skip
        omega
    | succ q ih =>
      intro k M1 hk hE hc l5 l6
      have hH1 := holdT_exc hH hE
      have hl := hL.1
      have hj := hH1.2 k (by omega)
      have ho := hL.2 k (by omega)
      have hm := mstT_rng L r s k
      have hh := hmh_rng (a := r - ((L.getD k (0, 0, 0)).1 : Nat)) (b := s - ((L.getD k (0, 0, 0)).2.1 : Nat)) (h := ((L.getD k (0, 0, 0)).2.2 : Nat)) (by omega)
      have hhr : hmh (r - ((L.getD k (0, 0, 0)).1 : Nat)) (s - ((L.getD k (0, 0, 0)).2.1 : Nat)) ((L.getD k (0, 0, 0)).2.2 : Nat) = hrT L r s k := rfl
      refine st_iload dX9_mostStaying_13 rfl ?_
      refine st_aload_n dX9_mostStaying_15 rfl ?_
      refine st_getfi dX9_mostStaying_16 f_X9_31 (by first | assumption | rfl) (by rfl) ?_
      rw [hH1.1]
      refine st_icmp_ge (tgt := 95) dX9_mostStaying_19 (by omega) (by omega) rfl (fun h => ?_) (fun h => ?_)
      · skip
        omega
      · refine st_iload_n dX9_mostStaying_22 rfl ?_
        refine st_aload_n dX9_mostStaying_23 rfl ?_
        refine st_getfr dX9_mostStaying_24 f_X9_11 (by first | assumption | rfl) (by rfl) ?_
        refine st_iload dX9_mostStaying_27 rfl ?_
        refine c_S2p (d' := d - 1) dX9_mostStaying_29 l_X9_35 k_X10_cell s_X10_cell (by omega) (Nat.le_of_ble_eq_true rfl) (C_cellI sh_107 (by decide) (by omega)) ?_
        rw [Int.toNat_natCast, hj.1]
        refine st_isub dX9_mostStaying_32 ?_
        refine st_iload_n dX9_mostStaying_33 rfl ?_
        refine st_aload_n dX9_mostStaying_34 rfl ?_
        refine st_getfr dX9_mostStaying_35 f_X9_15 (by first | assumption | rfl) (by rfl) ?_
        refine st_iload dX9_mostStaying_38 rfl ?_
        refine c_S2p (d' := d - 1) dX9_mostStaying_40 l_X9_35 k_X10_cell s_X10_cell (by omega) (Nat.le_of_ble_eq_true rfl) (C_cellI sh_108 (by decide) (by omega)) ?_
        rw [Int.toNat_natCast, hj.2.1]
        refine st_isub dX9_mostStaying_43 ?_
        refine st_aload_n dX9_mostStaying_44 rfl ?_
        refine st_getfr dX9_mostStaying_45 f_X9_18 (by first | assumption | rfl) (by rfl) ?_
        refine st_iload dX9_mostStaying_48 rfl ?_
        refine c_S2p (d' := d - 1) dX9_mostStaying_50 l_X9_35 k_X10_cell s_X10_cell (by omega) (Nat.le_of_ble_eq_true rfl) (C_cellI sh_109 (by decide) (by omega)) ?_
        rw [Int.toNat_natCast, hj.2.2]
        refine c_S3p (d' := d - 1) dX9_mostStaying_53 l_X9_59 k_X9_humHeard s_X9_humHeard (by omega) (Nat.le_of_ble_eq_true rfl) (C_humHeard (by omega) (by omega) (by omega) (by omega)) ?_
        rw [hhr]
        rw [hhr] at hh
        have hcn := cnt_rng (fun j => hrT L r s j = hrT L r s k) k
        have hck := hc (hrT L r s k).toNat (by omega)
        rw [show (((hrT L r s k).toNat : Nat) : Int) = hrT L r s k by omega] at hck
        have hcs : cnH L r s (k + 1) (hrT L r s k) = cnH L r s k (hrT L r s k) + 1 := by
          show cnt _ _ = _
          rw [cnt_succ, if_pos rfl]
          rfl
        have hcr : 0 ≤ cnH L r s k (hrT L r s k) ∧ cnH L r s k (hrT L r s k) ≤ k := hcn
        refine st_istore (L' := [_, _, _, _, _, _, _]) dX9_mostStaying_56 (by decide) rfl rfl ?_
        refine st_aload_n dX9_mostStaying_58 rfl ?_
        refine st_getfr dX9_mostStaying_59 f_X9_21 (by first | assumption | rfl) (by rfl) ?_
        refine st_iload dX9_mostStaying_62 rfl ?_
        refine c_S2p (d' := d - 1) dX9_mostStaying_64 l_X9_35 k_X10_cell s_X10_cell (by omega) (Nat.le_of_ble_eq_true rfl) (C_cellI sh_110 (by decide) (by omega)) ?_
        rw [hck]
        refine st_iconst dX9_mostStaying_67 ?_
        refine st_iadd dX9_mostStaying_68 ?_
        refine st_istore (L' := [_, _, _, _, _, _, _]) dX9_mostStaying_69 (by decide) rfl rfl ?_
        refine st_aload_n dX9_mostStaying_71 rfl ?_
        refine st_getfr dX9_mostStaying_72 f_X9_21 (by first | assumption | rfl) (by rfl) ?_
        refine st_iload dX9_mostStaying_75 rfl ?_
        refine st_iload dX9_mostStaying_77 rfl ?_
        refine c_S3v (d' := d - 1) dX9_mostStaying_79 l_X9_49 k_X10_put s_X10_put (by omega) (Nat.le_of_ble_eq_true rfl) (C_putI sh_110 (by decide) (by omega)) (fun M2 N2 hx => ?_)
        obtain ⟨hM2, hN2⟩ := hx
        rw [hN2]
        refine st_iload_n dX9_mostStaying_82 rfl ?_
        refine st_iload dX9_mostStaying_83 rfl ?_
        refine st_mmax dX9_mostStaying_85 lm_X9_79 (by omega) (Nat.le_of_ble_eq_true rfl) (by omega) (by omega) ?_
        refine st_istore_n (L' := [_, _, _, _, _, _, _]) dX9_mostStaying_88 (by decide) rfl rfl ?_
        refine st_iinc (L' := [_, _, _, _, _, _, _]) dX9_mostStaying_89 rfl (by decide) rfl rfl ?_
        refine st_goto (tgt := 13) dX9_mostStaying_92 rfl ?_
        refine AW.to (ih (k + 1) M2 (by omega) (hM2 ▸ hE.tr (Exc.up (by decide))) (fun h hh2 => ?_) (l5 := some (I (hrT L r s k))) (l6 := some (I (cnH L r s k (hrT L r s k) + 1)))) (h2 := by rw [show mstT L r s (k + 1) = max (mstT L r s k) (cnH L r s (k + 1) (hrT L r s k)) from rfl, hcs]; simp)
        rw [hM2]
        by_cases e : h = (hrT L r s k).toNat
        · subst e
          rw [show (((hrT L r s k).toNat : Nat) : Int) = hrT L r s k by omega, hcs]
          simp [q_up]
        · have e2 : q_up M1 110 (hrT L r s k).toNat (cnH L r s k (hrT L r s k) + 1) 110 h = M1 110 h := by simp [q_up, e]
          rw [e2, hc h hh2]
          show _ = cnt _ _
          rw [cnt_succ, if_neg (by omega)]
          show _ = cnH L r s k h + 0
          omega
  refine AW.to (loop L.length 0 M1 (by omega) hE1 (fun h hh => by rw [h110 h hh]; rfl) (l5 := none) (l6 := none))
/-- of the first n rooms of a storey the best, behind z -/
def bpI (L : List (Nat × Nat × Nat)) (s : Int) : Nat → Int × Int × Int → Int × Int × Int
  | 0, z => z
  | n + 1, z => if mstT L n s L.length < (bpI L s n z).1 then (mstT L n s L.length, (n : Int), s) else bpI L s n z
def bpO (L : List (Nat × Nat × Nat)) (nr : Nat) : Nat → Int × Int × Int
  | 0 => ((L.length : Nat) + 1, 0, 0)
  | s + 1 => bpI L s nr (bpO L nr s)
theorem bpI_rng {L : List (Nat × Nat × Nat)} {s : Int} : ∀ {n : Nat} {z : Int × Int × Int}, 0 ≤ z.1 ∧ z.1 ≤ 961 → 0 ≤ (bpI L s n z).1 ∧ (bpI L s n z).1 ≤ 961
  | 0, _, h => h
  | n + 1, z, h => by
    have h1 := bpI_rng (L := L) (s := s) (n := n) h
    have h2 := mstT_rng L n s L.length
    unfold bpI
    split
    · refine ⟨h2.1, ?_⟩
      show mstT L n s L.length ≤ 961
      omega
    · exact h1
theorem bpO_rng {L : List (Nat × Nat × Nat)} {nr : Nat} (hL : L.length ≤ 960) : ∀ {s : Nat}, 0 ≤ (bpO L nr s).1 ∧ (bpO L nr s).1 ≤ 961
  | 0 => by
    show 0 ≤ ((L.length : Nat) : Int) + 1 ∧ ((L.length : Nat) : Int) + 1 ≤ 961
    omega
  | s + 1 => bpI_rng (bpO_rng hL)


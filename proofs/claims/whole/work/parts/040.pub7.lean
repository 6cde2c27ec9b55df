/-! the system's images -/
theorem st_astore_nZ {G : q_G} {d : Nat} {μ : q_M} {pc : Nat} {L : List (Option Value)} {st : List Value} {S : q_Sh} {M : q_Mem} {N : q_MemL} {k n : Nat} {Q : q_Q} {L' : List (Option Value)} {j : Fin 4} (hd : decode μ.2.1 pc = .ok (.astore_n j, 1)) (hi : (j : Nat) < μ.2.2.1 := by decide) (hc : q_c1 L (j : Nat) = true := by rfl) (hl : L.set (j : Nat) (some .null) = L' := by rfl) (kk : AW G d μ (pc + 1) L' st S M N k n Q) : AW G d μ pc L (.null :: st) S M N k n Q := by
  intro p e R s m args below meth c Z H locs ls cells slots C hR hS hL hcl hsl hr
  obtain ⟨ls', e1, e2⟩ := hL.set1 (v := .null) rfl hi hc hl
  intro T hT X
  obtain ⟨t, a1, b1⟩ := kk p e R s m args below meth c Z H locs ls' cells slots C hR hS e2 hcl hsl hr T hT X
  refine ⟨t, ?_, b1⟩
  have hx := C.1
  have hb := C.2.1
  try simp only [q_cv] at e1
  show Steps p.tables e below (T.setTop (F0 m pc ls (q_cv G .null :: st.map (q_cv G)))) t
  simp only [q_cv]
  jvm_step X.here [X.here.top, hx, hb, hd, e1, Value.category, Value.isRef]
  exact a1
def imR (k : Int) : Nat := 18 + 7 * k.toNat
theorem imR_v {k : Int} (h : 0 ≤ k ∧ k < 4) : ([.ref 18, .ref 25, .ref 32, .ref 39] : List Value).getD k.toNat .null = .ref (imR k) := by
  have hc : k = 0 ∨ k = 1 ∨ k = 2 ∨ k = 3 := by omega
  rcases hc with rfl | rfl | rfl | rfl <;> rfl
theorem imR_home {k : Int} (h : 0 ≤ k ∧ k < 4) : isHome (imR k) ∧ ¬ imR k = 3 := by
  have hc : k = 0 ∨ k = 1 ∨ k = 2 ∨ k = 3 := by omega
  unfold isHome imR
  omega
theorem C_imageAt {G : q_G} {d : Nat} {M : q_Mem} {N : q_MemL} {k : Int} (hk : i32 k) : AC0 G d m_X10_imageAt [.ref 0, I k] M N (CV (fun x M' N' => M' = M ∧ N' = N ∧ (((0 ≤ k ∧ k < 4) ∧ x = .ref (imR k)) ∨ (¬ (0 ≤ k ∧ k < 4) ∧ x = .null)))) := by
  unfold i32 at hk
  refine AC.of (L0 := [_, _]) pn_X10 (Nat.le_of_ble_eq_true rfl) rfl ?_
  refine st_iload_n dX10_imageAt_0 rfl ?_
  refine st_if_lt (tgt := 22) dX10_imageAt_1 (by omega) rfl (fun h => ?_) (fun h => ?_)
  · refine st_aconst_null dX10_imageAt_22 ?_
    exact r_aN dX10_imageAt_23 rfl ⟨rfl, rfl, Or.inr ⟨by omega, rfl⟩⟩
  · refine st_iload_n dX10_imageAt_4 rfl ?_
    refine st_aload_n dX10_imageAt_5 rfl ?_
    refine st_getfr dX10_imageAt_6 f_X10_26 (by first | assumption | rfl) (by rfl) ?_
    refine st_alen dX10_imageAt_9 (by first | assumption | rfl) (by decide) ?_
    refine st_icmp_ge (tgt := 22) dX10_imageAt_10 (by omega) (by omega) rfl (fun h7 => ?_) (fun h7 => ?_)
    · refine st_aconst_null dX10_imageAt_22 ?_
      exact r_aN dX10_imageAt_23 rfl ⟨rfl, rfl, Or.inr ⟨by omega, rfl⟩⟩
    · refine st_aload_n dX10_imageAt_13 rfl ?_
      refine st_getfr dX10_imageAt_14 f_X10_26 (by first | assumption | rfl) (by rfl) ?_
      refine st_iload_n dX10_imageAt_17 rfl ?_
      refine st_aald dX10_imageAt_18 sh_17 (Or.inl rfl) (by omega) (by omega) (imR_v (by omega)) ?_
      refine st_goto (tgt := 23) dX10_imageAt_19 rfl ?_
      exact r_a dX10_imageAt_23 rfl ⟨rfl, rfl, Or.inl ⟨by omega, rfl⟩⟩
def ImgR (M : q_Mem) (N : q_MemL) (k : Int) : Value → q_Mem → q_MemL → Prop := fun x M' N' => N' = N ∧ ((¬ (0 ≤ k ∧ k < 4) ∧ x = I (-1) ∧ M' = M) ∨ ((0 ≤ k ∧ k < 4) ∧ x = I (M 3 11) ∧ M' = q_up (cpH M (imR k) 3) 0 4 (orb (M 0 4) k.toNat)))
theorem cpH_low {M : q_Mem} {a b j : Nat} (h : j < a) : cpH M a b j = M j := by
  funext i
  unfold cpH
  rw [if_neg (by omega)]
theorem C_image {G : q_G} {d : Nat} {M : q_Mem} {N : q_MemL} {k : Int} (hd : 3 ≤ d) (hM : NowOk M) (z3 : Hz M 3) (zk : (0 ≤ k ∧ k < 4) → Hz M (imR k)) (h4 : 0 ≤ M 0 4 ∧ M 0 4 < 128) (hk : i32 k) : AC0 G d m_X10_image [.ref 0, I k] M N (CV (ImgR M N k)) := by
  obtain ⟨h0, -⟩ := id hM
  refine AC.of (L0 := [_, _, none]) pn_X10 (Nat.le_of_ble_eq_true rfl) rfl ?_
  refine st_aload_n dX10_image_0 rfl ?_
  refine st_iload_n dX10_image_1 rfl ?_
  refine c_V1i (d' := d - 1) dX10_image_2 l_X10_311 k_X10_imageAt i_X10_imageAt (Or.inl ⟨_, _, _, _, _, (by first | assumption | rfl), by rfl⟩) (by omega) (Nat.le_of_ble_eq_true rfl) (C_imageAt hk) (fun x M1 N1 hx => ?_)
  obtain ⟨hM1, hN1, hx⟩ := hx
  rw [hM1, hN1]
  rcases hx with ⟨hkk, rfl⟩ | ⟨hkk, rfl⟩
  · have hi := imR_home hkk
    have hi18 : 18 ≤ imR k := by unfold imR; omega
    have hSi := sh_home hi.1
    refine st_astore_n (L' := [_, _, _]) dX10_image_5 (by decide) rfl rfl ?_
    refine st_aload_n dX10_image_6 rfl ?_
    refine st_ifnonnull (tgt := 12) dX10_image_7 rfl ?_
    refine st_aload_n dX10_image_12 rfl ?_
    refine st_aload_n dX10_image_13 rfl ?_
    refine st_getfr dX10_image_14 f_X10_19 (by first | assumption | rfl) (by rfl) ?_
    refine c_V1v (d' := d - 1) dX10_image_17 l_X10_111 k_X2_copyFrom i_X2_copyFrom (Or.inl ⟨_, _, _, _, _, (by first | assumption | rfl), by rfl⟩) (by omega) (Nat.le_of_ble_eq_true rfl) (C_copyFrom hi.1 (Or.inl rfl) hi.2 (by omega) (zk hkk) z3 h0) (fun M2 N2 hx => ?_)
    obtain ⟨rfl, rfl⟩ := hx
    refine st_aload_n dX10_image_20 rfl ?_
    refine st_dup dX10_image_21 rfl ?_
    refine st_getfi dX10_image_22 f_X10_315 (by first | assumption | rfl) (by rfl) ?_
    refine st_iconst dX10_image_25 ?_
    refine st_iload_n dX10_image_26 rfl ?_
    refine st_ishl dX10_image_27 ?_
    refine st_ior dX10_image_28 ?_
    have hke : k = ((k.toNat : Nat) : Int) := by omega
    rw [cpH_low (by omega), hke]
    refine AW.topv (show _ = I (orb (M 0 4) k.toNat) from congrArg Value.int (by first | exact z_set h4.1 (by omega) | (rw [← z_set h4.1 (by omega)]))) ?_
    rw [← hke]
    refine st_putfi dX10_image_29 w_X10_315 (by first | assumption | rfl) (by rfl) rfl rfl ?_
    refine st_aload_n dX10_image_32 rfl ?_
    refine st_getfr dX10_image_33 f_X10_19 (by first | assumption | rfl) (by rfl) ?_
    refine st_getfi dX10_image_36 f_X10_144 (by first | assumption | rfl) (by rfl) ?_
    exact r_i dX10_image_39 rfl ⟨rfl, Or.inr ⟨by omega, by rw [q_up_ne (by decide), cpH_low (by omega)], rfl⟩⟩
  · skip
    refine st_astore_nZ (L' := [_, _, _]) dX10_image_5 (by decide) rfl rfl ?_
    refine st_aload_nV dX10_image_6 rfl (Or.inl rfl) ?_
    refine st_ifnonnullN dX10_image_7 ?_
    refine st_iconst dX10_image_10 ?_
    exact r_i dX10_image_11 rfl ⟨rfl, Or.inl ⟨hkk, rfl, rfl⟩⟩
def BackR (M : q_Mem) (N : q_MemL) (k : Int) : Value → q_Mem → q_MemL → Prop := fun x M' N' => N' = N ∧ ((¬ ((0 ≤ k ∧ k < 4) ∧ (M 0 4).toNat.testBit k.toNat = true) ∧ x = I (-1) ∧ M' = M) ∨ (((0 ≤ k ∧ k < 4) ∧ (M 0 4).toNat.testBit k.toNat = true) ∧ x = I (M (imR k) 11) ∧ M' = cpH M 3 (imR k)))
theorem C_back {G : q_G} {d : Nat} {M : q_Mem} {N : q_MemL} {k : Int} (hd : 3 ≤ d) (z3 : Hz M 3) (zk : (0 ≤ k ∧ k < 4) → Hz M (imR k) ∧ (M (imR k) 0 = 0 ∨ M (imR k) 0 = 1)) (h4 : 0 ≤ M 0 4 ∧ M 0 4 < 128) (hk : i32 k) : AC0 G d m_X10_back [.ref 0, I k] M N (CV (BackR M N k)) := by
  refine AC.of (L0 := [_, _, none]) pn_X10 (Nat.le_of_ble_eq_true rfl) rfl ?_
  refine st_aload_n dX10_back_0 rfl ?_
  refine st_iload_n dX10_back_1 rfl ?_
  refine c_V1i (d' := d - 1) dX10_back_2 l_X10_311 k_X10_imageAt i_X10_imageAt (Or.inl ⟨_, _, _, _, _, (by first | assumption | rfl), by rfl⟩) (by omega) (Nat.le_of_ble_eq_true rfl) (C_imageAt hk) (fun x M1 N1 hx => ?_)
  obtain ⟨hM1, hN1, hx⟩ := hx
  rw [hM1, hN1]
  rcases hx with ⟨hkk, rfl⟩ | ⟨hkk, rfl⟩
  · have hi := imR_home hkk
    have hke : k = ((k.toNat : Nat) : Int) := by omega
    refine st_astore_n (L' := [_, _, _]) dX10_back_5 (by decide) rfl rfl ?_
    refine st_aload_n dX10_back_6 rfl ?_
    refine st_ifnull dX10_back_7 ?_
    refine st_aload_n dX10_back_10 rfl ?_
    refine st_getfi dX10_back_11 f_X10_315 (by first | assumption | rfl) (by rfl) ?_
    refine st_iload_n dX10_back_14 rfl ?_
    rw [hke]
    refine c_S2p (d' := d - 1) dX10_back_15 l_X10_165 k_X10_has s_X10_has (by omega) (Nat.le_of_ble_eq_true rfl) (C_has (by omega) (by omega)) ?_
    rw [← hke]
    refine b_ne (tgt := 23) dX10_back_18 rfl (fun h7 => ?_) (fun h7 => ?_)
    · refine st_aload_n dX10_back_23 rfl ?_
      refine st_getfr dX10_back_24 f_X10_19 (by first | assumption | rfl) (by rfl) ?_
      refine st_aload_n dX10_back_27 rfl ?_
      refine c_V1v (d' := d - 1) dX10_back_28 l_X10_111 k_X2_copyFrom i_X2_copyFrom (Or.inl ⟨_, _, _, _, _, (by first | assumption | rfl), by rfl⟩) (by omega) (Nat.le_of_ble_eq_true rfl) (C_copyFrom (Or.inl rfl) hi.1 (fun z => hi.2 z.symm) (by omega) z3 (zk hkk).1 (zk hkk).2) (fun M2 N2 hx => ?_)
      obtain ⟨rfl, rfl⟩ := hx
      refine st_aload_n dX10_back_31 rfl ?_
      refine st_getfr dX10_back_32 f_X10_19 (by first | assumption | rfl) (by rfl) ?_
      refine st_getfi dX10_back_35 f_X10_144 (by first | assumption | rfl) (by rfl) ?_
      rw [show cpH M 3 (imR k) 3 11 = M (imR k) 11 from by simp [cpH]]
      exact r_i dX10_back_38 rfl ⟨rfl, Or.inr ⟨⟨hkk, h7⟩, rfl, rfl⟩⟩
    · refine st_iconst dX10_back_21 ?_
      exact r_i dX10_back_22 rfl ⟨rfl, Or.inl ⟨fun z => h7 z.2, rfl, rfl⟩⟩
  · skip
    refine st_astore_nZ (L' := [_, _, _]) dX10_back_5 (by decide) rfl rfl ?_
    refine st_aload_nV dX10_back_6 rfl (Or.inl rfl) ?_
    refine st_ifnullN (tgt := 21) dX10_back_7 rfl ?_
    refine st_iconst dX10_back_21 ?_
    exact r_i dX10_back_22 rfl ⟨rfl, Or.inl ⟨fun z => hkk z.1, rfl, rfl⟩⟩


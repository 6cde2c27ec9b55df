/-! feed and end on both sides -/
def tpF (f : Nat → Int) (n : Nat) (x : Int32) : Nat → Int := fun j => if j = n + 3 then byS x 0 else if j = n + 2 then byS x 8 else if j = n + 1 then byS x 16 else if j = n then byS x 24 else f j
theorem tp4_F (M : q_Mem) (a n : Nat) (x : Int32) : tp4 M a n x a = tpF (M a) n x := by
  funext j
  unfold tp4 tpF
  simp [q_up]
def fdF (f : Nat → Int) (n : Nat) (a b c d e : Int32) : Nat → Int := tpF (tpF (tpF (tpF (tpF f n a) (n + 4) b) (n + 8) c) (n + 12) d) (n + 16) e
theorem tpF_congr {f g : Nat → Int} {n : Nat} {x : Int32} (h : ∀ j, j < n → f j = g j) : ∀ j, j < n + 4 → tpF f n x j = tpF g n x j := by
  intro j hj
  unfold tpF
  split
  · rfl
  · split
    · rfl
    · split
      · rfl
      · split
        · rfl
        · exact h j (by omega)
theorem fdF_congr {f g : Nat → Int} {n : Nat} {a b c d e : Int32} (h : ∀ j, j < n → f j = g j) : ∀ j, j < n + 20 → fdF f n a b c d e j = fdF g n a b c d e j := tpF_congr (tpF_congr (tpF_congr (tpF_congr (tpF_congr h))))
theorem C_feed {G : q_G} {d : Nat} {M : q_Mem} {N : q_MemL} {n : Nat} {a b c e f : Int32} (hd : 1 ≤ d) (hn : M 1 1 = (n : Int)) (hn2 : n ≤ 400) : AC0 G d m_X10_feed [.ref 0, .int a, .int b, .int c, .int e, .int f] M N (CV (fun x M' N' => N' = N ∧ ((¬ n + 20 ≤ 400 ∧ x = I (-1) ∧ M' = M) ∨ (n + 20 ≤ 400 ∧ x = I ((n + 20 : Nat) : Int) ∧ Exc [1, 2] M M' ∧ M' 1 1 = ((n + 20 : Nat) : Int) ∧ (∀ j, ¬ j = 1 → M' 1 j = M 1 j) ∧ M' 2 = fdF (M 2) n a b c e f)))) := by
  refine AC.of (L0 := [_, _, _, _, _, _]) pn_X10 (Nat.le_of_ble_eq_true rfl) rfl ?_
  refine st_aload_n dX10_feed_0 rfl ?_
  refine st_getfr dX10_feed_1 f_X10_10 (by first | with_reducible assumption | rfl) (by rfl) ?_
  refine st_getfi dX10_feed_4 f_X10_96 (by first | with_reducible assumption | rfl) (by rfl) ?_
  rw [hn]
  refine st_bipush dX10_feed_7 (by decide) ?_
  refine st_iadd dX10_feed_9 ?_
  refine st_sipush dX10_feed_10 (by decide) ?_
  refine st_icmp_le (tgt := 18) dX10_feed_13 (by omega) (by omega) rfl (fun h => ?_) (fun h => ?_)
  · refine st_aload_n dX10_feed_18 rfl ?_
    refine st_getfr dX10_feed_19 f_X10_10 (by first | with_reducible assumption | rfl) (by rfl) ?_
    refine st_iload_n dX10_feed_22 rfl ?_
    refine c_V1v (d' := d - 1) dX10_feed_23 l_X10_100 k_X8_append i_X8_append (Or.inl ⟨_, _, _, _, _, (by first | with_reducible assumption | rfl), by rfl⟩) (by omega) (Nat.le_of_ble_eq_true rfl) (C_append (n := n) hn (by omega)) (fun M1 N1 hx1 => ?_)
    obtain ⟨rfl, E1, l1, f1, r1⟩ := hx1
    refine st_aload_n dX10_feed_26 rfl ?_
    refine st_getfr dX10_feed_27 f_X10_10 (by first | with_reducible assumption | rfl) (by rfl) ?_
    refine st_iload_n dX10_feed_30 rfl ?_
    refine c_V1v (d' := d - 1) dX10_feed_31 l_X10_100 k_X8_append i_X8_append (Or.inl ⟨_, _, _, _, _, (by first | with_reducible assumption | rfl), by rfl⟩) (by omega) (Nat.le_of_ble_eq_true rfl) (C_append (n := n + 4) l1 (by omega)) (fun M2 N2 hx2 => ?_)
    obtain ⟨rfl, E2, l2, f2, r2⟩ := hx2
    refine st_aload_n dX10_feed_34 rfl ?_
    refine st_getfr dX10_feed_35 f_X10_10 (by first | with_reducible assumption | rfl) (by rfl) ?_
    refine st_iload_n dX10_feed_38 rfl ?_
    refine c_V1v (d' := d - 1) dX10_feed_39 l_X10_100 k_X8_append i_X8_append (Or.inl ⟨_, _, _, _, _, (by first | with_reducible assumption | rfl), by rfl⟩) (by omega) (Nat.le_of_ble_eq_true rfl) (C_append (n := n + 8) l2 (by omega)) (fun M3 N3 hx3 => ?_)
    obtain ⟨rfl, E3, l3, f3, r3⟩ := hx3
    refine st_aload_n dX10_feed_42 rfl ?_
    refine st_getfr dX10_feed_43 f_X10_10 (by first | with_reducible assumption | rfl) (by rfl) ?_
    refine st_iload dX10_feed_46 rfl ?_
    refine c_V1v (d' := d - 1) dX10_feed_48 l_X10_100 k_X8_append i_X8_append (Or.inl ⟨_, _, _, _, _, (by first | with_reducible assumption | rfl), by rfl⟩) (by omega) (Nat.le_of_ble_eq_true rfl) (C_append (n := n + 12) l3 (by omega)) (fun M4 N4 hx4 => ?_)
    obtain ⟨rfl, E4, l4, f4, r4⟩ := hx4
    refine st_aload_n dX10_feed_51 rfl ?_
    refine st_getfr dX10_feed_52 f_X10_10 (by first | with_reducible assumption | rfl) (by rfl) ?_
    refine st_iload dX10_feed_55 rfl ?_
    refine c_V1v (d' := d - 1) dX10_feed_57 l_X10_100 k_X8_append i_X8_append (Or.inl ⟨_, _, _, _, _, (by first | with_reducible assumption | rfl), by rfl⟩) (by omega) (Nat.le_of_ble_eq_true rfl) (C_append (n := n + 16) l4 (by omega)) (fun M5 N5 hx5 => ?_)
    obtain ⟨rfl, E5, l5, f5, r5⟩ := hx5
    refine st_aload_n dX10_feed_60 rfl ?_
    refine st_getfr dX10_feed_61 f_X10_10 (by first | with_reducible assumption | rfl) (by rfl) ?_
    refine st_getfi dX10_feed_64 f_X10_96 (by first | with_reducible assumption | rfl) (by rfl) ?_
    rw [l5]
    refine r_i dX10_feed_67 rfl ⟨rfl, Or.inr ⟨by omega, rfl, (((E1.tr E2).tr E3).tr E4).tr E5, l5, fun j hj => by rw [f5 j hj, f4 j hj, f3 j hj, f2 j hj, f1 j hj], ?_⟩⟩
    rw [r5, tp4_F, r4, tp4_F, r3, tp4_F, r2, tp4_F, r1, tp4_F]
    rfl
  · refine st_iconst dX10_feed_16 ?_
    exact r_i dX10_feed_17 rfl ⟨rfl, Or.inl ⟨by omega, rfl, rfl⟩⟩
theorem C_end {G : q_G} {d : Nat} {M : q_Mem} {N : q_MemL} {n : Nat} {v : Int} (hn : M 1 1 = (n : Int)) (hn2 : n ≤ 400) (hv : i32 v) : AC0 G d m_X10_end [.ref 0, I v] M N (CV (fun x M' N' => N' = N ∧ ((¬ (0 ≤ v ∧ v ≤ n) ∧ x = I (-1) ∧ M' = M) ∨ ((0 ≤ v ∧ v ≤ n) ∧ x = I v ∧ M' = q_up M 1 1 v)))) := by
  unfold i32 at hv
  refine AC.of (L0 := [_, _]) pn_X10 (Nat.le_of_ble_eq_true rfl) rfl ?_
  refine st_iload_n dX10_end_0 rfl ?_
  refine st_if_lt (tgt := 15) dX10_end_1 (by omega) rfl (fun h => ?_) (fun h => ?_)
  · refine st_iconst dX10_end_15 ?_
    exact r_i dX10_end_16 rfl ⟨rfl, Or.inl ⟨by omega, rfl, rfl⟩⟩
  · refine st_iload_n dX10_end_4 rfl ?_
    refine st_aload_n dX10_end_5 rfl ?_
    refine st_getfr dX10_end_6 f_X10_10 (by first | with_reducible assumption | rfl) (by rfl) ?_
    refine st_getfi dX10_end_9 f_X10_96 (by first | with_reducible assumption | rfl) (by rfl) ?_
    rw [hn]
    refine st_icmp_le (tgt := 17) dX10_end_12 (by omega) (by omega) rfl (fun h2 => ?_) (fun h2 => ?_)
    · refine st_aload_n dX10_end_17 rfl ?_
      refine st_getfr dX10_end_18 f_X10_10 (by first | with_reducible assumption | rfl) (by rfl) ?_
      refine st_iload_n dX10_end_21 rfl ?_
      refine st_putfi dX10_end_22 w_X10_96 (by first | with_reducible assumption | rfl) (by rfl) rfl rfl ?_
      refine st_iload_n dX10_end_25 rfl ?_
      exact r_i dX10_end_26 rfl ⟨rfl, Or.inr ⟨by omega, rfl, rfl⟩⟩
    · refine st_iconst dX10_end_15 ?_
      exact r_i dX10_end_16 rfl ⟨rfl, Or.inl ⟨by omega, rfl, rfl⟩⟩
theorem C_rput {G : q_G} {d : Nat} {M : q_Mem} {N : q_MemL} {n : Nat} {x : Int32} (hn : M 112 20 = (n : Int)) (hn2 : n + 4 ≤ 400) : AC0 G d m_X11_put [.ref 112, .int x] M N (CN (fun M' N' => N' = N ∧ Exc [112, 132] M M' ∧ M' 112 20 = ((n + 4 : Nat) : Int) ∧ (∀ j, ¬ j = 20 → M' 112 j = M 112 j) ∧ M' 132 = tp4 M 132 n x 132)) := by
  refine AC.of (L0 := [_, _, none]) pn_X11 (Nat.le_of_ble_eq_true rfl) rfl ?_
  refine st_bipush dX11_put_0 (by decide) ?_
  refine st_istore_n (L' := [_, _, _]) dX11_put_2 (by decide) rfl rfl ?_
  have step : ∀ (k : Int) (m : Nat) (M1 : q_Mem) (l : Int), (k = 24 ∨ k = 16 ∨ k = 8 ∨ k = 0) → M1 112 20 = (m : Int) → m < 400 → (AW0 G d m_X11_put 3 [some (.ref 112), some (.int x), some (I (k - 8))] [] (q_up (q_up M1 132 m (byS x k)) 112 20 ((m + 1 : Nat) : Int)) N (CN (fun M' N' => N' = N ∧ Exc [112, 132] M M' ∧ M' 112 20 = ((n + 4 : Nat) : Int) ∧ (∀ j, ¬ j = 20 → M' 112 j = M 112 j) ∧ M' 132 = tp4 M 132 n x 132))) → AW0 G d m_X11_put 3 [some (.ref 112), some (.int x), some (I k)] [] M1 N (CN (fun M' N' => N' = N ∧ Exc [112, 132] M M' ∧ M' 112 20 = ((n + 4 : Nat) : Int) ∧ (∀ j, ¬ j = 20 → M' 112 j = M 112 j) ∧ M' 132 = tp4 M 132 n x 132)) := by
    intro k m M1 l hk hm hm4 kk
    refine st_iload_n dX11_put_3 rfl ?_
    refine st_if_lt (tgt := 36) dX11_put_4 (by omega) rfl (fun c => ?_) (fun c => ?_)
    · skip
      omega
    · refine st_aload_n dX11_put_7 rfl ?_
      refine st_getfr dX11_put_8 f_X11_71 (by first | with_reducible assumption | rfl) (by rfl) ?_
      refine st_aload_n dX11_put_11 rfl ?_
      refine st_getfi dX11_put_12 f_X11_194 (by first | with_reducible assumption | rfl) (by rfl) ?_
      rw [hm]
      refine st_iload_n dX11_put_15 rfl ?_
      refine st_iload_n dX11_put_16 rfl ?_
      refine st_ishr dX11_put_17 ?_
      refine st_i2b dX11_put_18 ?_
      rw [byS_val]
      refine st_bast dX11_put_19 (by first | with_reducible assumption | rfl) (by omega) (by omega) (byS_nar x k) ?_ (by decide)
      rw [Int.toNat_natCast]
      refine st_aload_n dX11_put_20 rfl ?_
      refine st_dup dX11_put_21 rfl ?_
      refine st_getfi dX11_put_22 f_X11_194 (by first | with_reducible assumption | rfl) (by rfl) ?_
      rw [show q_up M1 132 m (byS x k) 112 20 = (m : Int) by rw [q_up_ne (by decide)]; exact hm]
      refine st_iconst dX11_put_25 ?_
      refine st_iadd dX11_put_26 ?_
      refine st_putfi dX11_put_27 w_X11_194 (by first | with_reducible assumption | rfl) (by rfl) rfl rfl ?_
      refine st_iinc (L' := [_, _, _]) dX11_put_30 rfl (by decide) rfl rfl ?_
      refine st_goto (tgt := 3) dX11_put_33 rfl ?_
      exact AW.to kk (h2 := rfl) (h4 := by rw [show ((m : Int) + 1) = ((m + 1 : Nat) : Int) by omega])
  refine step 24 n M 0 (Or.inl rfl) hn (by omega) ?_
  rw [show (24 : Int) - 8 = 16 by decide]
  refine step 16 (n + 1) _ 0 (Or.inr (Or.inl rfl)) (by simp [q_up]) (by omega) ?_
  rw [show (16 : Int) - 8 = 8 by decide]
  refine step 8 (n + 2) _ 0 (Or.inr (Or.inr (Or.inl rfl))) (by simp [q_up]; omega) (by omega) ?_
  rw [show (8 : Int) - 8 = 0 by decide]
  refine step 0 (n + 3) _ 0 (Or.inr (Or.inr (Or.inr rfl))) (by simp [q_up]; omega) (by omega) ?_
  refine st_iload_n dX11_put_3 rfl ?_
  refine st_if_lt (tgt := 36) dX11_put_4 (by omega) rfl (fun c => ?_) (fun c => ?_)
  · skip
    refine r_v dX11_put_36 rfl ⟨rfl, fun a ha => ?_, by simp [q_up]; omega, fun j hj => by simp [q_up, hj], ?_⟩
    · simp only [List.mem_cons, List.not_mem_nil, or_false, not_or] at ha
      funext j
      simp [q_up, ha]
    · unfold tp4
      rw [q_up_ne (by decide)]
      funext j
      simp [q_up]
  · skip
    omega
theorem C_rfeed {G : q_G} {d : Nat} {M : q_Mem} {N : q_MemL} {n : Nat} {a b c e f : Int32} (hd : 1 ≤ d) (hn : M 112 20 = (n : Int)) (hn2 : n ≤ 400) : AC0 G d m_X11_feed [.ref 112, .int a, .int b, .int c, .int e, .int f] M N (CV (fun x M' N' => N' = N ∧ ((¬ n + 20 ≤ 400 ∧ x = I (-1) ∧ M' = M) ∨ (n + 20 ≤ 400 ∧ x = I ((n + 20 : Nat) : Int) ∧ Exc [112, 132] M M' ∧ M' 112 20 = ((n + 20 : Nat) : Int) ∧ (∀ j, ¬ j = 20 → M' 112 j = M 112 j) ∧ M' 132 = fdF (M 132) n a b c e f)))) := by
  refine AC.of (L0 := [_, _, _, _, _, _]) pn_X11 (Nat.le_of_ble_eq_true rfl) rfl ?_
  refine st_aload_n dX11_feed_0 rfl ?_
  refine st_getfi dX11_feed_1 f_X11_194 (by first | with_reducible assumption | rfl) (by rfl) ?_
  rw [hn]
  refine st_bipush dX11_feed_4 (by decide) ?_
  refine st_iadd dX11_feed_6 ?_
  refine st_sipush dX11_feed_7 (by decide) ?_
  refine st_icmp_le (tgt := 15) dX11_feed_10 (by omega) (by omega) rfl (fun h => ?_) (fun h => ?_)
  · refine st_aload_n dX11_feed_15 rfl ?_
    refine st_iload_n dX11_feed_16 rfl ?_
    refine c_V1v (d' := d - 1) dX11_feed_17 l_X11_197 k_X11_put i_X11_put (Or.inl ⟨_, _, _, _, _, (by first | with_reducible assumption | rfl), by rfl⟩) (by omega) (Nat.le_of_ble_eq_true rfl) (C_rput (n := n) hn (by omega)) (fun M1 N1 hx1 => ?_)
    obtain ⟨rfl, E1, l1, f1, r1⟩ := hx1
    refine st_aload_n dX11_feed_20 rfl ?_
    refine st_iload_n dX11_feed_21 rfl ?_
    refine c_V1v (d' := d - 1) dX11_feed_22 l_X11_197 k_X11_put i_X11_put (Or.inl ⟨_, _, _, _, _, (by first | with_reducible assumption | rfl), by rfl⟩) (by omega) (Nat.le_of_ble_eq_true rfl) (C_rput (n := n + 4) l1 (by omega)) (fun M2 N2 hx2 => ?_)
    obtain ⟨rfl, E2, l2, f2, r2⟩ := hx2
    refine st_aload_n dX11_feed_25 rfl ?_
    refine st_iload_n dX11_feed_26 rfl ?_
    refine c_V1v (d' := d - 1) dX11_feed_27 l_X11_197 k_X11_put i_X11_put (Or.inl ⟨_, _, _, _, _, (by first | with_reducible assumption | rfl), by rfl⟩) (by omega) (Nat.le_of_ble_eq_true rfl) (C_rput (n := n + 8) l2 (by omega)) (fun M3 N3 hx3 => ?_)
    obtain ⟨rfl, E3, l3, f3, r3⟩ := hx3
    refine st_aload_n dX11_feed_30 rfl ?_
    refine st_iload dX11_feed_31 rfl ?_
    refine c_V1v (d' := d - 1) dX11_feed_33 l_X11_197 k_X11_put i_X11_put (Or.inl ⟨_, _, _, _, _, (by first | with_reducible assumption | rfl), by rfl⟩) (by omega) (Nat.le_of_ble_eq_true rfl) (C_rput (n := n + 12) l3 (by omega)) (fun M4 N4 hx4 => ?_)
    obtain ⟨rfl, E4, l4, f4, r4⟩ := hx4
    refine st_aload_n dX11_feed_36 rfl ?_
    refine st_iload dX11_feed_37 rfl ?_
    refine c_V1v (d' := d - 1) dX11_feed_39 l_X11_197 k_X11_put i_X11_put (Or.inl ⟨_, _, _, _, _, (by first | with_reducible assumption | rfl), by rfl⟩) (by omega) (Nat.le_of_ble_eq_true rfl) (C_rput (n := n + 16) l4 (by omega)) (fun M5 N5 hx5 => ?_)
    obtain ⟨rfl, E5, l5, f5, r5⟩ := hx5
    refine st_aload_n dX11_feed_42 rfl ?_
    refine st_getfi dX11_feed_43 f_X11_194 (by first | with_reducible assumption | rfl) (by rfl) ?_
    rw [l5]
    refine r_i dX11_feed_46 rfl ⟨rfl, Or.inr ⟨by omega, rfl, (((E1.tr E2).tr E3).tr E4).tr E5, l5, fun j hj => by rw [f5 j hj, f4 j hj, f3 j hj, f2 j hj, f1 j hj], ?_⟩⟩
    rw [r5, tp4_F, r4, tp4_F, r3, tp4_F, r2, tp4_F, r1, tp4_F]
    rfl
  · refine st_iconst dX11_feed_13 ?_
    exact r_i dX11_feed_14 rfl ⟨rfl, Or.inl ⟨by omega, rfl, rfl⟩⟩
theorem C_rend {G : q_G} {d : Nat} {M : q_Mem} {N : q_MemL} {n : Nat} {v : Int} (hn : M 112 20 = (n : Int)) (hn2 : n ≤ 400) (hv : i32 v) : AC0 G d m_X11_end [.ref 112, I v] M N (CV (fun x M' N' => N' = N ∧ ((¬ (0 ≤ v ∧ v ≤ n) ∧ x = I (-1) ∧ M' = M) ∨ ((0 ≤ v ∧ v ≤ n) ∧ x = I v ∧ M' = q_up M 112 20 v)))) := by
  unfold i32 at hv
  refine AC.of (L0 := [_, _]) pn_X11 (Nat.le_of_ble_eq_true rfl) rfl ?_
  refine st_iload_n dX11_end_0 rfl ?_
  refine st_if_lt (tgt := 12) dX11_end_1 (by omega) rfl (fun h => ?_) (fun h => ?_)
  · refine st_iconst dX11_end_12 ?_
    exact r_i dX11_end_13 rfl ⟨rfl, Or.inl ⟨by omega, rfl, rfl⟩⟩
  · refine st_iload_n dX11_end_4 rfl ?_
    refine st_aload_n dX11_end_5 rfl ?_
    refine st_getfi dX11_end_6 f_X11_194 (by first | with_reducible assumption | rfl) (by rfl) ?_
    rw [hn]
    refine st_icmp_le (tgt := 14) dX11_end_9 (by omega) (by omega) rfl (fun h2 => ?_) (fun h2 => ?_)
    · refine st_aload_n dX11_end_14 rfl ?_
      refine st_iload_n dX11_end_15 rfl ?_
      refine st_putfi dX11_end_16 w_X11_194 (by first | with_reducible assumption | rfl) (by rfl) rfl rfl ?_
      refine st_iload_n dX11_end_19 rfl ?_
      exact r_i dX11_end_20 rfl ⟨rfl, Or.inr ⟨by omega, rfl, rfl⟩⟩
    · refine st_iconst dX11_end_12 ?_
      exact r_i dX11_end_13 rfl ⟨rfl, Or.inl ⟨by omega, rfl, rfl⟩⟩


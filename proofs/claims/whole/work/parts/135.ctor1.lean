/-! the constructors: the system -/
set_option maxRecDepth 100000 in
set_option maxHeartbeats 40000000 in
theorem N_X10 {G : q_G} {d : Nat} {M : q_Mem} {N : q_MemL} (hd : 2 ≤ d) (hM : ∀ r j, 0 < r → M r j = 0) (hN : ∀ r j, 0 < r → N r j = 0) : AC G d m_X10_init [.ref 0] [(10, 15, [.null, .null, .null, .null, .int 0, .null, .int 0, .null, .null, .null, .null, .null, .null, .null, .null])] M N 111 13602 (fun v S1 M1 N1 => v = none ∧ S1 = S0.take 112 ∧ M1 = M ∧ N1 = N) := by
  refine AC.of (L0 := [some (.ref 0), none]) pn_X10 (Nat.le_of_ble_eq_true rfl) rfl ?_
  refine AW.to (S' := [] ++ (10, 15, [.null, .null, .null, .null, .int 0, .null, .int 0, .null, .null, .null, .null, .null, .null, .null, .null]) :: ((S0.drop 1).take 0)) ?_ (h6 := by decide +kernel)
  refine st_aload_n dX10_init_0 rfl ?_
  refine st_objInit dX10_init_1 l_X10_1 o_inst o_code (by omega) (Nat.le_of_ble_eq_true rfl) ?_
  refine st_aload_n dX10_init_4 rfl ?_
  refine k_obj (ci := 8) (r := 1) (vs := [.null, .int 0, .int 0, .int 0]) (by decide +kernel) dX10_init_5 rfl l_X10_7 in_X8 k_X8_init.2.1 (by omega) (fun j => hM _ j (by omega)) tyX8 tyX8_ok (by decide +kernel) ?_
  refine st_dup dX10_init_8 rfl ?_
  refine st_callI (d' := d - 1) (as := []) (b := 1) dX10_init_9 l_X10_9 k_X8_init n_X8_init rfl rfl (by omega) (Nat.le_of_ble_eq_true rfl) (N_X8 (P := [] ++ (10, 15, [.null, .null, .null, .null, .int 0, .null, .int 0, .null, .null, .null, .null, .null, .null, .null, .null]) :: ((S0.drop 1).take 0)) (by omega) (by decide +kernel) (by omega) (fun r j hr => hM r j (by omega)) (fun r j hr => hN r j (by omega))) (fun v S1 M1 N1 hx => ?_)
  obtain ⟨rfl, rfl, e1, e2⟩ := hx
  rw [e1, e2]
  refine AW.to (st' := [.ref 1, .ref 0]) (S' := [] ++ (10, 15, [.null, .null, .null, .null, .int 0, .null, .int 0, .null, .null, .null, .null, .null, .null, .null, .null]) :: ((S0.drop 1).take 2)) ?_ (h3 := by rfl) (h6 := by decide +kernel)
  refine k_putf (P := []) dX10_init_12 v_X10_10 rfl rfl rfl (fun _ => rfl) (fun _ => rfl) ?_
  refine AW.to (S' := [] ++ (10, 15, [.ref 1, .null, .null, .null, .int 0, .null, .int 0, .null, .null, .null, .null, .null, .null, .null, .null]) :: ((S0.drop 1).take 2)) ?_ (h6 := by decide +kernel)
  refine st_aload_n dX10_init_15 rfl ?_
  refine k_obj (ci := 2) (r := 3) (vs := [.int 0, .int 0, .int 0, .int 0, .int 0, .int 0, .int 0, .null, .null, .null, .null, .int 0, .int 0, .int 0, .null, .int 0, .null, .int 0, .int 0]) (by decide +kernel) dX10_init_16 rfl l_X10_16 in_X2 k_X2_init.2.1 (by omega) (fun j => hM _ j (by omega)) tyX2 tyX2_ok (by decide +kernel) ?_
  refine st_dup dX10_init_19 rfl ?_
  refine st_callI (d' := d - 1) (as := []) (b := 3) dX10_init_20 l_X10_18 k_X2_init n_X2_init rfl rfl (by omega) (Nat.le_of_ble_eq_true rfl) (N_X2 (P := [] ++ (10, 15, [.ref 1, .null, .null, .null, .int 0, .null, .int 0, .null, .null, .null, .null, .null, .null, .null, .null]) :: ((S0.drop 1).take 2)) (by omega) (by decide +kernel) (by omega) (fun r j hr => hM r j (by omega)) (fun r j hr => hN r j (by omega))) (fun v S1 M1 N1 hx => ?_)
  obtain ⟨rfl, rfl, e1, e2⟩ := hx
  rw [e1, e2]
  refine AW.to (st' := [.ref 3, .ref 0]) (S' := [] ++ (10, 15, [.ref 1, .null, .null, .null, .int 0, .null, .int 0, .null, .null, .null, .null, .null, .null, .null, .null]) :: ((S0.drop 1).take 9)) ?_ (h3 := by rfl) (h6 := by decide +kernel)
  refine k_putf (P := []) dX10_init_23 v_X10_19 rfl rfl rfl (fun _ => rfl) (fun _ => rfl) ?_
  refine AW.to (S' := [] ++ (10, 15, [.ref 1, .ref 3, .null, .null, .int 0, .null, .int 0, .null, .null, .null, .null, .null, .null, .null, .null]) :: ((S0.drop 1).take 9)) ?_ (h6 := by decide +kernel)
  refine st_aload_n dX10_init_26 rfl ?_
  refine k_obj (ci := 2) (r := 10) (vs := [.int 0, .int 0, .int 0, .int 0, .int 0, .int 0, .int 0, .null, .null, .null, .null, .int 0, .int 0, .int 0, .null, .int 0, .null, .int 0, .int 0]) (by decide +kernel) dX10_init_27 rfl l_X10_16 in_X2 k_X2_init.2.1 (by omega) (fun j => hM _ j (by omega)) tyX2 tyX2_ok (by decide +kernel) ?_
  refine st_dup dX10_init_30 rfl ?_
  refine st_callI (d' := d - 1) (as := []) (b := 10) dX10_init_31 l_X10_18 k_X2_init n_X2_init rfl rfl (by omega) (Nat.le_of_ble_eq_true rfl) (N_X2 (P := [] ++ (10, 15, [.ref 1, .ref 3, .null, .null, .int 0, .null, .int 0, .null, .null, .null, .null, .null, .null, .null, .null]) :: ((S0.drop 1).take 9)) (by omega) (by decide +kernel) (by omega) (fun r j hr => hM r j (by omega)) (fun r j hr => hN r j (by omega))) (fun v S1 M1 N1 hx => ?_)
  obtain ⟨rfl, rfl, e1, e2⟩ := hx
  rw [e1, e2]
  refine AW.to (st' := [.ref 10, .ref 0]) (S' := [] ++ (10, 15, [.ref 1, .ref 3, .null, .null, .int 0, .null, .int 0, .null, .null, .null, .null, .null, .null, .null, .null]) :: ((S0.drop 1).take 16)) ?_ (h3 := by rfl) (h6 := by decide +kernel)
  refine k_putf (P := []) dX10_init_34 v_X10_23 rfl rfl rfl (fun _ => rfl) (fun _ => rfl) ?_
  refine AW.to (S' := [] ++ (10, 15, [.ref 1, .ref 3, .ref 10, .null, .int 0, .null, .int 0, .null, .null, .null, .null, .null, .null, .null, .null]) :: ((S0.drop 1).take 16)) ?_ (h6 := by decide +kernel)
  refine st_aload_n dX10_init_37 rfl ?_
  refine st_iconst dX10_init_38 ?_
  refine st_anew (t := 24) dX10_init_39 l_X10_16 (Or.inl ⟨rfl, rfl⟩) (Nat.le_of_ble_eq_true rfl) (Nat.le_of_ble_eq_true rfl) ?_
  refine AW.to (st' := [.ref 17, .ref 0]) (S' := [] ++ (10, 15, [.ref 1, .ref 3, .ref 10, .null, .int 0, .null, .int 0, .null, .null, .null, .null, .null, .null, .null, .null]) :: (((S0.drop 1).take 17).set 16 (24, 4, [.null, .null, .null, .null]))) ?_ (h3 := by rfl) (h6 := by decide +kernel)
  refine k_putf (P := []) dX10_init_42 v_X10_26 rfl rfl rfl (fun _ => rfl) (fun _ => rfl) ?_
  refine AW.to (S' := [] ++ (10, 15, [.ref 1, .ref 3, .ref 10, .ref 17, .int 0, .null, .int 0, .null, .null, .null, .null, .null, .null, .null, .null]) :: (((S0.drop 1).take 17).set 16 (24, 4, [.null, .null, .null, .null]))) ?_ (h6 := by decide +kernel)
  refine st_iconst dX10_init_45 ?_
  refine st_istore_n (L' := [_, _]) dX10_init_46 (by decide) rfl rfl ?_
  refine AW.to (L' := [some (.ref 0), some (I 0)]) ?_ (h2 := by rfl)
  refine st_iload_n dX10_init_47 rfl ?_
  refine st_aload_n dX10_init_48 rfl ?_
  refine st_getfr dX10_init_49 f_X10_26 (by first | assumption | rfl) (by rfl) ?_
  refine st_alen dX10_init_52 (by first | assumption | rfl) (by decide) ?_
  refine st_icmp_ge (tgt := 75) dX10_init_53 (by omega) (by omega) rfl (fun c1 => absurd c1 (by omega)) (fun _ => ?_)
  refine st_aload_n dX10_init_56 rfl ?_
  refine st_getfr dX10_init_57 f_X10_26 (by first | assumption | rfl) (by rfl) ?_
  refine st_iload_n dX10_init_60 rfl ?_
  refine k_obj (ci := 2) (r := 18) (vs := [.int 0, .int 0, .int 0, .int 0, .int 0, .int 0, .int 0, .null, .null, .null, .null, .int 0, .int 0, .int 0, .null, .int 0, .null, .int 0, .int 0]) (by decide +kernel) dX10_init_61 rfl l_X10_16 in_X2 k_X2_init.2.1 (by omega) (fun j => hM _ j (by omega)) tyX2 tyX2_ok (by decide +kernel) ?_
  refine st_dup dX10_init_64 rfl ?_
  refine st_callI (d' := d - 1) (as := []) (b := 18) dX10_init_65 l_X10_18 k_X2_init n_X2_init rfl rfl (by omega) (Nat.le_of_ble_eq_true rfl) (N_X2 (P := [] ++ (10, 15, [.ref 1, .ref 3, .ref 10, .ref 17, .int 0, .null, .int 0, .null, .null, .null, .null, .null, .null, .null, .null]) :: (((S0.drop 1).take 17).set 16 (24, 4, [.null, .null, .null, .null]))) (by omega) (by decide +kernel) (by omega) (fun r j hr => hM r j (by omega)) (fun r j hr => hN r j (by omega))) (fun v S1 M1 N1 hx => ?_)
  obtain ⟨rfl, rfl, e1, e2⟩ := hx
  rw [e1, e2]
  refine AW.to (st' := [.ref 18, I 0, .ref 17]) (S' := [] ++ (10, 15, [.ref 1, .ref 3, .ref 10, .ref 17, .int 0, .null, .int 0, .null, .null, .null, .null, .null, .null, .null, .null]) :: (((S0.drop 1).take 24).set 16 (24, 4, [.null, .null, .null, .null]))) ?_ (h3 := by rfl) (h6 := by decide +kernel)
  refine st_aast (T := TX2) (t := 24) (nn := 4) (vs := [.null, .null, .null, .null]) (ci := 2) (nv := 19) (vv := [.int 0, .int 0, .int 0, .int 0, .int 0, .int 0, .int 0, .ref 19, .ref 20, .ref 21, .ref 22, .int 0, .int 0, .int 0, .ref 23, .int 0, .ref 24, .int 0, .int 0]) dX10_init_68 (by decide +kernel) (by decide +kernel) (by omega) rfl rfl (by omega) (by omega) rfl ?_
  refine AW.to (S' := [] ++ (10, 15, [.ref 1, .ref 3, .ref 10, .ref 17, .int 0, .null, .int 0, .null, .null, .null, .null, .null, .null, .null, .null]) :: (((S0.drop 1).take 24).set 16 (24, 4, [.ref 18, .null, .null, .null]))) ?_ (h6 := by decide +kernel)
  refine st_iinc (L' := [_, _]) dX10_init_69 rfl (by decide) rfl rfl ?_
  refine st_goto (tgt := 47) dX10_init_72 rfl ?_
  refine AW.to (L' := [some (.ref 0), some (I 1)]) ?_ (h2 := by rfl)
  refine st_iload_n dX10_init_47 rfl ?_
  refine st_aload_n dX10_init_48 rfl ?_
  refine st_getfr dX10_init_49 f_X10_26 (by first | assumption | rfl) (by rfl) ?_
  refine st_alen dX10_init_52 (by first | assumption | rfl) (by decide) ?_
  refine st_icmp_ge (tgt := 75) dX10_init_53 (by omega) (by omega) rfl (fun c1 => absurd c1 (by omega)) (fun _ => ?_)
  refine st_aload_n dX10_init_56 rfl ?_
  refine st_getfr dX10_init_57 f_X10_26 (by first | assumption | rfl) (by rfl) ?_
  refine st_iload_n dX10_init_60 rfl ?_
  refine k_obj (ci := 2) (r := 25) (vs := [.int 0, .int 0, .int 0, .int 0, .int 0, .int 0, .int 0, .null, .null, .null, .null, .int 0, .int 0, .int 0, .null, .int 0, .null, .int 0, .int 0]) (by decide +kernel) dX10_init_61 rfl l_X10_16 in_X2 k_X2_init.2.1 (by omega) (fun j => hM _ j (by omega)) tyX2 tyX2_ok (by decide +kernel) ?_
  refine st_dup dX10_init_64 rfl ?_
  refine st_callI (d' := d - 1) (as := []) (b := 25) dX10_init_65 l_X10_18 k_X2_init n_X2_init rfl rfl (by omega) (Nat.le_of_ble_eq_true rfl) (N_X2 (P := [] ++ (10, 15, [.ref 1, .ref 3, .ref 10, .ref 17, .int 0, .null, .int 0, .null, .null, .null, .null, .null, .null, .null, .null]) :: (((S0.drop 1).take 24).set 16 (24, 4, [.ref 18, .null, .null, .null]))) (by omega) (by decide +kernel) (by omega) (fun r j hr => hM r j (by omega)) (fun r j hr => hN r j (by omega))) (fun v S1 M1 N1 hx => ?_)
  obtain ⟨rfl, rfl, e1, e2⟩ := hx
  rw [e1, e2]
  refine AW.to (st' := [.ref 25, I 1, .ref 17]) (S' := [] ++ (10, 15, [.ref 1, .ref 3, .ref 10, .ref 17, .int 0, .null, .int 0, .null, .null, .null, .null, .null, .null, .null, .null]) :: (((S0.drop 1).take 31).set 16 (24, 4, [.ref 18, .null, .null, .null]))) ?_ (h3 := by rfl) (h6 := by decide +kernel)
  refine st_aast (T := TX2) (t := 24) (nn := 4) (vs := [.ref 18, .null, .null, .null]) (ci := 2) (nv := 19) (vv := [.int 0, .int 0, .int 0, .int 0, .int 0, .int 0, .int 0, .ref 26, .ref 27, .ref 28, .ref 29, .int 0, .int 0, .int 0, .ref 30, .int 0, .ref 31, .int 0, .int 0]) dX10_init_68 (by decide +kernel) (by decide +kernel) (by omega) rfl rfl (by omega) (by omega) rfl ?_
  refine AW.to (S' := [] ++ (10, 15, [.ref 1, .ref 3, .ref 10, .ref 17, .int 0, .null, .int 0, .null, .null, .null, .null, .null, .null, .null, .null]) :: (((S0.drop 1).take 31).set 16 (24, 4, [.ref 18, .ref 25, .null, .null]))) ?_ (h6 := by decide +kernel)
  refine st_iinc (L' := [_, _]) dX10_init_69 rfl (by decide) rfl rfl ?_
  refine st_goto (tgt := 47) dX10_init_72 rfl ?_
  refine AW.to (L' := [some (.ref 0), some (I 2)]) ?_ (h2 := by rfl)
  refine st_iload_n dX10_init_47 rfl ?_
  refine st_aload_n dX10_init_48 rfl ?_
  refine st_getfr dX10_init_49 f_X10_26 (by first | assumption | rfl) (by rfl) ?_
  refine st_alen dX10_init_52 (by first | assumption | rfl) (by decide) ?_
  refine st_icmp_ge (tgt := 75) dX10_init_53 (by omega) (by omega) rfl (fun c1 => absurd c1 (by omega)) (fun _ => ?_)
  refine st_aload_n dX10_init_56 rfl ?_
  refine st_getfr dX10_init_57 f_X10_26 (by first | assumption | rfl) (by rfl) ?_
  refine st_iload_n dX10_init_60 rfl ?_
  refine k_obj (ci := 2) (r := 32) (vs := [.int 0, .int 0, .int 0, .int 0, .int 0, .int 0, .int 0, .null, .null, .null, .null, .int 0, .int 0, .int 0, .null, .int 0, .null, .int 0, .int 0]) (by decide +kernel) dX10_init_61 rfl l_X10_16 in_X2 k_X2_init.2.1 (by omega) (fun j => hM _ j (by omega)) tyX2 tyX2_ok (by decide +kernel) ?_
  refine st_dup dX10_init_64 rfl ?_
  refine st_callI (d' := d - 1) (as := []) (b := 32) dX10_init_65 l_X10_18 k_X2_init n_X2_init rfl rfl (by omega) (Nat.le_of_ble_eq_true rfl) (N_X2 (P := [] ++ (10, 15, [.ref 1, .ref 3, .ref 10, .ref 17, .int 0, .null, .int 0, .null, .null, .null, .null, .null, .null, .null, .null]) :: (((S0.drop 1).take 31).set 16 (24, 4, [.ref 18, .ref 25, .null, .null]))) (by omega) (by decide +kernel) (by omega) (fun r j hr => hM r j (by omega)) (fun r j hr => hN r j (by omega))) (fun v S1 M1 N1 hx => ?_)
  obtain ⟨rfl, rfl, e1, e2⟩ := hx
  rw [e1, e2]
  refine AW.to (st' := [.ref 32, I 2, .ref 17]) (S' := [] ++ (10, 15, [.ref 1, .ref 3, .ref 10, .ref 17, .int 0, .null, .int 0, .null, .null, .null, .null, .null, .null, .null, .null]) :: (((S0.drop 1).take 38).set 16 (24, 4, [.ref 18, .ref 25, .null, .null]))) ?_ (h3 := by rfl) (h6 := by decide +kernel)
  refine st_aast (T := TX2) (t := 24) (nn := 4) (vs := [.ref 18, .ref 25, .null, .null]) (ci := 2) (nv := 19) (vv := [.int 0, .int 0, .int 0, .int 0, .int 0, .int 0, .int 0, .ref 33, .ref 34, .ref 35, .ref 36, .int 0, .int 0, .int 0, .ref 37, .int 0, .ref 38, .int 0, .int 0]) dX10_init_68 (by decide +kernel) (by decide +kernel) (by omega) rfl rfl (by omega) (by omega) rfl ?_
  refine AW.to (S' := [] ++ (10, 15, [.ref 1, .ref 3, .ref 10, .ref 17, .int 0, .null, .int 0, .null, .null, .null, .null, .null, .null, .null, .null]) :: (((S0.drop 1).take 38).set 16 (24, 4, [.ref 18, .ref 25, .ref 32, .null]))) ?_ (h6 := by decide +kernel)
  refine st_iinc (L' := [_, _]) dX10_init_69 rfl (by decide) rfl rfl ?_
  refine st_goto (tgt := 47) dX10_init_72 rfl ?_
  refine AW.to (L' := [some (.ref 0), some (I 3)]) ?_ (h2 := by rfl)
  refine st_iload_n dX10_init_47 rfl ?_
  refine st_aload_n dX10_init_48 rfl ?_
  refine st_getfr dX10_init_49 f_X10_26 (by first | assumption | rfl) (by rfl) ?_
  refine st_alen dX10_init_52 (by first | assumption | rfl) (by decide) ?_
  refine st_icmp_ge (tgt := 75) dX10_init_53 (by omega) (by omega) rfl (fun c1 => absurd c1 (by omega)) (fun _ => ?_)
  refine st_aload_n dX10_init_56 rfl ?_
  refine st_getfr dX10_init_57 f_X10_26 (by first | assumption | rfl) (by rfl) ?_
  refine st_iload_n dX10_init_60 rfl ?_
  refine k_obj (ci := 2) (r := 39) (vs := [.int 0, .int 0, .int 0, .int 0, .int 0, .int 0, .int 0, .null, .null, .null, .null, .int 0, .int 0, .int 0, .null, .int 0, .null, .int 0, .int 0]) (by decide +kernel) dX10_init_61 rfl l_X10_16 in_X2 k_X2_init.2.1 (by omega) (fun j => hM _ j (by omega)) tyX2 tyX2_ok (by decide +kernel) ?_
  refine st_dup dX10_init_64 rfl ?_
  refine st_callI (d' := d - 1) (as := []) (b := 39) dX10_init_65 l_X10_18 k_X2_init n_X2_init rfl rfl (by omega) (Nat.le_of_ble_eq_true rfl) (N_X2 (P := [] ++ (10, 15, [.ref 1, .ref 3, .ref 10, .ref 17, .int 0, .null, .int 0, .null, .null, .null, .null, .null, .null, .null, .null]) :: (((S0.drop 1).take 38).set 16 (24, 4, [.ref 18, .ref 25, .ref 32, .null]))) (by omega) (by decide +kernel) (by omega) (fun r j hr => hM r j (by omega)) (fun r j hr => hN r j (by omega))) (fun v S1 M1 N1 hx => ?_)
  obtain ⟨rfl, rfl, e1, e2⟩ := hx
  rw [e1, e2]
  refine AW.to (st' := [.ref 39, I 3, .ref 17]) (S' := [] ++ (10, 15, [.ref 1, .ref 3, .ref 10, .ref 17, .int 0, .null, .int 0, .null, .null, .null, .null, .null, .null, .null, .null]) :: (((S0.drop 1).take 45).set 16 (24, 4, [.ref 18, .ref 25, .ref 32, .null]))) ?_ (h3 := by rfl) (h6 := by decide +kernel)
  refine st_aast (T := TX2) (t := 24) (nn := 4) (vs := [.ref 18, .ref 25, .ref 32, .null]) (ci := 2) (nv := 19) (vv := [.int 0, .int 0, .int 0, .int 0, .int 0, .int 0, .int 0, .ref 40, .ref 41, .ref 42, .ref 43, .int 0, .int 0, .int 0, .ref 44, .int 0, .ref 45, .int 0, .int 0]) dX10_init_68 (by decide +kernel) (by decide +kernel) (by omega) rfl rfl (by omega) (by omega) rfl ?_
  refine AW.to (S' := [] ++ (10, 15, [.ref 1, .ref 3, .ref 10, .ref 17, .int 0, .null, .int 0, .null, .null, .null, .null, .null, .null, .null, .null]) :: ((S0.drop 1).take 45)) ?_ (h6 := by decide +kernel)
  refine st_iinc (L' := [_, _]) dX10_init_69 rfl (by decide) rfl rfl ?_
  refine st_goto (tgt := 47) dX10_init_72 rfl ?_
  refine AW.to (L' := [some (.ref 0), some (I 4)]) ?_ (h2 := by rfl)
  refine st_iload_n dX10_init_47 rfl ?_
  refine st_aload_n dX10_init_48 rfl ?_
  refine st_getfr dX10_init_49 f_X10_26 (by first | assumption | rfl) (by rfl) ?_
  refine st_alen dX10_init_52 (by first | assumption | rfl) (by decide) ?_
  refine st_icmp_ge (tgt := 75) dX10_init_53 (by omega) (by omega) rfl (fun _ => ?_) (fun c1 => absurd (by omega) c1)
  refine st_aload_n dX10_init_75 rfl ?_
  refine st_bipush dX10_init_76 (by decide) ?_
  refine st_anew (t := 25) dX10_init_78 l_X10_30 (Or.inr ⟨rfl, rfl⟩) (Nat.le_of_ble_eq_true rfl) (Nat.le_of_ble_eq_true rfl) ?_
  refine AW.to (st' := [.ref 46, .ref 0]) (S' := [] ++ (10, 15, [.ref 1, .ref 3, .ref 10, .ref 17, .int 0, .null, .int 0, .null, .null, .null, .null, .null, .null, .null, .null]) :: (((S0.drop 1).take 46).set 45 (25, 6, [.null, .null, .null, .null, .null, .null]))) ?_ (h3 := by rfl) (h6 := by decide +kernel)
  refine k_putf (P := []) dX10_init_81 v_X10_32 rfl rfl rfl (fun _ => rfl) (fun _ => rfl) ?_
  refine AW.to (S' := [] ++ (10, 15, [.ref 1, .ref 3, .ref 10, .ref 17, .int 0, .ref 46, .int 0, .null, .null, .null, .null, .null, .null, .null, .null]) :: (((S0.drop 1).take 46).set 45 (25, 6, [.null, .null, .null, .null, .null, .null]))) ?_ (h6 := by decide +kernel)
  refine st_iconst dX10_init_84 ?_
  refine st_istore_n (L' := [_, _]) dX10_init_85 (by decide) rfl rfl ?_
  refine AW.to (L' := [some (.ref 0), some (I 0)]) ?_ (h2 := by rfl)
  refine st_iload_n dX10_init_86 rfl ?_
  refine st_aload_n dX10_init_87 rfl ?_
  refine st_getfr dX10_init_88 f_X10_32 (by first | assumption | rfl) (by rfl) ?_
  refine st_alen dX10_init_91 (by first | assumption | rfl) (by decide) ?_
  refine st_icmp_ge (tgt := 114) dX10_init_92 (by omega) (by omega) rfl (fun c1 => absurd c1 (by omega)) (fun _ => ?_)
  refine st_aload_n dX10_init_95 rfl ?_
  refine st_getfr dX10_init_96 f_X10_32 (by first | assumption | rfl) (by rfl) ?_
  refine st_iload_n dX10_init_99 rfl ?_
  refine k_obj (ci := 5) (r := 47) (vs := [.null, .int 0, .null, .null, .null, .null, .int 0]) (by decide +kernel) dX10_init_100 rfl l_X10_30 in_X5 k_X5_init.2.1 (by omega) (fun j => hM _ j (by omega)) tyX5 tyX5_ok (by decide +kernel) ?_
  refine st_dup dX10_init_103 rfl ?_
  refine st_callI (d' := d - 1) (as := []) (b := 47) dX10_init_104 l_X10_36 k_X5_init n_X5_init rfl rfl (by omega) (Nat.le_of_ble_eq_true rfl) (N_X5 (P := [] ++ (10, 15, [.ref 1, .ref 3, .ref 10, .ref 17, .int 0, .ref 46, .int 0, .null, .null, .null, .null, .null, .null, .null, .null]) :: (((S0.drop 1).take 46).set 45 (25, 6, [.null, .null, .null, .null, .null, .null]))) (by omega) (by decide +kernel) (by omega) (fun r j hr => hM r j (by omega)) (fun r j hr => hN r j (by omega))) (fun v S1 M1 N1 hx => ?_)
  obtain ⟨rfl, rfl, e1, e2⟩ := hx
  rw [e1, e2]
  refine AW.to (st' := [.ref 47, I 0, .ref 46]) (S' := [] ++ (10, 15, [.ref 1, .ref 3, .ref 10, .ref 17, .int 0, .ref 46, .int 0, .null, .null, .null, .null, .null, .null, .null, .null]) :: (((S0.drop 1).take 52).set 45 (25, 6, [.null, .null, .null, .null, .null, .null]))) ?_ (h3 := by rfl) (h6 := by decide +kernel)
  refine st_aast (T := TX5) (t := 25) (nn := 6) (vs := [.null, .null, .null, .null, .null, .null]) (ci := 5) (nv := 7) (vv := [.ref 48, .int 0, .ref 49, .ref 50, .ref 51, .ref 52, .int 0]) dX10_init_107 (by decide +kernel) (by decide +kernel) (by omega) rfl rfl (by omega) (by omega) rfl ?_
  refine AW.to (S' := [] ++ (10, 15, [.ref 1, .ref 3, .ref 10, .ref 17, .int 0, .ref 46, .int 0, .null, .null, .null, .null, .null, .null, .null, .null]) :: (((S0.drop 1).take 52).set 45 (25, 6, [.ref 47, .null, .null, .null, .null, .null]))) ?_ (h6 := by decide +kernel)
  refine st_iinc (L' := [_, _]) dX10_init_108 rfl (by decide) rfl rfl ?_
  refine st_goto (tgt := 86) dX10_init_111 rfl ?_
  refine AW.to (L' := [some (.ref 0), some (I 1)]) ?_ (h2 := by rfl)
  refine st_iload_n dX10_init_86 rfl ?_
  refine st_aload_n dX10_init_87 rfl ?_
  refine st_getfr dX10_init_88 f_X10_32 (by first | assumption | rfl) (by rfl) ?_
  refine st_alen dX10_init_91 (by first | assumption | rfl) (by decide) ?_
  refine st_icmp_ge (tgt := 114) dX10_init_92 (by omega) (by omega) rfl (fun c1 => absurd c1 (by omega)) (fun _ => ?_)
  refine st_aload_n dX10_init_95 rfl ?_
  refine st_getfr dX10_init_96 f_X10_32 (by first | assumption | rfl) (by rfl) ?_
  refine st_iload_n dX10_init_99 rfl ?_
  refine k_obj (ci := 5) (r := 53) (vs := [.null, .int 0, .null, .null, .null, .null, .int 0]) (by decide +kernel) dX10_init_100 rfl l_X10_30 in_X5 k_X5_init.2.1 (by omega) (fun j => hM _ j (by omega)) tyX5 tyX5_ok (by decide +kernel) ?_
  refine st_dup dX10_init_103 rfl ?_
  refine st_callI (d' := d - 1) (as := []) (b := 53) dX10_init_104 l_X10_36 k_X5_init n_X5_init rfl rfl (by omega) (Nat.le_of_ble_eq_true rfl) (N_X5 (P := [] ++ (10, 15, [.ref 1, .ref 3, .ref 10, .ref 17, .int 0, .ref 46, .int 0, .null, .null, .null, .null, .null, .null, .null, .null]) :: (((S0.drop 1).take 52).set 45 (25, 6, [.ref 47, .null, .null, .null, .null, .null]))) (by omega) (by decide +kernel) (by omega) (fun r j hr => hM r j (by omega)) (fun r j hr => hN r j (by omega))) (fun v S1 M1 N1 hx => ?_)
  obtain ⟨rfl, rfl, e1, e2⟩ := hx
  rw [e1, e2]
  refine AW.to (st' := [.ref 53, I 1, .ref 46]) (S' := [] ++ (10, 15, [.ref 1, .ref 3, .ref 10, .ref 17, .int 0, .ref 46, .int 0, .null, .null, .null, .null, .null, .null, .null, .null]) :: (((S0.drop 1).take 58).set 45 (25, 6, [.ref 47, .null, .null, .null, .null, .null]))) ?_ (h3 := by rfl) (h6 := by decide +kernel)
  refine st_aast (T := TX5) (t := 25) (nn := 6) (vs := [.ref 47, .null, .null, .null, .null, .null]) (ci := 5) (nv := 7) (vv := [.ref 54, .int 0, .ref 55, .ref 56, .ref 57, .ref 58, .int 0]) dX10_init_107 (by decide +kernel) (by decide +kernel) (by omega) rfl rfl (by omega) (by omega) rfl ?_
  refine AW.to (S' := [] ++ (10, 15, [.ref 1, .ref 3, .ref 10, .ref 17, .int 0, .ref 46, .int 0, .null, .null, .null, .null, .null, .null, .null, .null]) :: (((S0.drop 1).take 58).set 45 (25, 6, [.ref 47, .ref 53, .null, .null, .null, .null]))) ?_ (h6 := by decide +kernel)
  refine st_iinc (L' := [_, _]) dX10_init_108 rfl (by decide) rfl rfl ?_
  refine st_goto (tgt := 86) dX10_init_111 rfl ?_
  refine AW.to (L' := [some (.ref 0), some (I 2)]) ?_ (h2 := by rfl)
  refine st_iload_n dX10_init_86 rfl ?_
  refine st_aload_n dX10_init_87 rfl ?_
  refine st_getfr dX10_init_88 f_X10_32 (by first | assumption | rfl) (by rfl) ?_
  refine st_alen dX10_init_91 (by first | assumption | rfl) (by decide) ?_
  refine st_icmp_ge (tgt := 114) dX10_init_92 (by omega) (by omega) rfl (fun c1 => absurd c1 (by omega)) (fun _ => ?_)
  refine st_aload_n dX10_init_95 rfl ?_
  refine st_getfr dX10_init_96 f_X10_32 (by first | assumption | rfl) (by rfl) ?_
  refine st_iload_n dX10_init_99 rfl ?_
  refine k_obj (ci := 5) (r := 59) (vs := [.null, .int 0, .null, .null, .null, .null, .int 0]) (by decide +kernel) dX10_init_100 rfl l_X10_30 in_X5 k_X5_init.2.1 (by omega) (fun j => hM _ j (by omega)) tyX5 tyX5_ok (by decide +kernel) ?_
  refine st_dup dX10_init_103 rfl ?_
  refine st_callI (d' := d - 1) (as := []) (b := 59) dX10_init_104 l_X10_36 k_X5_init n_X5_init rfl rfl (by omega) (Nat.le_of_ble_eq_true rfl) (N_X5 (P := [] ++ (10, 15, [.ref 1, .ref 3, .ref 10, .ref 17, .int 0, .ref 46, .int 0, .null, .null, .null, .null, .null, .null, .null, .null]) :: (((S0.drop 1).take 58).set 45 (25, 6, [.ref 47, .ref 53, .null, .null, .null, .null]))) (by omega) (by decide +kernel) (by omega) (fun r j hr => hM r j (by omega)) (fun r j hr => hN r j (by omega))) (fun v S1 M1 N1 hx => ?_)
  obtain ⟨rfl, rfl, e1, e2⟩ := hx
  rw [e1, e2]
  refine AW.to (st' := [.ref 59, I 2, .ref 46]) (S' := [] ++ (10, 15, [.ref 1, .ref 3, .ref 10, .ref 17, .int 0, .ref 46, .int 0, .null, .null, .null, .null, .null, .null, .null, .null]) :: (((S0.drop 1).take 64).set 45 (25, 6, [.ref 47, .ref 53, .null, .null, .null, .null]))) ?_ (h3 := by rfl) (h6 := by decide +kernel)
  refine st_aast (T := TX5) (t := 25) (nn := 6) (vs := [.ref 47, .ref 53, .null, .null, .null, .null]) (ci := 5) (nv := 7) (vv := [.ref 60, .int 0, .ref 61, .ref 62, .ref 63, .ref 64, .int 0]) dX10_init_107 (by decide +kernel) (by decide +kernel) (by omega) rfl rfl (by omega) (by omega) rfl ?_
  refine AW.to (S' := [] ++ (10, 15, [.ref 1, .ref 3, .ref 10, .ref 17, .int 0, .ref 46, .int 0, .null, .null, .null, .null, .null, .null, .null, .null]) :: (((S0.drop 1).take 64).set 45 (25, 6, [.ref 47, .ref 53, .ref 59, .null, .null, .null]))) ?_ (h6 := by decide +kernel)
  refine st_iinc (L' := [_, _]) dX10_init_108 rfl (by decide) rfl rfl ?_
  refine st_goto (tgt := 86) dX10_init_111 rfl ?_
  refine AW.to (L' := [some (.ref 0), some (I 3)]) ?_ (h2 := by rfl)
  refine st_iload_n dX10_init_86 rfl ?_
  refine st_aload_n dX10_init_87 rfl ?_
  refine st_getfr dX10_init_88 f_X10_32 (by first | assumption | rfl) (by rfl) ?_
  refine st_alen dX10_init_91 (by first | assumption | rfl) (by decide) ?_
  refine st_icmp_ge (tgt := 114) dX10_init_92 (by omega) (by omega) rfl (fun c1 => absurd c1 (by omega)) (fun _ => ?_)
  refine st_aload_n dX10_init_95 rfl ?_
  refine st_getfr dX10_init_96 f_X10_32 (by first | assumption | rfl) (by rfl) ?_
  refine st_iload_n dX10_init_99 rfl ?_
  refine k_obj (ci := 5) (r := 65) (vs := [.null, .int 0, .null, .null, .null, .null, .int 0]) (by decide +kernel) dX10_init_100 rfl l_X10_30 in_X5 k_X5_init.2.1 (by omega) (fun j => hM _ j (by omega)) tyX5 tyX5_ok (by decide +kernel) ?_
  refine st_dup dX10_init_103 rfl ?_
  refine st_callI (d' := d - 1) (as := []) (b := 65) dX10_init_104 l_X10_36 k_X5_init n_X5_init rfl rfl (by omega) (Nat.le_of_ble_eq_true rfl) (N_X5 (P := [] ++ (10, 15, [.ref 1, .ref 3, .ref 10, .ref 17, .int 0, .ref 46, .int 0, .null, .null, .null, .null, .null, .null, .null, .null]) :: (((S0.drop 1).take 64).set 45 (25, 6, [.ref 47, .ref 53, .ref 59, .null, .null, .null]))) (by omega) (by decide +kernel) (by omega) (fun r j hr => hM r j (by omega)) (fun r j hr => hN r j (by omega))) (fun v S1 M1 N1 hx => ?_)
  obtain ⟨rfl, rfl, e1, e2⟩ := hx
  rw [e1, e2]
  refine AW.to (st' := [.ref 65, I 3, .ref 46]) (S' := [] ++ (10, 15, [.ref 1, .ref 3, .ref 10, .ref 17, .int 0, .ref 46, .int 0, .null, .null, .null, .null, .null, .null, .null, .null]) :: (((S0.drop 1).take 70).set 45 (25, 6, [.ref 47, .ref 53, .ref 59, .null, .null, .null]))) ?_ (h3 := by rfl) (h6 := by decide +kernel)
  refine st_aast (T := TX5) (t := 25) (nn := 6) (vs := [.ref 47, .ref 53, .ref 59, .null, .null, .null]) (ci := 5) (nv := 7) (vv := [.ref 66, .int 0, .ref 67, .ref 68, .ref 69, .ref 70, .int 0]) dX10_init_107 (by decide +kernel) (by decide +kernel) (by omega) rfl rfl (by omega) (by omega) rfl ?_
  refine AW.to (S' := [] ++ (10, 15, [.ref 1, .ref 3, .ref 10, .ref 17, .int 0, .ref 46, .int 0, .null, .null, .null, .null, .null, .null, .null, .null]) :: (((S0.drop 1).take 70).set 45 (25, 6, [.ref 47, .ref 53, .ref 59, .ref 65, .null, .null]))) ?_ (h6 := by decide +kernel)
  refine st_iinc (L' := [_, _]) dX10_init_108 rfl (by decide) rfl rfl ?_
  refine st_goto (tgt := 86) dX10_init_111 rfl ?_
  refine AW.to (L' := [some (.ref 0), some (I 4)]) ?_ (h2 := by rfl)
  refine st_iload_n dX10_init_86 rfl ?_
  refine st_aload_n dX10_init_87 rfl ?_
  refine st_getfr dX10_init_88 f_X10_32 (by first | assumption | rfl) (by rfl) ?_
  refine st_alen dX10_init_91 (by first | assumption | rfl) (by decide) ?_
  refine st_icmp_ge (tgt := 114) dX10_init_92 (by omega) (by omega) rfl (fun c1 => absurd c1 (by omega)) (fun _ => ?_)
  refine st_aload_n dX10_init_95 rfl ?_
  refine st_getfr dX10_init_96 f_X10_32 (by first | assumption | rfl) (by rfl) ?_
  refine st_iload_n dX10_init_99 rfl ?_
  refine k_obj (ci := 5) (r := 71) (vs := [.null, .int 0, .null, .null, .null, .null, .int 0]) (by decide +kernel) dX10_init_100 rfl l_X10_30 in_X5 k_X5_init.2.1 (by omega) (fun j => hM _ j (by omega)) tyX5 tyX5_ok (by decide +kernel) ?_
  refine st_dup dX10_init_103 rfl ?_
  refine st_callI (d' := d - 1) (as := []) (b := 71) dX10_init_104 l_X10_36 k_X5_init n_X5_init rfl rfl (by omega) (Nat.le_of_ble_eq_true rfl) (N_X5 (P := [] ++ (10, 15, [.ref 1, .ref 3, .ref 10, .ref 17, .int 0, .ref 46, .int 0, .null, .null, .null, .null, .null, .null, .null, .null]) :: (((S0.drop 1).take 70).set 45 (25, 6, [.ref 47, .ref 53, .ref 59, .ref 65, .null, .null]))) (by omega) (by decide +kernel) (by omega) (fun r j hr => hM r j (by omega)) (fun r j hr => hN r j (by omega))) (fun v S1 M1 N1 hx => ?_)
  obtain ⟨rfl, rfl, e1, e2⟩ := hx
  rw [e1, e2]
  refine AW.to (st' := [.ref 71, I 4, .ref 46]) (S' := [] ++ (10, 15, [.ref 1, .ref 3, .ref 10, .ref 17, .int 0, .ref 46, .int 0, .null, .null, .null, .null, .null, .null, .null, .null]) :: (((S0.drop 1).take 76).set 45 (25, 6, [.ref 47, .ref 53, .ref 59, .ref 65, .null, .null]))) ?_ (h3 := by rfl) (h6 := by decide +kernel)
  refine st_aast (T := TX5) (t := 25) (nn := 6) (vs := [.ref 47, .ref 53, .ref 59, .ref 65, .null, .null]) (ci := 5) (nv := 7) (vv := [.ref 72, .int 0, .ref 73, .ref 74, .ref 75, .ref 76, .int 0]) dX10_init_107 (by decide +kernel) (by decide +kernel) (by omega) rfl rfl (by omega) (by omega) rfl ?_
  refine AW.to (S' := [] ++ (10, 15, [.ref 1, .ref 3, .ref 10, .ref 17, .int 0, .ref 46, .int 0, .null, .null, .null, .null, .null, .null, .null, .null]) :: (((S0.drop 1).take 76).set 45 (25, 6, [.ref 47, .ref 53, .ref 59, .ref 65, .ref 71, .null]))) ?_ (h6 := by decide +kernel)
  refine st_iinc (L' := [_, _]) dX10_init_108 rfl (by decide) rfl rfl ?_
  refine st_goto (tgt := 86) dX10_init_111 rfl ?_
  refine AW.to (L' := [some (.ref 0), some (I 5)]) ?_ (h2 := by rfl)
  refine st_iload_n dX10_init_86 rfl ?_
  refine st_aload_n dX10_init_87 rfl ?_
  refine st_getfr dX10_init_88 f_X10_32 (by first | assumption | rfl) (by rfl) ?_
  refine st_alen dX10_init_91 (by first | assumption | rfl) (by decide) ?_
  refine st_icmp_ge (tgt := 114) dX10_init_92 (by omega) (by omega) rfl (fun c1 => absurd c1 (by omega)) (fun _ => ?_)
  refine st_aload_n dX10_init_95 rfl ?_
  refine st_getfr dX10_init_96 f_X10_32 (by first | assumption | rfl) (by rfl) ?_
  refine st_iload_n dX10_init_99 rfl ?_
  refine k_obj (ci := 5) (r := 77) (vs := [.null, .int 0, .null, .null, .null, .null, .int 0]) (by decide +kernel) dX10_init_100 rfl l_X10_30 in_X5 k_X5_init.2.1 (by omega) (fun j => hM _ j (by omega)) tyX5 tyX5_ok (by decide +kernel) ?_
  refine st_dup dX10_init_103 rfl ?_
  refine st_callI (d' := d - 1) (as := []) (b := 77) dX10_init_104 l_X10_36 k_X5_init n_X5_init rfl rfl (by omega) (Nat.le_of_ble_eq_true rfl) (N_X5 (P := [] ++ (10, 15, [.ref 1, .ref 3, .ref 10, .ref 17, .int 0, .ref 46, .int 0, .null, .null, .null, .null, .null, .null, .null, .null]) :: (((S0.drop 1).take 76).set 45 (25, 6, [.ref 47, .ref 53, .ref 59, .ref 65, .ref 71, .null]))) (by omega) (by decide +kernel) (by omega) (fun r j hr => hM r j (by omega)) (fun r j hr => hN r j (by omega))) (fun v S1 M1 N1 hx => ?_)
  obtain ⟨rfl, rfl, e1, e2⟩ := hx
  rw [e1, e2]
  refine AW.to (st' := [.ref 77, I 5, .ref 46]) (S' := [] ++ (10, 15, [.ref 1, .ref 3, .ref 10, .ref 17, .int 0, .ref 46, .int 0, .null, .null, .null, .null, .null, .null, .null, .null]) :: (((S0.drop 1).take 82).set 45 (25, 6, [.ref 47, .ref 53, .ref 59, .ref 65, .ref 71, .null]))) ?_ (h3 := by rfl) (h6 := by decide +kernel)
  refine st_aast (T := TX5) (t := 25) (nn := 6) (vs := [.ref 47, .ref 53, .ref 59, .ref 65, .ref 71, .null]) (ci := 5) (nv := 7) (vv := [.ref 78, .int 0, .ref 79, .ref 80, .ref 81, .ref 82, .int 0]) dX10_init_107 (by decide +kernel) (by decide +kernel) (by omega) rfl rfl (by omega) (by omega) rfl ?_
  refine AW.to (S' := [] ++ (10, 15, [.ref 1, .ref 3, .ref 10, .ref 17, .int 0, .ref 46, .int 0, .null, .null, .null, .null, .null, .null, .null, .null]) :: ((S0.drop 1).take 82)) ?_ (h6 := by decide +kernel)
  refine st_iinc (L' := [_, _]) dX10_init_108 rfl (by decide) rfl rfl ?_
  refine st_goto (tgt := 86) dX10_init_111 rfl ?_
  refine AW.to (L' := [some (.ref 0), some (I 6)]) ?_ (h2 := by rfl)
  refine st_iload_n dX10_init_86 rfl ?_
  refine st_aload_n dX10_init_87 rfl ?_
  refine st_getfr dX10_init_88 f_X10_32 (by first | assumption | rfl) (by rfl) ?_
  refine st_alen dX10_init_91 (by first | assumption | rfl) (by decide) ?_
  refine st_icmp_ge (tgt := 114) dX10_init_92 (by omega) (by omega) rfl (fun _ => ?_) (fun c1 => absurd (by omega) c1)
  refine st_aload_n dX10_init_114 rfl ?_
  refine k_obj (ci := 3) (r := 83) (vs := [.null, .null]) (by decide +kernel) dX10_init_115 rfl l_X10_37 in_X3 k_X3_init.2.1 (by omega) (fun j => hM _ j (by omega)) tyX3 tyX3_ok (by decide +kernel) ?_
  refine st_dup dX10_init_118 rfl ?_
  refine st_aload_n dX10_init_119 rfl ?_
  refine st_getfr dX10_init_120 f_X10_10 (by first | assumption | rfl) (by rfl) ?_
  refine st_aload_n dX10_init_123 rfl ?_
  refine st_getfr dX10_init_124 f_X10_23 (by first | assumption | rfl) (by rfl) ?_
  refine st_callI (d' := d - 1) (as := [.ref 1, .ref 10]) (b := 83) dX10_init_127 l_X10_39 k_X3_init n_X3_init rfl rfl (by omega) (Nat.le_of_ble_eq_true rfl) (N_X3 (P := [] ++ (10, 15, [.ref 1, .ref 3, .ref 10, .ref 17, .int 0, .ref 46, .int 0, .null, .null, .null, .null, .null, .null, .null, .null]) :: ((S0.drop 1).take 82)) (by omega) (by decide +kernel) (by omega) (fun r j hr => hM r j (by omega)) (fun r j hr => hN r j (by omega))) (fun v S1 M1 N1 hx => ?_)
  obtain ⟨rfl, rfl, e1, e2⟩ := hx
  rw [e1, e2]
  refine AW.to (st' := [.ref 83, .ref 0]) (S' := [] ++ (10, 15, [.ref 1, .ref 3, .ref 10, .ref 17, .int 0, .ref 46, .int 0, .null, .null, .null, .null, .null, .null, .null, .null]) :: ((S0.drop 1).take 83)) ?_ (h3 := by rfl) (h6 := by decide +kernel)
  refine k_putf (P := []) dX10_init_130 v_X10_42 rfl rfl rfl (fun _ => rfl) (fun _ => rfl) ?_
  refine AW.to (S' := [] ++ (10, 15, [.ref 1, .ref 3, .ref 10, .ref 17, .int 0, .ref 46, .int 0, .ref 83, .null, .null, .null, .null, .null, .null, .null]) :: ((S0.drop 1).take 83)) ?_ (h6 := by decide +kernel)
  refine st_aload_n dX10_init_133 rfl ?_
  refine k_obj (ci := 7) (r := 84) (vs := [.null, .null, .int 0, .int 0, .int 0, .int 0]) (by decide +kernel) dX10_init_134 rfl l_X10_46 in_X7 k_X7_init.2.1 (by omega) (fun j => hM _ j (by omega)) tyX7 tyX7_ok (by decide +kernel) ?_
  refine st_dup dX10_init_137 rfl ?_
  refine st_aload_n dX10_init_138 rfl ?_
  refine st_getfr dX10_init_139 f_X10_10 (by first | assumption | rfl) (by rfl) ?_
  refine st_callI (d' := d - 1) (as := [.ref 1]) (b := 84) dX10_init_142 l_X10_48 k_X7_init n_X7_init rfl rfl (by omega) (Nat.le_of_ble_eq_true rfl) (N_X7 (P := [] ++ (10, 15, [.ref 1, .ref 3, .ref 10, .ref 17, .int 0, .ref 46, .int 0, .ref 83, .null, .null, .null, .null, .null, .null, .null]) :: ((S0.drop 1).take 83)) (by omega) (by decide +kernel) (by omega) (fun r j hr => hM r j (by omega)) (fun r j hr => hN r j (by omega))) (fun v S1 M1 N1 hx => ?_)
  obtain ⟨rfl, rfl, e1, e2⟩ := hx
  rw [e1, e2]
  refine AW.to (st' := [.ref 84, .ref 0]) (S' := [] ++ (10, 15, [.ref 1, .ref 3, .ref 10, .ref 17, .int 0, .ref 46, .int 0, .ref 83, .null, .null, .null, .null, .null, .null, .null]) :: ((S0.drop 1).take 85)) ?_ (h3 := by rfl) (h6 := by decide +kernel)
  refine k_putf (P := []) dX10_init_145 v_X10_51 rfl rfl rfl (fun _ => rfl) (fun _ => rfl) ?_
  refine AW.to (S' := [] ++ (10, 15, [.ref 1, .ref 3, .ref 10, .ref 17, .int 0, .ref 46, .int 0, .ref 83, .ref 84, .null, .null, .null, .null, .null, .null]) :: ((S0.drop 1).take 85)) ?_ (h6 := by decide +kernel)
  refine st_aload_n dX10_init_148 rfl ?_
  refine k_obj (ci := 6) (r := 86) (vs := [.null, .null, .null, .null, .null, .int 0]) (by decide +kernel) dX10_init_149 rfl l_X10_55 in_X6 k_X6_init.2.1 (by omega) (fun j => hM _ j (by omega)) tyX6 tyX6_ok (by decide +kernel) ?_
  refine st_dup dX10_init_152 rfl ?_
  refine st_aload_n dX10_init_153 rfl ?_
  refine st_getfr dX10_init_154 f_X10_19 (by first | assumption | rfl) (by rfl) ?_
  refine st_callI (d' := d - 1) (as := [.ref 3]) (b := 86) dX10_init_157 l_X10_57 k_X6_init n_X6_init rfl rfl (by omega) (Nat.le_of_ble_eq_true rfl) (N_X6 (P := [] ++ (10, 15, [.ref 1, .ref 3, .ref 10, .ref 17, .int 0, .ref 46, .int 0, .ref 83, .ref 84, .null, .null, .null, .null, .null, .null]) :: ((S0.drop 1).take 85)) (by omega) (by decide +kernel) (by omega) (fun r j hr => hM r j (by omega)) (fun r j hr => hN r j (by omega))) (fun v S1 M1 N1 hx => ?_)
  obtain ⟨rfl, rfl, e1, e2⟩ := hx
  rw [e1, e2]
  refine AW.to (st' := [.ref 86, .ref 0]) (S' := [] ++ (10, 15, [.ref 1, .ref 3, .ref 10, .ref 17, .int 0, .ref 46, .int 0, .ref 83, .ref 84, .null, .null, .null, .null, .null, .null]) :: ((S0.drop 1).take 90)) ?_ (h3 := by rfl) (h6 := by decide +kernel)
  refine k_putf (P := []) dX10_init_160 v_X10_60 rfl rfl rfl (fun _ => rfl) (fun _ => rfl) ?_
  refine AW.to (S' := [] ++ (10, 15, [.ref 1, .ref 3, .ref 10, .ref 17, .int 0, .ref 46, .int 0, .ref 83, .ref 84, .ref 86, .null, .null, .null, .null, .null]) :: ((S0.drop 1).take 90)) ?_ (h6 := by decide +kernel)
  refine st_aload_n dX10_init_163 rfl ?_
  refine k_obj (ci := 1) (r := 91) (vs := [.null, .null, .null]) (by decide +kernel) dX10_init_164 rfl l_X10_64 in_X1 k_X1_init.2.1 (by omega) (fun j => hM _ j (by omega)) tyX1 tyX1_ok (by decide +kernel) ?_
  refine st_dup dX10_init_167 rfl ?_
  refine st_aload_n dX10_init_168 rfl ?_
  refine st_getfr dX10_init_169 f_X10_19 (by first | assumption | rfl) (by rfl) ?_
  refine st_callI (d' := d - 1) (as := [.ref 3]) (b := 91) dX10_init_172 l_X10_66 k_X1_init n_X1_init rfl rfl (by omega) (Nat.le_of_ble_eq_true rfl) (N_X1 (P := [] ++ (10, 15, [.ref 1, .ref 3, .ref 10, .ref 17, .int 0, .ref 46, .int 0, .ref 83, .ref 84, .ref 86, .null, .null, .null, .null, .null]) :: ((S0.drop 1).take 90)) (by omega) (by decide +kernel) (by omega) (fun r j hr => hM r j (by omega)) (fun r j hr => hN r j (by omega))) (fun v S1 M1 N1 hx => ?_)
  obtain ⟨rfl, rfl, e1, e2⟩ := hx
  rw [e1, e2]
  refine AW.to (st' := [.ref 91, .ref 0]) (S' := [] ++ (10, 15, [.ref 1, .ref 3, .ref 10, .ref 17, .int 0, .ref 46, .int 0, .ref 83, .ref 84, .ref 86, .null, .null, .null, .null, .null]) :: ((S0.drop 1).take 93)) ?_ (h3 := by rfl) (h6 := by decide +kernel)
  refine k_putf (P := []) dX10_init_175 v_X10_67 rfl rfl rfl (fun _ => rfl) (fun _ => rfl) ?_
  refine AW.to (S' := [] ++ (10, 15, [.ref 1, .ref 3, .ref 10, .ref 17, .int 0, .ref 46, .int 0, .ref 83, .ref 84, .ref 86, .ref 91, .null, .null, .null, .null]) :: ((S0.drop 1).take 93)) ?_ (h6 := by decide +kernel)
  refine st_aload_n dX10_init_178 rfl ?_
  refine k_obj (ci := 0) (r := 94) (vs := [.null, .null, .null, .null, .null, .int 0, .null, .null, .null, .null, .int 0]) (by decide +kernel) dX10_init_179 rfl l_X10_71 in_X0 k_X0_init.2.1 (by omega) (fun j => hM _ j (by omega)) tyX0 tyX0_ok (by decide +kernel) ?_
  refine st_dup dX10_init_182 rfl ?_
  refine st_aload_n dX10_init_183 rfl ?_
  refine st_getfr dX10_init_184 f_X10_19 (by first | assumption | rfl) (by rfl) ?_
  refine st_callI (d' := d - 1) (as := [.ref 3]) (b := 94) dX10_init_187 l_X10_73 k_X0_init n_X0_init rfl rfl (by omega) (Nat.le_of_ble_eq_true rfl) (N_X0 (P := [] ++ (10, 15, [.ref 1, .ref 3, .ref 10, .ref 17, .int 0, .ref 46, .int 0, .ref 83, .ref 84, .ref 86, .ref 91, .null, .null, .null, .null]) :: ((S0.drop 1).take 93)) (by omega) (by decide +kernel) (by omega) (fun r j hr => hM r j (by omega)) (fun r j hr => hN r j (by omega))) (fun v S1 M1 N1 hx => ?_)
  obtain ⟨rfl, rfl, e1, e2⟩ := hx
  rw [e1, e2]
  refine AW.to (st' := [.ref 94, .ref 0]) (S' := [] ++ (10, 15, [.ref 1, .ref 3, .ref 10, .ref 17, .int 0, .ref 46, .int 0, .ref 83, .ref 84, .ref 86, .ref 91, .null, .null, .null, .null]) :: ((S0.drop 1).take 102)) ?_ (h3 := by rfl) (h6 := by decide +kernel)
  refine k_putf (P := []) dX10_init_190 v_X10_74 rfl rfl rfl (fun _ => rfl) (fun _ => rfl) ?_
  refine AW.to (S' := [] ++ (10, 15, [.ref 1, .ref 3, .ref 10, .ref 17, .int 0, .ref 46, .int 0, .ref 83, .ref 84, .ref 86, .ref 91, .ref 94, .null, .null, .null]) :: ((S0.drop 1).take 102)) ?_ (h6 := by decide +kernel)
  refine st_aload_n dX10_init_193 rfl ?_
  refine k_obj (ci := 4) (r := 103) (vs := [.null, .null, .null]) (by decide +kernel) dX10_init_194 rfl l_X10_78 in_X4 k_X4_init.2.1 (by omega) (fun j => hM _ j (by omega)) tyX4 tyX4_ok (by decide +kernel) ?_
  refine st_dup dX10_init_197 rfl ?_
  refine st_aload_n dX10_init_198 rfl ?_
  refine st_getfr dX10_init_199 f_X10_19 (by first | assumption | rfl) (by rfl) ?_
  refine st_callI (d' := d - 1) (as := [.ref 3]) (b := 103) dX10_init_202 l_X10_80 k_X4_init n_X4_init rfl rfl (by omega) (Nat.le_of_ble_eq_true rfl) (N_X4 (P := [] ++ (10, 15, [.ref 1, .ref 3, .ref 10, .ref 17, .int 0, .ref 46, .int 0, .ref 83, .ref 84, .ref 86, .ref 91, .ref 94, .null, .null, .null]) :: ((S0.drop 1).take 102)) (by omega) (by decide +kernel) (by omega) (fun r j hr => hM r j (by omega)) (fun r j hr => hN r j (by omega))) (fun v S1 M1 N1 hx => ?_)
  obtain ⟨rfl, rfl, e1, e2⟩ := hx
  rw [e1, e2]
  refine AW.to (st' := [.ref 103, .ref 0]) (S' := [] ++ (10, 15, [.ref 1, .ref 3, .ref 10, .ref 17, .int 0, .ref 46, .int 0, .ref 83, .ref 84, .ref 86, .ref 91, .ref 94, .null, .null, .null]) :: ((S0.drop 1).take 105)) ?_ (h3 := by rfl) (h6 := by decide +kernel)
  refine k_putf (P := []) dX10_init_205 v_X10_81 rfl rfl rfl (fun _ => rfl) (fun _ => rfl) ?_
  refine AW.to (S' := [] ++ (10, 15, [.ref 1, .ref 3, .ref 10, .ref 17, .int 0, .ref 46, .int 0, .ref 83, .ref 84, .ref 86, .ref 91, .ref 94, .ref 103, .null, .null]) :: ((S0.drop 1).take 105)) ?_ (h6 := by decide +kernel)
  refine st_aload_n dX10_init_208 rfl ?_
  refine k_obj (ci := 9) (r := 106) (vs := [.null, .null, .null, .null, .null, .int 0]) (by decide +kernel) dX10_init_209 rfl l_X10_85 in_X9 k_X9_init.2.1 (by omega) (fun j => hM _ j (by omega)) tyX9 tyX9_ok (by decide +kernel) ?_
  refine st_dup dX10_init_212 rfl ?_
  refine st_aload_n dX10_init_213 rfl ?_
  refine st_getfr dX10_init_214 f_X10_19 (by first | assumption | rfl) (by rfl) ?_
  refine st_callI (d' := d - 1) (as := [.ref 3]) (b := 106) dX10_init_217 l_X10_87 k_X9_init n_X9_init rfl rfl (by omega) (Nat.le_of_ble_eq_true rfl) (N_X9 (P := [] ++ (10, 15, [.ref 1, .ref 3, .ref 10, .ref 17, .int 0, .ref 46, .int 0, .ref 83, .ref 84, .ref 86, .ref 91, .ref 94, .ref 103, .null, .null]) :: ((S0.drop 1).take 105)) (by omega) (by decide +kernel) (by omega) (fun r j hr => hM r j (by omega)) (fun r j hr => hN r j (by omega))) (fun v S1 M1 N1 hx => ?_)
  obtain ⟨rfl, rfl, e1, e2⟩ := hx
  rw [e1, e2]
  refine AW.to (st' := [.ref 106, .ref 0]) (S' := [] ++ (10, 15, [.ref 1, .ref 3, .ref 10, .ref 17, .int 0, .ref 46, .int 0, .ref 83, .ref 84, .ref 86, .ref 91, .ref 94, .ref 103, .null, .null]) :: ((S0.drop 1).take 110)) ?_ (h3 := by rfl) (h6 := by decide +kernel)
  refine k_putf (P := []) dX10_init_220 v_X10_88 rfl rfl rfl (fun _ => rfl) (fun _ => rfl) ?_
  refine AW.to (S' := [] ++ (10, 15, [.ref 1, .ref 3, .ref 10, .ref 17, .int 0, .ref 46, .int 0, .ref 83, .ref 84, .ref 86, .ref 91, .ref 94, .ref 103, .ref 106, .null]) :: ((S0.drop 1).take 110)) ?_ (h6 := by decide +kernel)
  refine st_aload_n dX10_init_223 rfl ?_
  refine st_bipush dX10_init_224 (by decide) ?_
  refine k_newi (P := []) (a := 0) (r := 111) dX10_init_226 rfl (by decide +kernel) (by omega) (fun j => hM _ j (by omega)) (Nat.le_of_ble_eq_true rfl) ?_
  refine AW.to (S' := [] ++ (10, 15, [.ref 1, .ref 3, .ref 10, .ref 17, .int 0, .ref 46, .int 0, .ref 83, .ref 84, .ref 86, .ref 91, .ref 94, .ref 103, .ref 106, .null]) :: ((S0.drop 1).take 111)) ?_ (h6 := by decide +kernel)
  refine k_putf (P := []) dX10_init_228 v_X10_92 rfl rfl rfl (fun _ => rfl) (fun _ => rfl) ?_
  refine AW.to (S' := [] ++ (10, 15, [.ref 1, .ref 3, .ref 10, .ref 17, .int 0, .ref 46, .int 0, .ref 83, .ref 84, .ref 86, .ref 91, .ref 94, .ref 103, .ref 106, .ref 111]) :: ((S0.drop 1).take 111)) ?_ (h6 := by decide +kernel)
  exact st_return dX10_init_231 rfl ⟨rfl, by decide +kernel, rfl, rfl⟩


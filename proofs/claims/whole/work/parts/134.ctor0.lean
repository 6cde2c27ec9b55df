/-! the constructors: what is new -/
theorem k_newi {G : q_G} {d : Nat} {μ : q_M} {pc : Nat} {L : List (Option Value)} {st : List Value} {P A : q_Sh} {e : q_Ent} {M : q_Mem} {N : q_MemL} {k n : Nat} {Q : q_Q} {nn a r : Nat} (hd : decode μ.2.1 pc = .ok (.newarray .int, 2)) (ha : P.length = a) (hr : a + (A.length + 1) = r) (hl : r < 900) (hM : ∀ j, M r j = 0) (hn : nn ≤ 10000) (kk : AW G d μ (pc + 2) L (.ref r :: st) (P ++ e :: (A ++ [(20, nn, [])])) M N k n Q) : AW G d μ pc L (I nn :: st) (P ++ e :: A) M N (k + 1) (n + nn) Q := by
  have hl2 : (P ++ e :: A).length = r := by rw [List.length_append, List.length_cons, ha, hr]
  refine st_newa_i hd a_int (by rw [hl2]; exact hl) (by rw [hl2]; exact hM) hn ?_
  rw [hl2, List.append_assoc, List.cons_append]
  exact kk
theorem k_newb {G : q_G} {d : Nat} {μ : q_M} {pc : Nat} {L : List (Option Value)} {st : List Value} {P A : q_Sh} {e : q_Ent} {M : q_Mem} {N : q_MemL} {k n : Nat} {Q : q_Q} {nn a r : Nat} (hd : decode μ.2.1 pc = .ok (.newarray .byte, 2)) (ha : P.length = a) (hr : a + (A.length + 1) = r) (hl : r < 900) (hM : ∀ j, M r j = 0) (hn : nn ≤ 10000) (kk : AW G d μ (pc + 2) L (.ref r :: st) (P ++ e :: (A ++ [(21, nn, [])])) M N k n Q) : AW G d μ pc L (I nn :: st) (P ++ e :: A) M N (k + 1) (n + nn) Q := by
  have hl2 : (P ++ e :: A).length = r := by rw [List.length_append, List.length_cons, ha, hr]
  refine st_newa_b hd a_byte (by rw [hl2]; exact hl) (by rw [hl2]; exact hM) hn ?_
  rw [hl2, List.append_assoc, List.cons_append]
  exact kk
theorem k_newz {G : q_G} {d : Nat} {μ : q_M} {pc : Nat} {L : List (Option Value)} {st : List Value} {P A : q_Sh} {e : q_Ent} {M : q_Mem} {N : q_MemL} {k n : Nat} {Q : q_Q} {nn a r : Nat} (hd : decode μ.2.1 pc = .ok (.newarray .boolean, 2)) (ha : P.length = a) (hr : a + (A.length + 1) = r) (hl : r < 900) (hM : ∀ j, M r j = 0) (hn : nn ≤ 10000) (kk : AW G d μ (pc + 2) L (.ref r :: st) (P ++ e :: (A ++ [(22, nn, [])])) M N k n Q) : AW G d μ pc L (I nn :: st) (P ++ e :: A) M N (k + 1) (n + nn) Q := by
  have hl2 : (P ++ e :: A).length = r := by rw [List.length_append, List.length_cons, ha, hr]
  refine st_newa_z hd a_boolean (by rw [hl2]; exact hl) (by rw [hl2]; exact hM) hn ?_
  rw [hl2, List.append_assoc, List.cons_append]
  exact kk
theorem k_newl {G : q_G} {d : Nat} {μ : q_M} {pc : Nat} {L : List (Option Value)} {st : List Value} {P A : q_Sh} {e : q_Ent} {M : q_Mem} {N : q_MemL} {k n : Nat} {Q : q_Q} {nn a r : Nat} (hd : decode μ.2.1 pc = .ok (.newarray .long, 2)) (ha : P.length = a) (hr : a + (A.length + 1) = r) (hl : r < 900) (hM : ∀ j, N r j = 0) (hn : nn ≤ 10000) (kk : AW G d μ (pc + 2) L (.ref r :: st) (P ++ e :: (A ++ [(23, nn, [])])) M N k n Q) : AW G d μ pc L (I nn :: st) (P ++ e :: A) M N (k + 1) (n + nn) Q := by
  have hl2 : (P ++ e :: A).length = r := by rw [List.length_append, List.length_cons, ha, hr]
  refine st_newa_l hd a_long (by rw [hl2]; exact hl) (by rw [hl2]; exact hM) hn ?_
  rw [hl2, List.append_assoc, List.cons_append]
  exact kk
theorem k_putf {G : q_G} {d : Nat} {μ : q_M} {pc : Nat} {L : List (Option Value)} {st : List Value} {P A : q_Sh} {M : q_Mem} {N : q_MemL} {k n : Nat} {Q : q_Q} {ci nn idx x r a : Nat} {vs : List Value} {v0 : Value} {ty : FieldType} (hd : decode μ.2.1 pc = .ok (.putfield idx, 3)) (hf : q_ff μ.1.cls idx ci x ty) (hin2 : μ.1.name = "<init>") (ha : P.length = a) (hv : vs[x]? = some v0) (hn : ∀ q : Nat, narrow ty (.ref q) = .ref q) (hfit : ∀ q : Nat, fits ty (.ref q) = true) (kk : AW G d μ (pc + 3) L st (P ++ (ci, nn, vs.set x (.ref r)) :: A) M N k n Q) : AW G d μ pc L (.ref r :: .ref a :: st) (P ++ (ci, nn, vs) :: A) M N k n Q := by
  subst ha
  refine st_putff hd hf hin2 (by rw [List.getElem?_append_right (Nat.le_refl _), Nat.sub_self]; rfl) hv hn hfit ?_
  rw [List.set_append_right _ _ (Nat.le_refl _), Nat.sub_self]
  exact kk
theorem k_obj {G : q_G} {d : Nat} {μ : q_M} {pc : Nat} {L : List (Option Value)} {st : List Value} {S : q_Sh} {M : q_Mem} {N : q_MemL} {k n : Nat} {Q : q_Q} {ci NF idx r : Nat} {Cn : String} {T : u_T} {vs : List Value} (hr : S.length = r) (hd : decode μ.2.1 pc = .ok (.new idx, 3)) (hc : vwCl[ci]? = some (Cn, T, NF)) (hl : Cond.classLink μ.1.cls idx Cn ∈ q_W) (hi : Cond.instantiable Cn NF ∈ q_W) (hini : Cond.initialized Cn ∈ q_W) (hs : r < 900) (hM : ∀ j, M r j = 0) (ty : Nat → FieldType) (hty : ∀ k, k < NF → parseFieldDescriptor (T k).2.2.1 = some (ty k)) (hfs : ∀ j, j < NF → vs[j]? = some (defaultValue (ty j)) ∧ (defaultValue (ty j) = .null ∨ defaultValue (ty j) = .int 0)) (kk : AW G d μ (pc + 3) L (.ref r :: st) (S ++ [(ci, NF, vs)]) M N k n Q) : AW G d μ pc L st S M N (k + 1) (n + NF) Q := by
  subst hr
  exact st_new hd hc hl hi hini hs hM ty hty hfs kk
theorem k_puti {G : q_G} {d : Nat} {μ : q_M} {pc : Nat} {L : List (Option Value)} {st : List Value} {P A : q_Sh} {M : q_Mem} {N : q_MemL} {k n : Nat} {Q : q_Q} {ci nn idx x a : Nat} {vs : List Value} {z0 : Int32} {z : Int} {ty : FieldType} (hd : decode μ.2.1 pc = .ok (.putfield idx, 3)) (hf : q_fw μ.1.cls idx ci x ty) (ha : P.length = a) (hv : vs[x]? = some (.int z0)) (hn : narrow ty (I z) = I z) (hfit : fits ty (I z) = true) (kk : AW G d μ (pc + 3) L st (P ++ (ci, nn, vs) :: A) (q_up M a x z) N k n Q) : AW G d μ pc L (I z :: .ref a :: st) (P ++ (ci, nn, vs) :: A) M N k n Q := by
  subst ha
  exact st_putfi hd hf (by rw [List.getElem?_append_right (Nat.le_refl _), Nat.sub_self]; rfl) hv hn hfit kk
def E_X8 (a : Nat) : q_Sh := [(8, 4, [.ref (a + 1), .int 0, .int 0, .int 0]), (21, 400, [])]
theorem N_X8 {G : q_G} {d : Nat} {P : q_Sh} {M : q_Mem} {N : q_MemL} {a : Nat} (hd : 1 ≤ d) (ha : P.length = a) (ha2 : a ≤ 800) (hM : ∀ r j, a < r → M r j = 0) (hN : ∀ r j, a < r → N r j = 0) : AC G d m_X8_init [.ref a] (P ++ [(8, 4, [.null, .int 0, .int 0, .int 0])]) M N 1 400 (fun v S1 M1 N1 => v = none ∧ S1 = P ++ E_X8 a  ∧ M1 = M ∧ N1 = N) := by
  refine AC.of (L0 := [some (.ref a)]) pn_X8 (Nat.le_of_ble_eq_true rfl) rfl ?_
  refine st_aload_n dX8_init_0 rfl ?_
  refine st_objInit dX8_init_1 l_X8_3 o_inst o_code hd (Nat.le_of_ble_eq_true rfl) ?_
  refine st_aload_n dX8_init_4 rfl ?_
  refine st_sipush dX8_init_5 (by decide) ?_
  refine k_newb (r := a + 1) dX8_init_8 ha rfl (by omega) (fun j => hM _ j (by omega)) (Nat.le_of_ble_eq_true rfl) ?_
  refine k_putf dX8_init_10 v_X8_9 rfl ha rfl (fun _ => rfl) (fun _ => rfl) ?_
  exact st_return dX8_init_13 rfl ⟨rfl, rfl, rfl, rfl⟩
def E_X2 (a : Nat) : q_Sh := [(2, 19, [.int 0, .int 0, .int 0, .int 0, .int 0, .int 0, .int 0, .ref (a + 1), .ref (a + 2), .ref (a + 3), .ref (a + 4), .int 0, .int 0, .int 0, .ref (a + 5), .int 0, .ref (a + 6), .int 0, .int 0]), (20, 8, []), (20, 7, []), (20, 3, []), (20, 42, []), (20, 100, []), (20, 24, [])]
theorem N_X2 {G : q_G} {d : Nat} {P : q_Sh} {M : q_Mem} {N : q_MemL} {a : Nat} (hd : 1 ≤ d) (ha : P.length = a) (ha2 : a ≤ 800) (hM : ∀ r j, a < r → M r j = 0) (hN : ∀ r j, a < r → N r j = 0) : AC G d m_X2_init [.ref a] (P ++ [(2, 19, [.int 0, .int 0, .int 0, .int 0, .int 0, .int 0, .int 0, .null, .null, .null, .null, .int 0, .int 0, .int 0, .null, .int 0, .null, .int 0, .int 0])]) M N 6 184 (fun v S1 M1 N1 => v = none ∧ S1 = P ++ E_X2 a  ∧ M1 = M ∧ N1 = N) := by
  refine AC.of (L0 := [some (.ref a)]) pn_X2 (Nat.le_of_ble_eq_true rfl) rfl ?_
  refine st_aload_n dX2_init_0 rfl ?_
  refine st_objInit dX2_init_1 l_X2_3 o_inst o_code hd (Nat.le_of_ble_eq_true rfl) ?_
  refine st_aload_n dX2_init_4 rfl ?_
  refine st_bipush dX2_init_5 (by decide) ?_
  refine k_newi (r := a + 1) dX2_init_7 ha rfl (by omega) (fun j => hM _ j (by omega)) (Nat.le_of_ble_eq_true rfl) ?_
  refine k_putf dX2_init_9 v_X2_9 rfl ha rfl (fun _ => rfl) (fun _ => rfl) ?_
  refine st_aload_n dX2_init_12 rfl ?_
  refine st_bipush dX2_init_13 (by decide) ?_
  refine k_newi (r := a + 2) dX2_init_15 ha rfl (by omega) (fun j => hM _ j (by omega)) (Nat.le_of_ble_eq_true rfl) ?_
  refine k_putf dX2_init_17 v_X2_15 rfl ha rfl (fun _ => rfl) (fun _ => rfl) ?_
  refine st_aload_n dX2_init_20 rfl ?_
  refine st_iconst dX2_init_21 ?_
  refine k_newi (r := a + 3) dX2_init_22 ha rfl (by omega) (fun j => hM _ j (by omega)) (Nat.le_of_ble_eq_true rfl) ?_
  refine k_putf dX2_init_24 v_X2_18 rfl ha rfl (fun _ => rfl) (fun _ => rfl) ?_
  refine st_aload_n dX2_init_27 rfl ?_
  refine st_bipush dX2_init_28 (by decide) ?_
  refine k_newi (r := a + 4) dX2_init_30 ha rfl (by omega) (fun j => hM _ j (by omega)) (Nat.le_of_ble_eq_true rfl) ?_
  refine k_putf dX2_init_32 v_X2_21 rfl ha rfl (fun _ => rfl) (fun _ => rfl) ?_
  refine st_aload_n dX2_init_35 rfl ?_
  refine st_bipush dX2_init_36 (by decide) ?_
  refine k_newi (r := a + 5) dX2_init_38 ha rfl (by omega) (fun j => hM _ j (by omega)) (Nat.le_of_ble_eq_true rfl) ?_
  refine k_putf dX2_init_40 v_X2_24 rfl ha rfl (fun _ => rfl) (fun _ => rfl) ?_
  refine st_aload_n dX2_init_43 rfl ?_
  refine st_bipush dX2_init_44 (by decide) ?_
  refine k_newi (r := a + 6) dX2_init_46 ha rfl (by omega) (fun j => hM _ j (by omega)) (Nat.le_of_ble_eq_true rfl) ?_
  refine k_putf dX2_init_48 v_X2_27 rfl ha rfl (fun _ => rfl) (fun _ => rfl) ?_
  exact st_return dX2_init_51 rfl ⟨rfl, rfl, rfl, rfl⟩
def E_X5 (a : Nat) : q_Sh := [(5, 7, [.ref (a + 1), .int 0, .ref (a + 2), .ref (a + 3), .ref (a + 4), .ref (a + 5), .int 0]), (20, 400, []), (20, 12, []), (20, 12, []), (20, 12, []), (20, 12, [])]
theorem N_X5 {G : q_G} {d : Nat} {P : q_Sh} {M : q_Mem} {N : q_MemL} {a : Nat} (hd : 1 ≤ d) (ha : P.length = a) (ha2 : a ≤ 800) (hM : ∀ r j, a < r → M r j = 0) (hN : ∀ r j, a < r → N r j = 0) : AC G d m_X5_init [.ref a] (P ++ [(5, 7, [.null, .int 0, .null, .null, .null, .null, .int 0])]) M N 5 448 (fun v S1 M1 N1 => v = none ∧ S1 = P ++ E_X5 a  ∧ M1 = M ∧ N1 = N) := by
  refine AC.of (L0 := [some (.ref a)]) pn_X5 (Nat.le_of_ble_eq_true rfl) rfl ?_
  refine st_aload_n dX5_init_0 rfl ?_
  refine st_objInit dX5_init_1 l_X5_3 o_inst o_code hd (Nat.le_of_ble_eq_true rfl) ?_
  refine st_aload_n dX5_init_4 rfl ?_
  refine st_sipush dX5_init_5 (by decide) ?_
  refine k_newi (r := a + 1) dX5_init_8 ha rfl (by omega) (fun j => hM _ j (by omega)) (Nat.le_of_ble_eq_true rfl) ?_
  refine k_putf dX5_init_10 v_X5_9 rfl ha rfl (fun _ => rfl) (fun _ => rfl) ?_
  refine st_aload_n dX5_init_13 rfl ?_
  refine st_bipush dX5_init_14 (by decide) ?_
  refine k_newi (r := a + 2) dX5_init_16 ha rfl (by omega) (fun j => hM _ j (by omega)) (Nat.le_of_ble_eq_true rfl) ?_
  refine k_putf dX5_init_18 v_X5_15 rfl ha rfl (fun _ => rfl) (fun _ => rfl) ?_
  refine st_aload_n dX5_init_21 rfl ?_
  refine st_bipush dX5_init_22 (by decide) ?_
  refine k_newi (r := a + 3) dX5_init_24 ha rfl (by omega) (fun j => hM _ j (by omega)) (Nat.le_of_ble_eq_true rfl) ?_
  refine k_putf dX5_init_26 v_X5_18 rfl ha rfl (fun _ => rfl) (fun _ => rfl) ?_
  refine st_aload_n dX5_init_29 rfl ?_
  refine st_bipush dX5_init_30 (by decide) ?_
  refine k_newi (r := a + 4) dX5_init_32 ha rfl (by omega) (fun j => hM _ j (by omega)) (Nat.le_of_ble_eq_true rfl) ?_
  refine k_putf dX5_init_34 v_X5_21 rfl ha rfl (fun _ => rfl) (fun _ => rfl) ?_
  refine st_aload_n dX5_init_37 rfl ?_
  refine st_bipush dX5_init_38 (by decide) ?_
  refine k_newi (r := a + 5) dX5_init_40 ha rfl (by omega) (fun j => hM _ j (by omega)) (Nat.le_of_ble_eq_true rfl) ?_
  refine k_putf dX5_init_42 v_X5_24 rfl ha rfl (fun _ => rfl) (fun _ => rfl) ?_
  exact st_return dX5_init_45 rfl ⟨rfl, rfl, rfl, rfl⟩
def E_X3 (a t h : Nat) : q_Sh := [(3, 2, [.ref t, .ref h])]
theorem N_X3 {G : q_G} {d : Nat} {P : q_Sh} {M : q_Mem} {N : q_MemL} {a : Nat} {t h : Nat} (hd : 1 ≤ d) (ha : P.length = a) (ha2 : a ≤ 800) (hM : ∀ r j, a < r → M r j = 0) (hN : ∀ r j, a < r → N r j = 0) : AC G d m_X3_init [.ref a, .ref t, .ref h] (P ++ [(3, 2, [.null, .null])]) M N 0 0 (fun v S1 M1 N1 => v = none ∧ S1 = P ++ E_X3 a t h ∧ M1 = M ∧ N1 = N) := by
  refine AC.of (L0 := [some (.ref a), some (.ref t), some (.ref h)]) pn_X3 (Nat.le_of_ble_eq_true rfl) rfl ?_
  refine st_aload_n dX3_init_0 rfl ?_
  refine st_objInit dX3_init_1 l_X3_3 o_inst o_code hd (Nat.le_of_ble_eq_true rfl) ?_
  refine st_aload_n dX3_init_4 rfl ?_
  refine st_aload_n dX3_init_5 rfl ?_
  refine k_putf dX3_init_6 v_X3_9 rfl ha rfl (fun _ => rfl) (fun _ => rfl) ?_
  refine st_aload_n dX3_init_9 rfl ?_
  refine st_aload_n dX3_init_10 rfl ?_
  refine k_putf dX3_init_11 v_X3_15 rfl ha rfl (fun _ => rfl) (fun _ => rfl) ?_
  exact st_return dX3_init_14 rfl ⟨rfl, rfl, rfl, rfl⟩
def E_X7 (a t : Nat) : q_Sh := [(7, 6, [.ref t, .ref (a + 1), .int 0, .int 0, .int 0, .int 0]), (20, 64, [])]
theorem N_X7 {G : q_G} {d : Nat} {P : q_Sh} {M : q_Mem} {N : q_MemL} {a : Nat} {t : Nat} (hd : 1 ≤ d) (ha : P.length = a) (ha2 : a ≤ 800) (hM : ∀ r j, a < r → M r j = 0) (hN : ∀ r j, a < r → N r j = 0) : AC G d m_X7_init [.ref a, .ref t] (P ++ [(7, 6, [.null, .null, .int 0, .int 0, .int 0, .int 0])]) M N 1 64 (fun v S1 M1 N1 => v = none ∧ S1 = P ++ E_X7 a t ∧ M1 = M ∧ N1 = N) := by
  refine AC.of (L0 := [some (.ref a), some (.ref t)]) pn_X7 (Nat.le_of_ble_eq_true rfl) rfl ?_
  refine st_aload_n dX7_init_0 rfl ?_
  refine st_objInit dX7_init_1 l_X7_3 o_inst o_code hd (Nat.le_of_ble_eq_true rfl) ?_
  refine st_aload_n dX7_init_4 rfl ?_
  refine st_bipush dX7_init_5 (by decide) ?_
  refine k_newi (r := a + 1) dX7_init_7 ha rfl (by omega) (fun j => hM _ j (by omega)) (Nat.le_of_ble_eq_true rfl) ?_
  refine k_putf dX7_init_9 v_X7_11 rfl ha rfl (fun _ => rfl) (fun _ => rfl) ?_
  refine st_aload_n dX7_init_12 rfl ?_
  refine st_aload_n dX7_init_13 rfl ?_
  refine k_putf dX7_init_14 v_X7_15 rfl ha rfl (fun _ => rfl) (fun _ => rfl) ?_
  exact st_return dX7_init_17 rfl ⟨rfl, rfl, rfl, rfl⟩
def E_X6 (a h : Nat) : q_Sh := [(6, 6, [.ref h, .ref (a + 1), .ref (a + 2), .ref (a + 3), .ref (a + 4), .int 0]), (20, 7, []), (20, 7, []), (23, 11, []), (23, 60, [])]
theorem N_X6 {G : q_G} {d : Nat} {P : q_Sh} {M : q_Mem} {N : q_MemL} {a : Nat} {h : Nat} (hd : 1 ≤ d) (ha : P.length = a) (ha2 : a ≤ 800) (hM : ∀ r j, a < r → M r j = 0) (hN : ∀ r j, a < r → N r j = 0) : AC G d m_X6_init [.ref a, .ref h] (P ++ [(6, 6, [.null, .null, .null, .null, .null, .int 0])]) M N 4 85 (fun v S1 M1 N1 => v = none ∧ S1 = P ++ E_X6 a h ∧ M1 = M ∧ N1 = N) := by
  refine AC.of (L0 := [some (.ref a), some (.ref h)]) pn_X6 (Nat.le_of_ble_eq_true rfl) rfl ?_
  refine st_aload_n dX6_init_0 rfl ?_
  refine st_objInit dX6_init_1 l_X6_3 o_inst o_code hd (Nat.le_of_ble_eq_true rfl) ?_
  refine st_aload_n dX6_init_4 rfl ?_
  refine st_bipush dX6_init_5 (by decide) ?_
  refine k_newi (r := a + 1) dX6_init_7 ha rfl (by omega) (fun j => hM _ j (by omega)) (Nat.le_of_ble_eq_true rfl) ?_
  refine k_putf dX6_init_9 v_X6_9 rfl ha rfl (fun _ => rfl) (fun _ => rfl) ?_
  refine st_aload_n dX6_init_12 rfl ?_
  refine st_bipush dX6_init_13 (by decide) ?_
  refine k_newi (r := a + 2) dX6_init_15 ha rfl (by omega) (fun j => hM _ j (by omega)) (Nat.le_of_ble_eq_true rfl) ?_
  refine k_putf dX6_init_17 v_X6_15 rfl ha rfl (fun _ => rfl) (fun _ => rfl) ?_
  refine st_aload_n dX6_init_20 rfl ?_
  refine st_bipush dX6_init_21 (by decide) ?_
  refine k_newl (r := a + 3) dX6_init_23 ha rfl (by omega) (fun j => hN _ j (by omega)) (Nat.le_of_ble_eq_true rfl) ?_
  refine k_putf dX6_init_25 v_X6_20 rfl ha rfl (fun _ => rfl) (fun _ => rfl) ?_
  refine st_aload_n dX6_init_28 rfl ?_
  refine st_bipush dX6_init_29 (by decide) ?_
  refine k_newl (r := a + 4) dX6_init_31 ha rfl (by omega) (fun j => hN _ j (by omega)) (Nat.le_of_ble_eq_true rfl) ?_
  refine k_putf dX6_init_33 v_X6_26 rfl ha rfl (fun _ => rfl) (fun _ => rfl) ?_
  refine st_aload_n dX6_init_36 rfl ?_
  refine st_aload_n dX6_init_37 rfl ?_
  refine k_putf dX6_init_38 v_X6_29 rfl ha rfl (fun _ => rfl) (fun _ => rfl) ?_
  exact st_return dX6_init_41 rfl ⟨rfl, rfl, rfl, rfl⟩
def E_X1 (a h : Nat) : q_Sh := [(1, 3, [.ref h, .ref (a + 1), .ref (a + 2)]), (20, 7, []), (20, 2001, [])]
theorem N_X1 {G : q_G} {d : Nat} {P : q_Sh} {M : q_Mem} {N : q_MemL} {a : Nat} {h : Nat} (hd : 1 ≤ d) (ha : P.length = a) (ha2 : a ≤ 800) (hM : ∀ r j, a < r → M r j = 0) (hN : ∀ r j, a < r → N r j = 0) : AC G d m_X1_init [.ref a, .ref h] (P ++ [(1, 3, [.null, .null, .null])]) M N 2 2008 (fun v S1 M1 N1 => v = none ∧ S1 = P ++ E_X1 a h ∧ M1 = M ∧ N1 = N) := by
  refine AC.of (L0 := [some (.ref a), some (.ref h)]) pn_X1 (Nat.le_of_ble_eq_true rfl) rfl ?_
  refine st_aload_n dX1_init_0 rfl ?_
  refine st_objInit dX1_init_1 l_X1_3 o_inst o_code hd (Nat.le_of_ble_eq_true rfl) ?_
  refine st_aload_n dX1_init_4 rfl ?_
  refine st_bipush dX1_init_5 (by decide) ?_
  refine k_newi (r := a + 1) dX1_init_7 ha rfl (by omega) (fun j => hM _ j (by omega)) (Nat.le_of_ble_eq_true rfl) ?_
  refine k_putf dX1_init_9 v_X1_9 rfl ha rfl (fun _ => rfl) (fun _ => rfl) ?_
  refine st_aload_n dX1_init_12 rfl ?_
  refine st_sipush dX1_init_13 (by decide) ?_
  refine k_newi (r := a + 2) dX1_init_16 ha rfl (by omega) (fun j => hM _ j (by omega)) (Nat.le_of_ble_eq_true rfl) ?_
  refine k_putf dX1_init_18 v_X1_15 rfl ha rfl (fun _ => rfl) (fun _ => rfl) ?_
  refine st_aload_n dX1_init_21 rfl ?_
  refine st_aload_n dX1_init_22 rfl ?_
  refine k_putf dX1_init_23 v_X1_18 rfl ha rfl (fun _ => rfl) (fun _ => rfl) ?_
  exact st_return dX1_init_26 rfl ⟨rfl, rfl, rfl, rfl⟩
def E_X0 (a h : Nat) : q_Sh := [(0, 11, [.ref h, .ref (a + 1), .ref (a + 2), .ref (a + 3), .ref (a + 4), .int 0, .ref (a + 5), .ref (a + 6), .ref (a + 7), .ref (a + 8), .int 0]), (20, 600, []), (20, 600, []), (20, 600, []), (20, 2048, []), (20, 7, []), (20, 7, []), (20, 128, []), (20, 128, [])]
theorem N_X0 {G : q_G} {d : Nat} {P : q_Sh} {M : q_Mem} {N : q_MemL} {a : Nat} {h : Nat} (hd : 1 ≤ d) (ha : P.length = a) (ha2 : a ≤ 800) (hM : ∀ r j, a < r → M r j = 0) (hN : ∀ r j, a < r → N r j = 0) : AC G d m_X0_init [.ref a, .ref h] (P ++ [(0, 11, [.null, .null, .null, .null, .null, .int 0, .null, .null, .null, .null, .int 0])]) M N 8 4118 (fun v S1 M1 N1 => v = none ∧ S1 = P ++ E_X0 a h ∧ M1 = M ∧ N1 = N) := by
  refine AC.of (L0 := [some (.ref a), some (.ref h)]) pn_X0 (Nat.le_of_ble_eq_true rfl) rfl ?_
  refine st_aload_n dX0_init_0 rfl ?_
  refine st_objInit dX0_init_1 l_X0_3 o_inst o_code hd (Nat.le_of_ble_eq_true rfl) ?_
  refine st_aload_n dX0_init_4 rfl ?_
  refine st_sipush dX0_init_5 (by decide) ?_
  refine k_newi (r := a + 1) dX0_init_8 ha rfl (by omega) (fun j => hM _ j (by omega)) (Nat.le_of_ble_eq_true rfl) ?_
  refine k_putf dX0_init_10 v_X0_11 rfl ha rfl (fun _ => rfl) (fun _ => rfl) ?_
  refine st_aload_n dX0_init_13 rfl ?_
  refine st_sipush dX0_init_14 (by decide) ?_
  refine k_newi (r := a + 2) dX0_init_17 ha rfl (by omega) (fun j => hM _ j (by omega)) (Nat.le_of_ble_eq_true rfl) ?_
  refine k_putf dX0_init_19 v_X0_15 rfl ha rfl (fun _ => rfl) (fun _ => rfl) ?_
  refine st_aload_n dX0_init_22 rfl ?_
  refine st_sipush dX0_init_23 (by decide) ?_
  refine k_newi (r := a + 3) dX0_init_26 ha rfl (by omega) (fun j => hM _ j (by omega)) (Nat.le_of_ble_eq_true rfl) ?_
  refine k_putf dX0_init_28 v_X0_18 rfl ha rfl (fun _ => rfl) (fun _ => rfl) ?_
  refine st_aload_n dX0_init_31 rfl ?_
  refine st_sipush dX0_init_32 (by decide) ?_
  refine k_newi (r := a + 4) dX0_init_35 ha rfl (by omega) (fun j => hM _ j (by omega)) (Nat.le_of_ble_eq_true rfl) ?_
  refine k_putf dX0_init_37 v_X0_21 rfl ha rfl (fun _ => rfl) (fun _ => rfl) ?_
  refine st_aload_n dX0_init_40 rfl ?_
  refine st_bipush dX0_init_41 (by decide) ?_
  refine k_newi (r := a + 5) dX0_init_43 ha rfl (by omega) (fun j => hM _ j (by omega)) (Nat.le_of_ble_eq_true rfl) ?_
  refine k_putf dX0_init_45 v_X0_24 rfl ha rfl (fun _ => rfl) (fun _ => rfl) ?_
  refine st_aload_n dX0_init_48 rfl ?_
  refine st_bipush dX0_init_49 (by decide) ?_
  refine k_newi (r := a + 6) dX0_init_51 ha rfl (by omega) (fun j => hM _ j (by omega)) (Nat.le_of_ble_eq_true rfl) ?_
  refine k_putf dX0_init_53 v_X0_27 rfl ha rfl (fun _ => rfl) (fun _ => rfl) ?_
  refine st_aload_n dX0_init_56 rfl ?_
  refine st_sipush dX0_init_57 (by decide) ?_
  refine k_newi (r := a + 7) dX0_init_60 ha rfl (by omega) (fun j => hM _ j (by omega)) (Nat.le_of_ble_eq_true rfl) ?_
  refine k_putf dX0_init_62 v_X0_30 rfl ha rfl (fun _ => rfl) (fun _ => rfl) ?_
  refine st_aload_n dX0_init_65 rfl ?_
  refine st_sipush dX0_init_66 (by decide) ?_
  refine k_newi (r := a + 8) dX0_init_69 ha rfl (by omega) (fun j => hM _ j (by omega)) (Nat.le_of_ble_eq_true rfl) ?_
  refine k_putf dX0_init_71 v_X0_33 rfl ha rfl (fun _ => rfl) (fun _ => rfl) ?_
  refine st_aload_n dX0_init_74 rfl ?_
  refine st_aload_n dX0_init_75 rfl ?_
  refine k_putf dX0_init_76 v_X0_36 rfl ha rfl (fun _ => rfl) (fun _ => rfl) ?_
  exact st_return dX0_init_79 rfl ⟨rfl, rfl, rfl, rfl⟩
def E_X4 (a h : Nat) : q_Sh := [(4, 3, [.ref h, .ref (a + 1), .ref (a + 2)]), (20, 7, []), (20, 3, [])]
theorem N_X4 {G : q_G} {d : Nat} {P : q_Sh} {M : q_Mem} {N : q_MemL} {a : Nat} {h : Nat} (hd : 1 ≤ d) (ha : P.length = a) (ha2 : a ≤ 800) (hM : ∀ r j, a < r → M r j = 0) (hN : ∀ r j, a < r → N r j = 0) : AC G d m_X4_init [.ref a, .ref h] (P ++ [(4, 3, [.null, .null, .null])]) M N 2 10 (fun v S1 M1 N1 => v = none ∧ S1 = P ++ E_X4 a h ∧ M1 = M ∧ N1 = N) := by
  refine AC.of (L0 := [some (.ref a), some (.ref h)]) pn_X4 (Nat.le_of_ble_eq_true rfl) rfl ?_
  refine st_aload_n dX4_init_0 rfl ?_
  refine st_objInit dX4_init_1 l_X4_3 o_inst o_code hd (Nat.le_of_ble_eq_true rfl) ?_
  refine st_aload_n dX4_init_4 rfl ?_
  refine st_bipush dX4_init_5 (by decide) ?_
  refine k_newi (r := a + 1) dX4_init_7 ha rfl (by omega) (fun j => hM _ j (by omega)) (Nat.le_of_ble_eq_true rfl) ?_
  refine k_putf dX4_init_9 v_X4_9 rfl ha rfl (fun _ => rfl) (fun _ => rfl) ?_
  refine st_aload_n dX4_init_12 rfl ?_
  refine st_iconst dX4_init_13 ?_
  refine k_newi (r := a + 2) dX4_init_14 ha rfl (by omega) (fun j => hM _ j (by omega)) (Nat.le_of_ble_eq_true rfl) ?_
  refine k_putf dX4_init_16 v_X4_15 rfl ha rfl (fun _ => rfl) (fun _ => rfl) ?_
  refine st_aload_n dX4_init_19 rfl ?_
  refine st_aload_n dX4_init_20 rfl ?_
  refine k_putf dX4_init_21 v_X4_18 rfl ha rfl (fun _ => rfl) (fun _ => rfl) ?_
  exact st_return dX4_init_24 rfl ⟨rfl, rfl, rfl, rfl⟩
def E_X9 (a h : Nat) : q_Sh := [(9, 6, [.ref h, .ref (a + 1), .ref (a + 2), .ref (a + 3), .ref (a + 4), .int 0]), (20, 960, []), (20, 960, []), (20, 960, []), (20, 31, [])]
theorem N_X9 {G : q_G} {d : Nat} {P : q_Sh} {M : q_Mem} {N : q_MemL} {a : Nat} {h : Nat} (hd : 1 ≤ d) (ha : P.length = a) (ha2 : a ≤ 800) (hM : ∀ r j, a < r → M r j = 0) (hN : ∀ r j, a < r → N r j = 0) : AC G d m_X9_init [.ref a, .ref h] (P ++ [(9, 6, [.null, .null, .null, .null, .null, .int 0])]) M N 4 2911 (fun v S1 M1 N1 => v = none ∧ S1 = P ++ E_X9 a h ∧ M1 = M ∧ N1 = N) := by
  refine AC.of (L0 := [some (.ref a), some (.ref h)]) pn_X9 (Nat.le_of_ble_eq_true rfl) rfl ?_
  refine st_aload_n dX9_init_0 rfl ?_
  refine st_objInit dX9_init_1 l_X9_3 o_inst o_code hd (Nat.le_of_ble_eq_true rfl) ?_
  refine st_aload_n dX9_init_4 rfl ?_
  refine st_sipush dX9_init_5 (by decide) ?_
  refine k_newi (r := a + 1) dX9_init_8 ha rfl (by omega) (fun j => hM _ j (by omega)) (Nat.le_of_ble_eq_true rfl) ?_
  refine k_putf dX9_init_10 v_X9_11 rfl ha rfl (fun _ => rfl) (fun _ => rfl) ?_
  refine st_aload_n dX9_init_13 rfl ?_
  refine st_sipush dX9_init_14 (by decide) ?_
  refine k_newi (r := a + 2) dX9_init_17 ha rfl (by omega) (fun j => hM _ j (by omega)) (Nat.le_of_ble_eq_true rfl) ?_
  refine k_putf dX9_init_19 v_X9_15 rfl ha rfl (fun _ => rfl) (fun _ => rfl) ?_
  refine st_aload_n dX9_init_22 rfl ?_
  refine st_sipush dX9_init_23 (by decide) ?_
  refine k_newi (r := a + 3) dX9_init_26 ha rfl (by omega) (fun j => hM _ j (by omega)) (Nat.le_of_ble_eq_true rfl) ?_
  refine k_putf dX9_init_28 v_X9_18 rfl ha rfl (fun _ => rfl) (fun _ => rfl) ?_
  refine st_aload_n dX9_init_31 rfl ?_
  refine st_bipush dX9_init_32 (by decide) ?_
  refine k_newi (r := a + 4) dX9_init_34 ha rfl (by omega) (fun j => hM _ j (by omega)) (Nat.le_of_ble_eq_true rfl) ?_
  refine k_putf dX9_init_36 v_X9_21 rfl ha rfl (fun _ => rfl) (fun _ => rfl) ?_
  refine st_aload_n dX9_init_39 rfl ?_
  refine st_aload_n dX9_init_40 rfl ?_
  refine k_putf dX9_init_41 v_X9_24 rfl ha rfl (fun _ => rfl) (fun _ => rfl) ?_
  exact st_return dX9_init_44 rfl ⟨rfl, rfl, rfl, rfl⟩


/-! numbers -/
theorem zi_toInt {x : Int} (hx : -2147483648 ≤ x ∧ x < 2147483648) : (zi x).toInt = x := Int32.toInt_ofInt_of_le hx.1 hx.2
theorem zi_lt {x y : Int} (hx : -2147483648 ≤ x ∧ x < 2147483648) (hy : -2147483648 ≤ y ∧ y < 2147483648) : zi x < zi y ↔ x < y := by
  rw [Int32.lt_iff_toInt_lt, zi_toInt hx, zi_toInt hy]
theorem zi_le {x y : Int} (hx : -2147483648 ≤ x ∧ x < 2147483648) (hy : -2147483648 ≤ y ∧ y < 2147483648) : zi x ≤ zi y ↔ x ≤ y := by
  rw [Int32.le_iff_toInt_le, zi_toInt hx, zi_toInt hy]
theorem zi_eq {x y : Int} (hx : -2147483648 ≤ x ∧ x < 2147483648) (hy : -2147483648 ≤ y ∧ y < 2147483648) : zi x = zi y ↔ x = y := by
  rw [← Int32.toInt_inj, zi_toInt hx, zi_toInt hy]
theorem zi_0 : zi 0 = 0 := rfl
theorem zi_eq0 {x : Int} (hx : -2147483648 ≤ x ∧ x < 2147483648) : zi x = 0 ↔ x = 0 := zi_eq (y := 0) hx (by decide)
theorem zi_lt0 {x : Int} (hx : -2147483648 ≤ x ∧ x < 2147483648) : zi x < 0 ↔ x < 0 := zi_lt (y := 0) hx (by decide)
theorem zi_le0 {x : Int} (hx : -2147483648 ≤ x ∧ x < 2147483648) : zi x ≤ 0 ↔ x ≤ 0 := zi_le (y := 0) hx (by decide)
theorem zi_ge0 {x : Int} (hx : -2147483648 ≤ x ∧ x < 2147483648) : 0 ≤ zi x ↔ 0 ≤ x := zi_le (x := 0) (by decide) hx
theorem zi_gt0 {x : Int} (hx : -2147483648 ≤ x ∧ x < 2147483648) : 0 < zi x ↔ 0 < x := zi_lt (x := 0) (by decide) hx
theorem zi_clamp {x : Int} (hx : 0 ≤ x ∧ x < 2147483648) : (zi x).toNatClampNeg = x.toNat := Int32.toNatClampNeg_ofInt_of_le (by omega) (by omega)
/-! the instructions that touch neither heap nor methods -/
theorem st_iconst {G : q_G} {d : Nat} {μ : q_M} {pc : Nat} {L : List (Option Value)} {st : List Value} {S : q_Sh} {M : q_Mem} {N : q_MemL} {k n : Nat} {Q : q_Q} {c : Int} (hd : decode μ.2.1 pc = .ok (.iconst c, 1)) (kk : AW G d μ (pc + 1) L (I c :: st) S M N k n Q) : AW G d μ pc L st S M N k n Q := by
  refine AW.op (fun p e R s m args below meth c Z H locs ls cells slots C hR hS hL kw => ?_) kk
  exact lv_iconst C.1 C.2.1 hd rfl kw
theorem st_bipush {G : q_G} {d : Nat} {μ : q_M} {pc : Nat} {L : List (Option Value)} {st : List Value} {S : q_Sh} {M : q_Mem} {N : q_MemL} {k n : Nat} {Q : q_Q} {c : Int} (hd : decode μ.2.1 pc = .ok (.bipush c, 2)) (hv : (Int8.ofInt c).toInt32 = zi c := by decide) (kk : AW G d μ (pc + 2) L (I c :: st) S M N k n Q) : AW G d μ pc L st S M N k n Q := by
  refine AW.op (fun p e R s m args below meth c Z H locs ls cells slots C hR hS hL kw => ?_) kk
  exact lv_bipush C.1 C.2.1 hd hv kw
theorem st_sipush {G : q_G} {d : Nat} {μ : q_M} {pc : Nat} {L : List (Option Value)} {st : List Value} {S : q_Sh} {M : q_Mem} {N : q_MemL} {k n : Nat} {Q : q_Q} {c : Int} (hd : decode μ.2.1 pc = .ok (.sipush c, 3)) (hv : (Int16.ofInt c).toInt32 = zi c := by decide) (kk : AW G d μ (pc + 3) L (I c :: st) S M N k n Q) : AW G d μ pc L st S M N k n Q := by
  refine AW.op (fun p e R s m args below meth c Z H locs ls cells slots C hR hS hL kw => ?_) kk
  exact lv_sipush C.1 C.2.1 hd hv kw
theorem st_lconst {G : q_G} {d : Nat} {μ : q_M} {pc : Nat} {L : List (Option Value)} {st : List Value} {S : q_Sh} {M : q_Mem} {N : q_MemL} {k n : Nat} {Q : q_Q} {c : Fin 2} (hd : decode μ.2.1 pc = .ok (.lconst c, 1)) (kk : AW G d μ (pc + 1) L (.long (Int64.ofNat (c : Nat)) :: st) S M N k n Q) : AW G d μ pc L st S M N k n Q := by
  refine AW.op (fun p e R s m args below meth c Z H locs ls cells slots C hR hS hL kw => ?_) kk
  exact lv_lconst C.1 C.2.1 hd rfl kw
theorem st_ldc {G : q_G} {d : Nat} {μ : q_M} {pc : Nat} {L : List (Option Value)} {st : List Value} {S : q_Sh} {M : q_Mem} {N : q_MemL} {k n : Nat} {Q : q_Q} {i : Nat} {v : Int} (hd : decode μ.2.1 pc = .ok (.ldc i, 2)) (hc : Cond.constant μ.1.cls i (zi v) ∈ q_W) (kk : AW G d μ (pc + 2) L (I v :: st) S M N k n Q) : AW G d μ pc L st S M N k n Q := by
  refine AW.op (fun p e R s m args below meth c Z H locs ls cells slots C hR hS hL kw => ?_) kk
  exact lv_ldc C.1 C.2.1 C.2.2.2.1 (C.2.2.2.2.1 _ hc) hd kw
theorem st_ldcw {G : q_G} {d : Nat} {μ : q_M} {pc : Nat} {L : List (Option Value)} {st : List Value} {S : q_Sh} {M : q_Mem} {N : q_MemL} {k n : Nat} {Q : q_Q} {i : Nat} {v : Int} (hd : decode μ.2.1 pc = .ok (.ldc_w i, 3)) (hc : Cond.constant μ.1.cls i (zi v) ∈ q_W) (kk : AW G d μ (pc + 3) L (I v :: st) S M N k n Q) : AW G d μ pc L st S M N k n Q := by
  refine AW.op (fun p e R s m args below meth c Z H locs ls cells slots C hR hS hL kw => ?_) kk
  exact lv_ldcw C.1 C.2.1 C.2.2.2.1 (C.2.2.2.2.1 _ hc) hd kw
theorem st_ldc2 {G : q_G} {d : Nat} {μ : q_M} {pc : Nat} {L : List (Option Value)} {st : List Value} {S : q_Sh} {M : q_Mem} {N : q_MemL} {k n : Nat} {Q : q_Q} {i : Nat} {v : Int64} (hd : decode μ.2.1 pc = .ok (.ldc2_w i, 3)) (hc : Cond.constantLong μ.1.cls i v ∈ q_W) (kk : AW G d μ (pc + 3) L (.long v :: st) S M N k n Q) : AW G d μ pc L st S M N k n Q := by
  refine AW.op (fun p e R s m args below meth c Z H locs ls cells slots C hR hS hL kw => ?_) kk
  exact lv_ldc2 C.1 C.2.1 C.2.2.2.1 (C.2.2.2.2.1 _ hc) hd kw
theorem st_iload_n {G : q_G} {d : Nat} {μ : q_M} {pc : Nat} {L : List (Option Value)} {st : List Value} {S : q_Sh} {M : q_Mem} {N : q_MemL} {k n : Nat} {Q : q_Q} {x : Int32} {j : Fin 4} (hd : decode μ.2.1 pc = .ok (.iload_n j, 1)) (hv : L[(j : Nat)]? = some (some (.int x))) (kk : AW G d μ (pc + 1) L (.int x :: st) S M N k n Q) : AW G d μ pc L st S M N k n Q := by
  refine AW.op (fun p e R s m args below meth c Z H locs ls cells slots C hR hS hL kw => ?_) kk
  exact lv_iload_n C.1 C.2.1 hd rfl (hL.get hv) kw
theorem st_iload {G : q_G} {d : Nat} {μ : q_M} {pc : Nat} {L : List (Option Value)} {st : List Value} {S : q_Sh} {M : q_Mem} {N : q_MemL} {k n : Nat} {Q : q_Q} {x : Int32} {j : Nat} (hd : decode μ.2.1 pc = .ok (.iload j, 2)) (hv : L[j]? = some (some (.int x))) (kk : AW G d μ (pc + 2) L (.int x :: st) S M N k n Q) : AW G d μ pc L st S M N k n Q := by
  refine AW.op (fun p e R s m args below meth c Z H locs ls cells slots C hR hS hL kw => ?_) kk
  exact lv_iload C.1 C.2.1 hd (hL.get hv) kw
theorem st_lload_n {G : q_G} {d : Nat} {μ : q_M} {pc : Nat} {L : List (Option Value)} {st : List Value} {S : q_Sh} {M : q_Mem} {N : q_MemL} {k n : Nat} {Q : q_Q} {x : Int64} {j : Fin 4} (hd : decode μ.2.1 pc = .ok (.lload_n j, 1)) (hv : L[(j : Nat)]? = some (some (.long x))) (kk : AW G d μ (pc + 1) L (.long x :: st) S M N k n Q) : AW G d μ pc L st S M N k n Q := by
  refine AW.op (fun p e R s m args below meth c Z H locs ls cells slots C hR hS hL kw => ?_) kk
  exact lv_lload_n C.1 C.2.1 hd rfl (hL.get hv) kw
theorem st_lload {G : q_G} {d : Nat} {μ : q_M} {pc : Nat} {L : List (Option Value)} {st : List Value} {S : q_Sh} {M : q_Mem} {N : q_MemL} {k n : Nat} {Q : q_Q} {x : Int64} {j : Nat} (hd : decode μ.2.1 pc = .ok (.lload j, 2)) (hv : L[j]? = some (some (.long x))) (kk : AW G d μ (pc + 2) L (.long x :: st) S M N k n Q) : AW G d μ pc L st S M N k n Q := by
  refine AW.op (fun p e R s m args below meth c Z H locs ls cells slots C hR hS hL kw => ?_) kk
  exact lv_lload C.1 C.2.1 hd (hL.get hv) kw
theorem st_aload_n {G : q_G} {d : Nat} {μ : q_M} {pc : Nat} {L : List (Option Value)} {st : List Value} {S : q_Sh} {M : q_Mem} {N : q_MemL} {k n : Nat} {Q : q_Q} {a : Nat} {j : Fin 4} (hd : decode μ.2.1 pc = .ok (.aload_n j, 1)) (hv : L[(j : Nat)]? = some (some (.ref a))) (kk : AW G d μ (pc + 1) L (.ref a :: st) S M N k n Q) : AW G d μ pc L st S M N k n Q := by
  refine AW.op (fun p e R s m args below meth c Z H locs ls cells slots C hR hS hL kw => ?_) kk
  exact lv_aload_n C.1 C.2.1 hd rfl (hL.get hv) kw
theorem st_aload {G : q_G} {d : Nat} {μ : q_M} {pc : Nat} {L : List (Option Value)} {st : List Value} {S : q_Sh} {M : q_Mem} {N : q_MemL} {k n : Nat} {Q : q_Q} {a : Nat} {j : Nat} (hd : decode μ.2.1 pc = .ok (.aload j, 2)) (hv : L[j]? = some (some (.ref a))) (kk : AW G d μ (pc + 2) L (.ref a :: st) S M N k n Q) : AW G d μ pc L st S M N k n Q := by
  refine AW.op (fun p e R s m args below meth c Z H locs ls cells slots C hR hS hL kw => ?_) kk
  exact lv_aload C.1 C.2.1 hd (hL.get hv) kw
theorem st_aload_nN {G : q_G} {d : Nat} {μ : q_M} {pc : Nat} {L : List (Option Value)} {st : List Value} {S : q_Sh} {M : q_Mem} {N : q_MemL} {k n : Nat} {Q : q_Q} {j : Fin 4} (hd : decode μ.2.1 pc = .ok (.aload_n j, 1)) (hv : L[(j : Nat)]? = some (some .null)) (kk : AW G d μ (pc + 1) L (.null :: st) S M N k n Q) : AW G d μ pc L st S M N k n Q := by
  refine AW.op (fun p e R s m args below meth c Z H locs ls cells slots C hR hS hL kw => ?_) kk
  exact lv_aload_nN C.1 C.2.1 hd rfl (hL.get hv) kw
theorem st_iadd {G : q_G} {d : Nat} {μ : q_M} {pc : Nat} {L : List (Option Value)} {st : List Value} {S : q_Sh} {M : q_Mem} {N : q_MemL} {k n : Nat} {Q : q_Q} {x y : Int} (hd : decode μ.2.1 pc = .ok (.iadd, 1)) (kk : AW G d μ (pc + 1) L (I (x + y) :: st) S M N k n Q) : AW G d μ pc L (I y :: I x :: st) S M N k n Q := by
  refine AW.op (fun p e R s m args below meth c Z H locs ls cells slots C hR hS hL kw => ?_) kk
  rw [List.map_cons, show q_cv G (I (x + y)) = .int (zi x + zi y) from congrArg Value.int (Int32.ofInt_add x y)] at kw
  exact lv_iadd C.1 C.2.1 hd kw
theorem st_isub {G : q_G} {d : Nat} {μ : q_M} {pc : Nat} {L : List (Option Value)} {st : List Value} {S : q_Sh} {M : q_Mem} {N : q_MemL} {k n : Nat} {Q : q_Q} {x y : Int} (hd : decode μ.2.1 pc = .ok (.isub, 1)) (kk : AW G d μ (pc + 1) L (I (x - y) :: st) S M N k n Q) : AW G d μ pc L (I y :: I x :: st) S M N k n Q := by
  refine AW.op (fun p e R s m args below meth c Z H locs ls cells slots C hR hS hL kw => ?_) kk
  rw [List.map_cons, show q_cv G (I (x - y)) = .int (zi x - zi y) from congrArg Value.int (Int32.ofInt_sub x y)] at kw
  exact lv_isub C.1 C.2.1 hd kw
theorem st_imul {G : q_G} {d : Nat} {μ : q_M} {pc : Nat} {L : List (Option Value)} {st : List Value} {S : q_Sh} {M : q_Mem} {N : q_MemL} {k n : Nat} {Q : q_Q} {x y : Int} (hd : decode μ.2.1 pc = .ok (.imul, 1)) (kk : AW G d μ (pc + 1) L (I (x * y) :: st) S M N k n Q) : AW G d μ pc L (I y :: I x :: st) S M N k n Q := by
  refine AW.op (fun p e R s m args below meth c Z H locs ls cells slots C hR hS hL kw => ?_) kk
  rw [List.map_cons, show q_cv G (I (x * y)) = .int (zi x * zi y) from congrArg Value.int (Int32.ofInt_mul x y)] at kw
  exact lv_imul C.1 C.2.1 hd kw
theorem st_ineg {G : q_G} {d : Nat} {μ : q_M} {pc : Nat} {L : List (Option Value)} {st : List Value} {S : q_Sh} {M : q_Mem} {N : q_MemL} {k n : Nat} {Q : q_Q} {x : Int} (hd : decode μ.2.1 pc = .ok (.ineg, 1)) (kk : AW G d μ (pc + 1) L (I (-x) :: st) S M N k n Q) : AW G d μ pc L (I x :: st) S M N k n Q := by
  refine AW.op (fun p e R s m args below meth c Z H locs ls cells slots C hR hS hL kw => ?_) kk
  rw [List.map_cons, show q_cv G (I (-x)) = .int (-(zi x)) from congrArg Value.int (Int32.ofInt_neg x)] at kw
  exact lv_ineg C.1 C.2.1 hd kw
theorem st_iand {G : q_G} {d : Nat} {μ : q_M} {pc : Nat} {L : List (Option Value)} {st : List Value} {S : q_Sh} {M : q_Mem} {N : q_MemL} {k n : Nat} {Q : q_Q} {x y : Int32} (hd : decode μ.2.1 pc = .ok (.iand, 1)) (kk : AW G d μ (pc + 1) L (.int (x &&& y) :: st) S M N k n Q) : AW G d μ pc L (.int y :: .int x :: st) S M N k n Q := by
  refine AW.op (fun p e R s m args below meth c Z H locs ls cells slots C hR hS hL kw => ?_) kk
  exact lv_iand C.1 C.2.1 hd kw
theorem st_ior {G : q_G} {d : Nat} {μ : q_M} {pc : Nat} {L : List (Option Value)} {st : List Value} {S : q_Sh} {M : q_Mem} {N : q_MemL} {k n : Nat} {Q : q_Q} {x y : Int32} (hd : decode μ.2.1 pc = .ok (.ior, 1)) (kk : AW G d μ (pc + 1) L (.int (x ||| y) :: st) S M N k n Q) : AW G d μ pc L (.int y :: .int x :: st) S M N k n Q := by
  refine AW.op (fun p e R s m args below meth c Z H locs ls cells slots C hR hS hL kw => ?_) kk
  exact lv_ior C.1 C.2.1 hd kw
theorem st_ixor {G : q_G} {d : Nat} {μ : q_M} {pc : Nat} {L : List (Option Value)} {st : List Value} {S : q_Sh} {M : q_Mem} {N : q_MemL} {k n : Nat} {Q : q_Q} {x y : Int32} (hd : decode μ.2.1 pc = .ok (.ixor, 1)) (kk : AW G d μ (pc + 1) L (.int (x ^^^ y) :: st) S M N k n Q) : AW G d μ pc L (.int y :: .int x :: st) S M N k n Q := by
  refine AW.op (fun p e R s m args below meth c Z H locs ls cells slots C hR hS hL kw => ?_) kk
  exact lv_ixor C.1 C.2.1 hd kw
theorem st_ishl {G : q_G} {d : Nat} {μ : q_M} {pc : Nat} {L : List (Option Value)} {st : List Value} {S : q_Sh} {M : q_Mem} {N : q_MemL} {k n : Nat} {Q : q_Q} {x y : Int32} (hd : decode μ.2.1 pc = .ok (.ishl, 1)) (kk : AW G d μ (pc + 1) L (.int (x <<< (y &&& 31)) :: st) S M N k n Q) : AW G d μ pc L (.int y :: .int x :: st) S M N k n Q := by
  refine AW.op (fun p e R s m args below meth c Z H locs ls cells slots C hR hS hL kw => ?_) kk
  exact lv_ishl C.1 C.2.1 hd kw
theorem st_ishr {G : q_G} {d : Nat} {μ : q_M} {pc : Nat} {L : List (Option Value)} {st : List Value} {S : q_Sh} {M : q_Mem} {N : q_MemL} {k n : Nat} {Q : q_Q} {x y : Int32} (hd : decode μ.2.1 pc = .ok (.ishr, 1)) (kk : AW G d μ (pc + 1) L (.int (x >>> (y &&& 31)) :: st) S M N k n Q) : AW G d μ pc L (.int y :: .int x :: st) S M N k n Q := by
  refine AW.op (fun p e R s m args below meth c Z H locs ls cells slots C hR hS hL kw => ?_) kk
  exact lv_ishr C.1 C.2.1 hd kw
theorem st_iushr {G : q_G} {d : Nat} {μ : q_M} {pc : Nat} {L : List (Option Value)} {st : List Value} {S : q_Sh} {M : q_Mem} {N : q_MemL} {k n : Nat} {Q : q_Q} {x y : Int32} (hd : decode μ.2.1 pc = .ok (.iushr, 1)) (kk : AW G d μ (pc + 1) L (.int (x.toUInt32 >>> (y.toUInt32 &&& Int32.toUInt32 31)).toInt32 :: st) S M N k n Q) : AW G d μ pc L (.int y :: .int x :: st) S M N k n Q := by
  refine AW.op (fun p e R s m args below meth c Z H locs ls cells slots C hR hS hL kw => ?_) kk
  exact lv_iushr C.1 C.2.1 hd rfl kw
theorem st_iaddR {G : q_G} {d : Nat} {μ : q_M} {pc : Nat} {L : List (Option Value)} {st : List Value} {S : q_Sh} {M : q_Mem} {N : q_MemL} {k n : Nat} {Q : q_Q} {x y : Int32} (hd : decode μ.2.1 pc = .ok (.iadd, 1)) (kk : AW G d μ (pc + 1) L (.int (x + y) :: st) S M N k n Q) : AW G d μ pc L (.int y :: .int x :: st) S M N k n Q := by
  refine AW.op (fun p e R s m args below meth c Z H locs ls cells slots C hR hS hL kw => ?_) kk
  exact lv_iadd C.1 C.2.1 hd kw
theorem st_imulR {G : q_G} {d : Nat} {μ : q_M} {pc : Nat} {L : List (Option Value)} {st : List Value} {S : q_Sh} {M : q_Mem} {N : q_MemL} {k n : Nat} {Q : q_Q} {x y : Int32} (hd : decode μ.2.1 pc = .ok (.imul, 1)) (kk : AW G d μ (pc + 1) L (.int (x * y) :: st) S M N k n Q) : AW G d μ pc L (.int y :: .int x :: st) S M N k n Q := by
  refine AW.op (fun p e R s m args below meth c Z H locs ls cells slots C hR hS hL kw => ?_) kk
  exact lv_imul C.1 C.2.1 hd kw
theorem st_isubR {G : q_G} {d : Nat} {μ : q_M} {pc : Nat} {L : List (Option Value)} {st : List Value} {S : q_Sh} {M : q_Mem} {N : q_MemL} {k n : Nat} {Q : q_Q} {x y : Int32} (hd : decode μ.2.1 pc = .ok (.isub, 1)) (kk : AW G d μ (pc + 1) L (.int (x - y) :: st) S M N k n Q) : AW G d μ pc L (.int y :: .int x :: st) S M N k n Q := by
  refine AW.op (fun p e R s m args below meth c Z H locs ls cells slots C hR hS hL kw => ?_) kk
  exact lv_isub C.1 C.2.1 hd kw
theorem st_i2l {G : q_G} {d : Nat} {μ : q_M} {pc : Nat} {L : List (Option Value)} {st : List Value} {S : q_Sh} {M : q_Mem} {N : q_MemL} {k n : Nat} {Q : q_Q} {x : Int32} (hd : decode μ.2.1 pc = .ok (.i2l, 1)) (kk : AW G d μ (pc + 1) L (.long x.toInt64 :: st) S M N k n Q) : AW G d μ pc L (.int x :: st) S M N k n Q := by
  refine AW.op (fun p e R s m args below meth c Z H locs ls cells slots C hR hS hL kw => ?_) kk
  exact lv_i2l C.1 C.2.1 hd rfl kw
theorem st_l2i {G : q_G} {d : Nat} {μ : q_M} {pc : Nat} {L : List (Option Value)} {st : List Value} {S : q_Sh} {M : q_Mem} {N : q_MemL} {k n : Nat} {Q : q_Q} {x : Int64} (hd : decode μ.2.1 pc = .ok (.l2i, 1)) (kk : AW G d μ (pc + 1) L (.int x.toInt32 :: st) S M N k n Q) : AW G d μ pc L (.long x :: st) S M N k n Q := by
  refine AW.op (fun p e R s m args below meth c Z H locs ls cells slots C hR hS hL kw => ?_) kk
  exact lv_l2i C.1 C.2.1 hd rfl kw
theorem st_i2b {G : q_G} {d : Nat} {μ : q_M} {pc : Nat} {L : List (Option Value)} {st : List Value} {S : q_Sh} {M : q_Mem} {N : q_MemL} {k n : Nat} {Q : q_Q} {x : Int32} (hd : decode μ.2.1 pc = .ok (.i2b, 1)) (kk : AW G d μ (pc + 1) L (.int x.toInt8.toInt32 :: st) S M N k n Q) : AW G d μ pc L (.int x :: st) S M N k n Q := by
  refine AW.op (fun p e R s m args below meth c Z H locs ls cells slots C hR hS hL kw => ?_) kk
  exact lv_i2b C.1 C.2.1 hd rfl kw
theorem st_i2c {G : q_G} {d : Nat} {μ : q_M} {pc : Nat} {L : List (Option Value)} {st : List Value} {S : q_Sh} {M : q_Mem} {N : q_MemL} {k n : Nat} {Q : q_Q} {x : Int32} (hd : decode μ.2.1 pc = .ok (.i2c, 1)) (kk : AW G d μ (pc + 1) L (.int (x.toUInt32 % 65536).toInt32 :: st) S M N k n Q) : AW G d μ pc L (.int x :: st) S M N k n Q := by
  refine AW.op (fun p e R s m args below meth c Z H locs ls cells slots C hR hS hL kw => ?_) kk
  exact lv_i2c C.1 C.2.1 hd rfl kw
theorem st_ladd {G : q_G} {d : Nat} {μ : q_M} {pc : Nat} {L : List (Option Value)} {st : List Value} {S : q_Sh} {M : q_Mem} {N : q_MemL} {k n : Nat} {Q : q_Q} {x y : Int64} (hd : decode μ.2.1 pc = .ok (.ladd, 1)) (kk : AW G d μ (pc + 1) L (.long (x + y) :: st) S M N k n Q) : AW G d μ pc L (.long y :: .long x :: st) S M N k n Q := by
  refine AW.op (fun p e R s m args below meth c Z H locs ls cells slots C hR hS hL kw => ?_) kk
  exact lv_ladd C.1 C.2.1 hd kw
theorem st_lsub {G : q_G} {d : Nat} {μ : q_M} {pc : Nat} {L : List (Option Value)} {st : List Value} {S : q_Sh} {M : q_Mem} {N : q_MemL} {k n : Nat} {Q : q_Q} {x y : Int64} (hd : decode μ.2.1 pc = .ok (.lsub, 1)) (kk : AW G d μ (pc + 1) L (.long (x - y) :: st) S M N k n Q) : AW G d μ pc L (.long y :: .long x :: st) S M N k n Q := by
  refine AW.op (fun p e R s m args below meth c Z H locs ls cells slots C hR hS hL kw => ?_) kk
  exact lv_lsub C.1 C.2.1 hd kw
theorem st_lmul {G : q_G} {d : Nat} {μ : q_M} {pc : Nat} {L : List (Option Value)} {st : List Value} {S : q_Sh} {M : q_Mem} {N : q_MemL} {k n : Nat} {Q : q_Q} {x y : Int64} (hd : decode μ.2.1 pc = .ok (.lmul, 1)) (kk : AW G d μ (pc + 1) L (.long (x * y) :: st) S M N k n Q) : AW G d μ pc L (.long y :: .long x :: st) S M N k n Q := by
  refine AW.op (fun p e R s m args below meth c Z H locs ls cells slots C hR hS hL kw => ?_) kk
  exact lv_lmul C.1 C.2.1 hd kw
theorem st_land {G : q_G} {d : Nat} {μ : q_M} {pc : Nat} {L : List (Option Value)} {st : List Value} {S : q_Sh} {M : q_Mem} {N : q_MemL} {k n : Nat} {Q : q_Q} {x y : Int64} (hd : decode μ.2.1 pc = .ok (.land, 1)) (kk : AW G d μ (pc + 1) L (.long (x &&& y) :: st) S M N k n Q) : AW G d μ pc L (.long y :: .long x :: st) S M N k n Q := by
  refine AW.op (fun p e R s m args below meth c Z H locs ls cells slots C hR hS hL kw => ?_) kk
  exact lv_land C.1 C.2.1 hd kw
theorem st_lor {G : q_G} {d : Nat} {μ : q_M} {pc : Nat} {L : List (Option Value)} {st : List Value} {S : q_Sh} {M : q_Mem} {N : q_MemL} {k n : Nat} {Q : q_Q} {x y : Int64} (hd : decode μ.2.1 pc = .ok (.lor, 1)) (kk : AW G d μ (pc + 1) L (.long (x ||| y) :: st) S M N k n Q) : AW G d μ pc L (.long y :: .long x :: st) S M N k n Q := by
  refine AW.op (fun p e R s m args below meth c Z H locs ls cells slots C hR hS hL kw => ?_) kk
  exact lv_lor C.1 C.2.1 hd kw
theorem st_ldiv {G : q_G} {d : Nat} {μ : q_M} {pc : Nat} {L : List (Option Value)} {st : List Value} {S : q_Sh} {M : q_Mem} {N : q_MemL} {k n : Nat} {Q : q_Q} {x y : Int64} (hd : decode μ.2.1 pc = .ok (.ldiv, 1)) (hne : ¬ y = 0) (kk : AW G d μ (pc + 1) L (.long (x / y) :: st) S M N k n Q) : AW G d μ pc L (.long y :: .long x :: st) S M N k n Q := by
  refine AW.op (fun p e R s m args below meth c Z H locs ls cells slots C hR hS hL kw => ?_) kk
  exact lv_ldiv C.1 C.2.1 hd hne kw
theorem st_lrem {G : q_G} {d : Nat} {μ : q_M} {pc : Nat} {L : List (Option Value)} {st : List Value} {S : q_Sh} {M : q_Mem} {N : q_MemL} {k n : Nat} {Q : q_Q} {x y : Int64} (hd : decode μ.2.1 pc = .ok (.lrem, 1)) (hne : ¬ y = 0) (kk : AW G d μ (pc + 1) L (.long (x - x / y * y) :: st) S M N k n Q) : AW G d μ pc L (.long y :: .long x :: st) S M N k n Q := by
  refine AW.op (fun p e R s m args below meth c Z H locs ls cells slots C hR hS hL kw => ?_) kk
  exact lv_lrem C.1 C.2.1 hd hne kw
theorem st_idiv {G : q_G} {d : Nat} {μ : q_M} {pc : Nat} {L : List (Option Value)} {st : List Value} {S : q_Sh} {M : q_Mem} {N : q_MemL} {k n : Nat} {Q : q_Q} {x y : Int32} (hd : decode μ.2.1 pc = .ok (.idiv, 1)) (hne : ¬ y = 0) (kk : AW G d μ (pc + 1) L (.int (x / y) :: st) S M N k n Q) : AW G d μ pc L (.int y :: .int x :: st) S M N k n Q := by
  refine AW.op (fun p e R s m args below meth c Z H locs ls cells slots C hR hS hL kw => ?_) kk
  exact lv_idiv C.1 C.2.1 hd hne kw
theorem st_irem {G : q_G} {d : Nat} {μ : q_M} {pc : Nat} {L : List (Option Value)} {st : List Value} {S : q_Sh} {M : q_Mem} {N : q_MemL} {k n : Nat} {Q : q_Q} {x y : Int32} (hd : decode μ.2.1 pc = .ok (.irem, 1)) (hne : ¬ y = 0) (kk : AW G d μ (pc + 1) L (.int (x - x / y * y) :: st) S M N k n Q) : AW G d μ pc L (.int y :: .int x :: st) S M N k n Q := by
  refine AW.op (fun p e R s m args below meth c Z H locs ls cells slots C hR hS hL kw => ?_) kk
  exact lv_irem C.1 C.2.1 hd hne kw
theorem st_lcmp {G : q_G} {d : Nat} {μ : q_M} {pc : Nat} {L : List (Option Value)} {st : List Value} {S : q_Sh} {M : q_Mem} {N : q_MemL} {k n : Nat} {Q : q_Q} {x y : Int64} (hd : decode μ.2.1 pc = .ok (.lcmp, 1)) (kk : AW G d μ (pc + 1) L (.int (lg_cmp x y) :: st) S M N k n Q) : AW G d μ pc L (.long y :: .long x :: st) S M N k n Q := by
  refine AW.op (fun p e R s m args below meth c Z H locs ls cells slots C hR hS hL kw => ?_) kk
  exact W.lcmp C.1 C.2.1 hd kw
theorem st_dup {G : q_G} {d : Nat} {μ : q_M} {pc : Nat} {L : List (Option Value)} {st : List Value} {S : q_Sh} {M : q_Mem} {N : q_MemL} {k n : Nat} {Q : q_Q} {v : Value} (hd : decode μ.2.1 pc = .ok (.dup, 1)) (hv : v.category = 1 := by rfl) (kk : AW G d μ (pc + 1) L (v :: v :: st) S M N k n Q) : AW G d μ pc L (v :: st) S M N k n Q := by
  refine AW.op (fun p e R s m args below meth c Z H locs ls cells slots C hR hS hL kw => ?_) kk
  exact lv_dup C.1 C.2.1 hd (by rw [q_cv_cat]; exact hv) kw
theorem st_dup2 {G : q_G} {d : Nat} {μ : q_M} {pc : Nat} {L : List (Option Value)} {st : List Value} {S : q_Sh} {M : q_Mem} {N : q_MemL} {k n : Nat} {Q : q_Q} {v w : Value} (hd : decode μ.2.1 pc = .ok (.dup2, 1)) (hv : v.category = 1 := by rfl) (hw : w.category = 1 := by rfl) (kk : AW G d μ (pc + 1) L (v :: w :: v :: w :: st) S M N k n Q) : AW G d μ pc L (v :: w :: st) S M N k n Q := by
  refine AW.op (fun p e R s m args below meth c Z H locs ls cells slots C hR hS hL kw => ?_) kk
  exact lv_dup2_11 C.1 C.2.1 hd (by rw [q_cv_cat]; exact hv) (by rw [q_cv_cat]; exact hw) kw
theorem st_pop {G : q_G} {d : Nat} {μ : q_M} {pc : Nat} {L : List (Option Value)} {st : List Value} {S : q_Sh} {M : q_Mem} {N : q_MemL} {k n : Nat} {Q : q_Q} {v : Value} (hd : decode μ.2.1 pc = .ok (.pop, 1)) (hv : v.category = 1 := by rfl) (kk : AW G d μ (pc + 1) L st S M N k n Q) : AW G d μ pc L (v :: st) S M N k n Q := by
  refine AW.op (fun p e R s m args below meth c Z H locs ls cells slots C hR hS hL kw => ?_) kk
  exact lv_pop C.1 C.2.1 hd (by rw [q_cv_cat]; exact hv) kw
theorem AW.top {G : q_G} {d : Nat} {μ : q_M} {pc : Nat} {L : List (Option Value)} {st : List Value} {S : q_Sh} {M : q_Mem} {N : q_MemL} {k n : Nat} {Q : q_Q} {x : Int32} {z : Int} (hx : x = zi z) (kk : AW G d μ pc L (I z :: st) S M N k n Q) : AW G d μ pc L (.int x :: st) S M N k n Q := by
  subst hx
  exact kk
theorem AW.topv {G : q_G} {d : Nat} {μ : q_M} {pc : Nat} {L : List (Option Value)} {st : List Value} {S : q_Sh} {M : q_Mem} {N : q_MemL} {k n : Nat} {Q : q_Q} {x y : Value} (hx : x = y) (kk : AW G d μ pc L (y :: st) S M N k n Q) : AW G d μ pc L (x :: st) S M N k n Q := by
  subst hx
  exact kk
theorem st_istore_n {G : q_G} {d : Nat} {μ : q_M} {pc : Nat} {L : List (Option Value)} {st : List Value} {S : q_Sh} {M : q_Mem} {N : q_MemL} {k n : Nat} {Q : q_Q} {L' : List (Option Value)} {x : Int32} {j : Fin 4} (hd : decode μ.2.1 pc = .ok (.istore_n j, 1)) (hi : (j : Nat) < μ.2.2.1 := by decide) (hc : q_c1 L (j : Nat) = true := by rfl) (hl : L.set (j : Nat) (some (.int x)) = L' := by rfl) (kk : AW G d μ (pc + 1) L' st S M N k n Q) : AW G d μ pc L (.int x :: st) S M N k n Q := by
  intro p e R s m args below meth c Z H locs ls cells slots C hR hS hL hcl hsl hr
  obtain ⟨ls', e1, e2⟩ := hL.set1 (v := .int x) rfl hi hc hl
  intro T hT X
  obtain ⟨t, a1, b1⟩ := kk p e R s m args below meth c Z H locs ls' cells slots C hR hS e2 hcl hsl hr T hT X
  refine ⟨t, ?_, b1⟩
  have hx := C.1
  have hb := C.2.1
  try simp only [q_cv] at e1
  show Steps p.tables e below (T.setTop (F0 m pc ls (q_cv G (.int x) :: st.map (q_cv G)))) t
  simp only [q_cv]
  jvm_step X.here [X.here.top, hx, hb, hd, e1, Value.category, Value.isRef]
  exact a1
theorem st_istore {G : q_G} {d : Nat} {μ : q_M} {pc : Nat} {L : List (Option Value)} {st : List Value} {S : q_Sh} {M : q_Mem} {N : q_MemL} {k n : Nat} {Q : q_Q} {L' : List (Option Value)} {x : Int32} {j : Nat} (hd : decode μ.2.1 pc = .ok (.istore j, 2)) (hi : j < μ.2.2.1 := by decide) (hc : q_c1 L j = true := by rfl) (hl : L.set j (some (.int x)) = L' := by rfl) (kk : AW G d μ (pc + 2) L' st S M N k n Q) : AW G d μ pc L (.int x :: st) S M N k n Q := by
  intro p e R s m args below meth c Z H locs ls cells slots C hR hS hL hcl hsl hr
  obtain ⟨ls', e1, e2⟩ := hL.set1 (v := .int x) rfl hi hc hl
  intro T hT X
  obtain ⟨t, a1, b1⟩ := kk p e R s m args below meth c Z H locs ls' cells slots C hR hS e2 hcl hsl hr T hT X
  refine ⟨t, ?_, b1⟩
  have hx := C.1
  have hb := C.2.1
  try simp only [q_cv] at e1
  show Steps p.tables e below (T.setTop (F0 m pc ls (q_cv G (.int x) :: st.map (q_cv G)))) t
  simp only [q_cv]
  jvm_step X.here [X.here.top, hx, hb, hd, e1, Value.category, Value.isRef]
  exact a1
theorem st_astore_n {G : q_G} {d : Nat} {μ : q_M} {pc : Nat} {L : List (Option Value)} {st : List Value} {S : q_Sh} {M : q_Mem} {N : q_MemL} {k n : Nat} {Q : q_Q} {L' : List (Option Value)} {a : Nat} {j : Fin 4} (hd : decode μ.2.1 pc = .ok (.astore_n j, 1)) (hi : (j : Nat) < μ.2.2.1 := by decide) (hc : q_c1 L (j : Nat) = true := by rfl) (hl : L.set (j : Nat) (some (.ref a)) = L' := by rfl) (kk : AW G d μ (pc + 1) L' st S M N k n Q) : AW G d μ pc L (.ref a :: st) S M N k n Q := by
  intro p e R s m args below meth c Z H locs ls cells slots C hR hS hL hcl hsl hr
  obtain ⟨ls', e1, e2⟩ := hL.set1 (v := .ref a) rfl hi hc hl
  intro T hT X
  obtain ⟨t, a1, b1⟩ := kk p e R s m args below meth c Z H locs ls' cells slots C hR hS e2 hcl hsl hr T hT X
  refine ⟨t, ?_, b1⟩
  have hx := C.1
  have hb := C.2.1
  try simp only [q_cv] at e1
  show Steps p.tables e below (T.setTop (F0 m pc ls (q_cv G (.ref a) :: st.map (q_cv G)))) t
  simp only [q_cv]
  jvm_step X.here [X.here.top, hx, hb, hd, e1, Value.category, Value.isRef]
  exact a1
theorem st_astore {G : q_G} {d : Nat} {μ : q_M} {pc : Nat} {L : List (Option Value)} {st : List Value} {S : q_Sh} {M : q_Mem} {N : q_MemL} {k n : Nat} {Q : q_Q} {L' : List (Option Value)} {a : Nat} {j : Nat} (hd : decode μ.2.1 pc = .ok (.astore j, 2)) (hi : j < μ.2.2.1 := by decide) (hc : q_c1 L j = true := by rfl) (hl : L.set j (some (.ref a)) = L' := by rfl) (kk : AW G d μ (pc + 2) L' st S M N k n Q) : AW G d μ pc L (.ref a :: st) S M N k n Q := by
  intro p e R s m args below meth c Z H locs ls cells slots C hR hS hL hcl hsl hr
  obtain ⟨ls', e1, e2⟩ := hL.set1 (v := .ref a) rfl hi hc hl
  intro T hT X
  obtain ⟨t, a1, b1⟩ := kk p e R s m args below meth c Z H locs ls' cells slots C hR hS e2 hcl hsl hr T hT X
  refine ⟨t, ?_, b1⟩
  have hx := C.1
  have hb := C.2.1
  try simp only [q_cv] at e1
  show Steps p.tables e below (T.setTop (F0 m pc ls (q_cv G (.ref a) :: st.map (q_cv G)))) t
  simp only [q_cv]
  jvm_step X.here [X.here.top, hx, hb, hd, e1, Value.category, Value.isRef]
  exact a1
theorem st_lstore_n {G : q_G} {d : Nat} {μ : q_M} {pc : Nat} {L : List (Option Value)} {st : List Value} {S : q_Sh} {M : q_Mem} {N : q_MemL} {k n : Nat} {Q : q_Q} {L' : List (Option Value)} {x : Int64} {j : Fin 4} (hd : decode μ.2.1 pc = .ok (.lstore_n j, 1)) (hi : (j : Nat) + 1 < μ.2.2.1 := by decide) (hc : q_c1 L (j : Nat) = true := by rfl) (hl : (L.set (j : Nat) (some (.long x))).set ((j : Nat) + 1) none = L' := by rfl) (kk : AW G d μ (pc + 1) L' st S M N k n Q) : AW G d μ pc L (.long x :: st) S M N k n Q := by
  intro p e R s m args below meth c Z H locs ls cells slots C hR hS hL hcl hsl hr
  obtain ⟨ls', e1, e2⟩ := hL.set2 (v := .long x) rfl hi hc hl
  intro T hT X
  obtain ⟨t, a1, b1⟩ := kk p e R s m args below meth c Z H locs ls' cells slots C hR hS e2 hcl hsl hr T hT X
  refine ⟨t, ?_, b1⟩
  have hx := C.1
  have hb := C.2.1
  try simp only [q_cv] at e1
  show Steps p.tables e below (T.setTop (F0 m pc ls (q_cv G (.long x) :: st.map (q_cv G)))) t
  simp only [q_cv]
  jvm_step X.here [X.here.top, hx, hb, hd, e1, Value.category, Value.isRef]
  exact a1
theorem st_lstore {G : q_G} {d : Nat} {μ : q_M} {pc : Nat} {L : List (Option Value)} {st : List Value} {S : q_Sh} {M : q_Mem} {N : q_MemL} {k n : Nat} {Q : q_Q} {L' : List (Option Value)} {x : Int64} {j : Nat} (hd : decode μ.2.1 pc = .ok (.lstore j, 2)) (hi : j + 1 < μ.2.2.1 := by decide) (hc : q_c1 L j = true := by rfl) (hl : (L.set j (some (.long x))).set (j + 1) none = L' := by rfl) (kk : AW G d μ (pc + 2) L' st S M N k n Q) : AW G d μ pc L (.long x :: st) S M N k n Q := by
  intro p e R s m args below meth c Z H locs ls cells slots C hR hS hL hcl hsl hr
  obtain ⟨ls', e1, e2⟩ := hL.set2 (v := .long x) rfl hi hc hl
  intro T hT X
  obtain ⟨t, a1, b1⟩ := kk p e R s m args below meth c Z H locs ls' cells slots C hR hS e2 hcl hsl hr T hT X
  refine ⟨t, ?_, b1⟩
  have hx := C.1
  have hb := C.2.1
  try simp only [q_cv] at e1
  show Steps p.tables e below (T.setTop (F0 m pc ls (q_cv G (.long x) :: st.map (q_cv G)))) t
  simp only [q_cv]
  jvm_step X.here [X.here.top, hx, hb, hd, e1, Value.category, Value.isRef]
  exact a1
theorem st_iinc {G : q_G} {d : Nat} {μ : q_M} {pc : Nat} {L : List (Option Value)} {st : List Value} {S : q_Sh} {M : q_Mem} {N : q_MemL} {k n : Nat} {Q : q_Q} {L' : List (Option Value)} {j : Nat} {x c0 : Int} (hd : decode μ.2.1 pc = .ok (.iinc j c0, 3)) (hv : L[j]? = some (some (I x))) (hi : j < μ.2.2.1 := by decide) (hc : q_c1 L j = true := by rfl) (hl : L.set j (some (I (x + c0))) = L' := by rfl) (kk : AW G d μ (pc + 3) L' st S M N k n Q) : AW G d μ pc L st S M N k n Q := by
  intro p e R s m args below meth c Z H locs ls cells slots C hR hS hL hcl hsl hr
  have hg := hL.get hv
  obtain ⟨ls', e1, e2⟩ := hL.set1 (v := I (x + c0)) rfl hi hc hl
  intro T hT X
  obtain ⟨t, a1, b1⟩ := kk p e R s m args below meth c Z H locs ls' cells slots C hR hS e2 hcl hsl hr T hT X
  refine ⟨t, ?_, b1⟩
  have hx := C.1
  have hb := C.2.1
  have e1 : storeLocals ls j (.int (zi x + Int32.ofInt c0)) = some ls' := by
    rw [show zi x + Int32.ofInt c0 = zi (x + c0) from (Int32.ofInt_add x c0).symm]; exact e1
  have hg : ls[j]? = some (.val (.int (zi x))) := hg
  jvm_step X.here [X.here.top, hx, hb, hd, hg, e1, Value.category, Value.isRef]
  exact a1
theorem st_icmp_eq {G : q_G} {d : Nat} {μ : q_M} {pc : Nat} {L : List (Option Value)} {st : List Value} {S : q_Sh} {M : q_Mem} {N : q_MemL} {k n : Nat} {Q : q_Q} {x y : Int} {off : Int} {tgt : Nat} (hd : decode μ.2.1 pc = .ok (.if_icmp .eq off, 3)) (hx : -2147483648 ≤ x ∧ x < 2147483648) (hy : -2147483648 ≤ y ∧ y < 2147483648) (ht : (pc : Int) + off = (tgt : Int)) (kt : (x = y) → AW G d μ tgt L st S M N k n Q) (kf : ¬ (x = y) → AW G d μ (pc + 3) L st S M N k n Q) : AW G d μ pc L (I y :: I x :: st) S M N k n Q := by
  intro p e R s m args below meth c Z H locs ls cells slots C hR hS hL hcl hsl hr
  refine lv_icmp_eq C.1 C.2.1 hd ht (fun h => ?_) (fun h => ?_)
  · exact kt ((zi_eq hx hy).mp h) p e R s m args below meth c Z H locs ls cells slots C hR hS hL hcl hsl hr
  · exact kf (fun q => h ((zi_eq hx hy).mpr q)) p e R s m args below meth c Z H locs ls cells slots C hR hS hL hcl hsl hr
theorem st_icmp_lt {G : q_G} {d : Nat} {μ : q_M} {pc : Nat} {L : List (Option Value)} {st : List Value} {S : q_Sh} {M : q_Mem} {N : q_MemL} {k n : Nat} {Q : q_Q} {x y : Int} {off : Int} {tgt : Nat} (hd : decode μ.2.1 pc = .ok (.if_icmp .lt off, 3)) (hx : -2147483648 ≤ x ∧ x < 2147483648) (hy : -2147483648 ≤ y ∧ y < 2147483648) (ht : (pc : Int) + off = (tgt : Int)) (kt : (x < y) → AW G d μ tgt L st S M N k n Q) (kf : ¬ (x < y) → AW G d μ (pc + 3) L st S M N k n Q) : AW G d μ pc L (I y :: I x :: st) S M N k n Q := by
  intro p e R s m args below meth c Z H locs ls cells slots C hR hS hL hcl hsl hr
  refine lv_icmp_lt C.1 C.2.1 hd ht (fun h => ?_) (fun h => ?_)
  · exact kt ((zi_lt hx hy).mp h) p e R s m args below meth c Z H locs ls cells slots C hR hS hL hcl hsl hr
  · exact kf (fun q => h ((zi_lt hx hy).mpr q)) p e R s m args below meth c Z H locs ls cells slots C hR hS hL hcl hsl hr
theorem st_icmp_le {G : q_G} {d : Nat} {μ : q_M} {pc : Nat} {L : List (Option Value)} {st : List Value} {S : q_Sh} {M : q_Mem} {N : q_MemL} {k n : Nat} {Q : q_Q} {x y : Int} {off : Int} {tgt : Nat} (hd : decode μ.2.1 pc = .ok (.if_icmp .le off, 3)) (hx : -2147483648 ≤ x ∧ x < 2147483648) (hy : -2147483648 ≤ y ∧ y < 2147483648) (ht : (pc : Int) + off = (tgt : Int)) (kt : (x ≤ y) → AW G d μ tgt L st S M N k n Q) (kf : ¬ (x ≤ y) → AW G d μ (pc + 3) L st S M N k n Q) : AW G d μ pc L (I y :: I x :: st) S M N k n Q := by
  intro p e R s m args below meth c Z H locs ls cells slots C hR hS hL hcl hsl hr
  refine lv_icmp_le C.1 C.2.1 hd ht (fun h => ?_) (fun h => ?_)
  · exact kt ((zi_le hx hy).mp h) p e R s m args below meth c Z H locs ls cells slots C hR hS hL hcl hsl hr
  · exact kf (fun q => h ((zi_le hx hy).mpr q)) p e R s m args below meth c Z H locs ls cells slots C hR hS hL hcl hsl hr
theorem st_icmp_ge {G : q_G} {d : Nat} {μ : q_M} {pc : Nat} {L : List (Option Value)} {st : List Value} {S : q_Sh} {M : q_Mem} {N : q_MemL} {k n : Nat} {Q : q_Q} {x y : Int} {off : Int} {tgt : Nat} (hd : decode μ.2.1 pc = .ok (.if_icmp .ge off, 3)) (hx : -2147483648 ≤ x ∧ x < 2147483648) (hy : -2147483648 ≤ y ∧ y < 2147483648) (ht : (pc : Int) + off = (tgt : Int)) (kt : (y ≤ x) → AW G d μ tgt L st S M N k n Q) (kf : ¬ (y ≤ x) → AW G d μ (pc + 3) L st S M N k n Q) : AW G d μ pc L (I y :: I x :: st) S M N k n Q := by
  intro p e R s m args below meth c Z H locs ls cells slots C hR hS hL hcl hsl hr
  refine lv_icmp_ge C.1 C.2.1 hd ht (fun h => ?_) (fun h => ?_)
  · exact kt ((zi_le hy hx).mp h) p e R s m args below meth c Z H locs ls cells slots C hR hS hL hcl hsl hr
  · exact kf (fun q => h ((zi_le hy hx).mpr q)) p e R s m args below meth c Z H locs ls cells slots C hR hS hL hcl hsl hr
theorem st_icmp_gt {G : q_G} {d : Nat} {μ : q_M} {pc : Nat} {L : List (Option Value)} {st : List Value} {S : q_Sh} {M : q_Mem} {N : q_MemL} {k n : Nat} {Q : q_Q} {x y : Int} {off : Int} {tgt : Nat} (hd : decode μ.2.1 pc = .ok (.if_icmp .gt off, 3)) (hx : -2147483648 ≤ x ∧ x < 2147483648) (hy : -2147483648 ≤ y ∧ y < 2147483648) (ht : (pc : Int) + off = (tgt : Int)) (kt : (y < x) → AW G d μ tgt L st S M N k n Q) (kf : ¬ (y < x) → AW G d μ (pc + 3) L st S M N k n Q) : AW G d μ pc L (I y :: I x :: st) S M N k n Q := by
  intro p e R s m args below meth c Z H locs ls cells slots C hR hS hL hcl hsl hr
  refine lv_icmp_gt C.1 C.2.1 hd ht (fun h => ?_) (fun h => ?_)
  · exact kt ((zi_lt hy hx).mp h) p e R s m args below meth c Z H locs ls cells slots C hR hS hL hcl hsl hr
  · exact kf (fun q => h ((zi_lt hy hx).mpr q)) p e R s m args below meth c Z H locs ls cells slots C hR hS hL hcl hsl hr
theorem st_icmp_ne {G : q_G} {d : Nat} {μ : q_M} {pc : Nat} {L : List (Option Value)} {st : List Value} {S : q_Sh} {M : q_Mem} {N : q_MemL} {k n : Nat} {Q : q_Q} {x y : Int} {off : Int} {tgt : Nat} (hd : decode μ.2.1 pc = .ok (.if_icmp .ne off, 3)) (hx : -2147483648 ≤ x ∧ x < 2147483648) (hy : -2147483648 ≤ y ∧ y < 2147483648) (ht : (pc : Int) + off = (tgt : Int)) (kt : ¬ x = y → AW G d μ tgt L st S M N k n Q) (kf : x = y → AW G d μ (pc + 3) L st S M N k n Q) : AW G d μ pc L (I y :: I x :: st) S M N k n Q := by
  intro p e R s m args below meth c Z H locs ls cells slots C hR hS hL hcl hsl hr
  refine lv_icmp_ne C.1 C.2.1 hd ht (fun h => ?_) (fun h => ?_)
  · exact kt (fun q => h ((zi_eq hx hy).mpr q)) p e R s m args below meth c Z H locs ls cells slots C hR hS hL hcl hsl hr
  · exact kf ((zi_eq hx hy).mp h) p e R s m args below meth c Z H locs ls cells slots C hR hS hL hcl hsl hr
theorem st_if_eq {G : q_G} {d : Nat} {μ : q_M} {pc : Nat} {L : List (Option Value)} {st : List Value} {S : q_Sh} {M : q_Mem} {N : q_MemL} {k n : Nat} {Q : q_Q} {x : Int} {off : Int} {tgt : Nat} (hd : decode μ.2.1 pc = .ok (.ifCond .eq off, 3)) (hx : -2147483648 ≤ x ∧ x < 2147483648) (ht : (pc : Int) + off = (tgt : Int)) (kt : (x = 0) → AW G d μ tgt L st S M N k n Q) (kf : ¬ (x = 0) → AW G d μ (pc + 3) L st S M N k n Q) : AW G d μ pc L (I x :: st) S M N k n Q := by
  intro p e R s m args below meth c Z H locs ls cells slots C hR hS hL hcl hsl hr
  refine lv_if_eq C.1 C.2.1 hd ht (fun h => ?_) (fun h => ?_)
  · exact kt ((zi_eq0 hx).mp h) p e R s m args below meth c Z H locs ls cells slots C hR hS hL hcl hsl hr
  · exact kf (fun q => h ((zi_eq0 hx).mpr q)) p e R s m args below meth c Z H locs ls cells slots C hR hS hL hcl hsl hr
theorem st_if_lt {G : q_G} {d : Nat} {μ : q_M} {pc : Nat} {L : List (Option Value)} {st : List Value} {S : q_Sh} {M : q_Mem} {N : q_MemL} {k n : Nat} {Q : q_Q} {x : Int} {off : Int} {tgt : Nat} (hd : decode μ.2.1 pc = .ok (.ifCond .lt off, 3)) (hx : -2147483648 ≤ x ∧ x < 2147483648) (ht : (pc : Int) + off = (tgt : Int)) (kt : (x < 0) → AW G d μ tgt L st S M N k n Q) (kf : ¬ (x < 0) → AW G d μ (pc + 3) L st S M N k n Q) : AW G d μ pc L (I x :: st) S M N k n Q := by
  intro p e R s m args below meth c Z H locs ls cells slots C hR hS hL hcl hsl hr
  refine lv_if_lt C.1 C.2.1 hd ht (fun h => ?_) (fun h => ?_)
  · exact kt ((zi_lt0 hx).mp h) p e R s m args below meth c Z H locs ls cells slots C hR hS hL hcl hsl hr
  · exact kf (fun q => h ((zi_lt0 hx).mpr q)) p e R s m args below meth c Z H locs ls cells slots C hR hS hL hcl hsl hr
theorem st_if_le {G : q_G} {d : Nat} {μ : q_M} {pc : Nat} {L : List (Option Value)} {st : List Value} {S : q_Sh} {M : q_Mem} {N : q_MemL} {k n : Nat} {Q : q_Q} {x : Int} {off : Int} {tgt : Nat} (hd : decode μ.2.1 pc = .ok (.ifCond .le off, 3)) (hx : -2147483648 ≤ x ∧ x < 2147483648) (ht : (pc : Int) + off = (tgt : Int)) (kt : (x ≤ 0) → AW G d μ tgt L st S M N k n Q) (kf : ¬ (x ≤ 0) → AW G d μ (pc + 3) L st S M N k n Q) : AW G d μ pc L (I x :: st) S M N k n Q := by
  intro p e R s m args below meth c Z H locs ls cells slots C hR hS hL hcl hsl hr
  refine lv_if_le C.1 C.2.1 hd ht (fun h => ?_) (fun h => ?_)
  · exact kt ((zi_le0 hx).mp h) p e R s m args below meth c Z H locs ls cells slots C hR hS hL hcl hsl hr
  · exact kf (fun q => h ((zi_le0 hx).mpr q)) p e R s m args below meth c Z H locs ls cells slots C hR hS hL hcl hsl hr
theorem st_if_ge {G : q_G} {d : Nat} {μ : q_M} {pc : Nat} {L : List (Option Value)} {st : List Value} {S : q_Sh} {M : q_Mem} {N : q_MemL} {k n : Nat} {Q : q_Q} {x : Int} {off : Int} {tgt : Nat} (hd : decode μ.2.1 pc = .ok (.ifCond .ge off, 3)) (hx : -2147483648 ≤ x ∧ x < 2147483648) (ht : (pc : Int) + off = (tgt : Int)) (kt : (0 ≤ x) → AW G d μ tgt L st S M N k n Q) (kf : ¬ (0 ≤ x) → AW G d μ (pc + 3) L st S M N k n Q) : AW G d μ pc L (I x :: st) S M N k n Q := by
  intro p e R s m args below meth c Z H locs ls cells slots C hR hS hL hcl hsl hr
  refine lv_if_ge C.1 C.2.1 hd ht (fun h => ?_) (fun h => ?_)
  · exact kt ((zi_ge0 hx).mp h) p e R s m args below meth c Z H locs ls cells slots C hR hS hL hcl hsl hr
  · exact kf (fun q => h ((zi_ge0 hx).mpr q)) p e R s m args below meth c Z H locs ls cells slots C hR hS hL hcl hsl hr
theorem st_if_gt {G : q_G} {d : Nat} {μ : q_M} {pc : Nat} {L : List (Option Value)} {st : List Value} {S : q_Sh} {M : q_Mem} {N : q_MemL} {k n : Nat} {Q : q_Q} {x : Int} {off : Int} {tgt : Nat} (hd : decode μ.2.1 pc = .ok (.ifCond .gt off, 3)) (hx : -2147483648 ≤ x ∧ x < 2147483648) (ht : (pc : Int) + off = (tgt : Int)) (kt : (0 < x) → AW G d μ tgt L st S M N k n Q) (kf : ¬ (0 < x) → AW G d μ (pc + 3) L st S M N k n Q) : AW G d μ pc L (I x :: st) S M N k n Q := by
  intro p e R s m args below meth c Z H locs ls cells slots C hR hS hL hcl hsl hr
  refine lv_if_gt C.1 C.2.1 hd ht (fun h => ?_) (fun h => ?_)
  · exact kt ((zi_gt0 hx).mp h) p e R s m args below meth c Z H locs ls cells slots C hR hS hL hcl hsl hr
  · exact kf (fun q => h ((zi_gt0 hx).mpr q)) p e R s m args below meth c Z H locs ls cells slots C hR hS hL hcl hsl hr
theorem st_if_ne {G : q_G} {d : Nat} {μ : q_M} {pc : Nat} {L : List (Option Value)} {st : List Value} {S : q_Sh} {M : q_Mem} {N : q_MemL} {k n : Nat} {Q : q_Q} {x : Int} {off : Int} {tgt : Nat} (hd : decode μ.2.1 pc = .ok (.ifCond .ne off, 3)) (hx : -2147483648 ≤ x ∧ x < 2147483648) (ht : (pc : Int) + off = (tgt : Int)) (kt : ¬ x = 0 → AW G d μ tgt L st S M N k n Q) (kf : x = 0 → AW G d μ (pc + 3) L st S M N k n Q) : AW G d μ pc L (I x :: st) S M N k n Q := by
  intro p e R s m args below meth c Z H locs ls cells slots C hR hS hL hcl hsl hr
  refine lv_if_ne C.1 C.2.1 hd ht (fun h => ?_) (fun h => ?_)
  · exact kt (fun q => h ((zi_eq0 hx).mpr q)) p e R s m args below meth c Z H locs ls cells slots C hR hS hL hcl hsl hr
  · exact kf ((zi_eq0 hx).mp h) p e R s m args below meth c Z H locs ls cells slots C hR hS hL hcl hsl hr
theorem st_goto {G : q_G} {d : Nat} {μ : q_M} {pc : Nat} {L : List (Option Value)} {st : List Value} {S : q_Sh} {M : q_Mem} {N : q_MemL} {k n : Nat} {Q : q_Q} {off : Int} {tgt : Nat} (hd : decode μ.2.1 pc = .ok (.goto off, 3)) (ht : (pc : Int) + off = (tgt : Int)) (kk : AW G d μ tgt L st S M N k n Q) : AW G d μ pc L st S M N k n Q := by
  refine AW.op (fun p e R s m args below meth c Z H locs ls cells slots C hR hS hL kw => ?_) kk
  exact lv_goto C.1 C.2.1 hd ht kw
theorem st_ifnull {G : q_G} {d : Nat} {μ : q_M} {pc : Nat} {L : List (Option Value)} {st : List Value} {S : q_Sh} {M : q_Mem} {N : q_MemL} {k n : Nat} {Q : q_Q} {a : Nat} {off : Int} (hd : decode μ.2.1 pc = .ok (.ifnull off, 3)) (kk : AW G d μ (pc + 3) L st S M N k n Q) : AW G d μ pc L (.ref a :: st) S M N k n Q := by
  refine AW.op (fun p e R s m args below meth c Z H locs ls cells slots C hR hS hL kw => ?_) kk
  exact lv_ifnull C.1 C.2.1 hd kw
theorem st_ifnonnull {G : q_G} {d : Nat} {μ : q_M} {pc : Nat} {L : List (Option Value)} {st : List Value} {S : q_Sh} {M : q_Mem} {N : q_MemL} {k n : Nat} {Q : q_Q} {a : Nat} {off : Int} {tgt : Nat} (hd : decode μ.2.1 pc = .ok (.ifnonnull off, 3)) (ht : (pc : Int) + off = (tgt : Int)) (kk : AW G d μ tgt L st S M N k n Q) : AW G d μ pc L (.ref a :: st) S M N k n Q := by
  refine AW.op (fun p e R s m args below meth c Z H locs ls cells slots C hR hS hL kw => ?_) kk
  exact lv_ifnonnull C.1 C.2.1 hd ht kw
theorem st_ifnullN {G : q_G} {d : Nat} {μ : q_M} {pc : Nat} {L : List (Option Value)} {st : List Value} {S : q_Sh} {M : q_Mem} {N : q_MemL} {k n : Nat} {Q : q_Q} {off : Int} {tgt : Nat} (hd : decode μ.2.1 pc = .ok (.ifnull off, 3)) (ht : (pc : Int) + off = (tgt : Int)) (kk : AW G d μ tgt L st S M N k n Q) : AW G d μ pc L (.null :: st) S M N k n Q := by
  refine AW.op (fun p e R s m args below meth c Z H locs ls cells slots C hR hS hL kw => ?_) kk
  exact lv_ifnullN C.1 C.2.1 hd ht kw
theorem st_ifnonnullN {G : q_G} {d : Nat} {μ : q_M} {pc : Nat} {L : List (Option Value)} {st : List Value} {S : q_Sh} {M : q_Mem} {N : q_MemL} {k n : Nat} {Q : q_Q} {off : Int} (hd : decode μ.2.1 pc = .ok (.ifnonnull off, 3)) (kk : AW G d μ (pc + 3) L st S M N k n Q) : AW G d μ pc L (.null :: st) S M N k n Q := by
  refine AW.op (fun p e R s m args below meth c Z H locs ls cells slots C hR hS hL kw => ?_) kk
  exact lv_ifnonnullN C.1 C.2.1 hd kw
theorem st_aconst_null {G : q_G} {d : Nat} {μ : q_M} {pc : Nat} {L : List (Option Value)} {st : List Value} {S : q_Sh} {M : q_Mem} {N : q_MemL} {k n : Nat} {Q : q_Q} (hd : decode μ.2.1 pc = .ok (.aconst_null, 1)) (kk : AW G d μ (pc + 1) L (.null :: st) S M N k n Q) : AW G d μ pc L st S M N k n Q := by
  refine AW.op (fun p e R s m args below meth c Z H locs ls cells slots C hR hS hL kw => ?_) kk
  intro T hT X
  obtain ⟨t, a1, b1⟩ := kw T hT X
  refine ⟨t, ?_, b1⟩
  have hx := C.1
  have hb := C.2.1
  jvm_step X.here [X.here.top, hx, hb, hd]
  exact a1
theorem st_tsIn {G : q_G} {d : Nat} {μ : q_M} {pc : Nat} {L : List (Option Value)} {st : List Value} {S : q_Sh} {M : q_Mem} {N : q_MemL} {k n : Nat} {Q : q_Q} {x dflt lo hi off : Int} {offs : Array Int} {len tgt : Nat} (hd : decode μ.2.1 pc = .ok (.tableswitch dflt lo hi offs, len)) (hx : -2147483648 ≤ x ∧ x < 2147483648) (h1 : lo ≤ x) (h2 : x ≤ hi) (ho : offs[(x - lo).toNat]? = some off) (ht : (pc : Int) + off = (tgt : Int)) (kk : AW G d μ tgt L st S M N k n Q) : AW G d μ pc L (I x :: st) S M N k n Q := by
  refine AW.op (fun p e R s m args below meth c Z H locs ls cells slots C hR hS hL kw => ?_) kk
  have e := zi_toInt hx
  exact lv_tableIn C.1 C.2.1 hd (by rw [e]; omega) (by rw [e]; omega) (by rw [e]; exact ho) ht kw
theorem st_tsOut {G : q_G} {d : Nat} {μ : q_M} {pc : Nat} {L : List (Option Value)} {st : List Value} {S : q_Sh} {M : q_Mem} {N : q_MemL} {k n : Nat} {Q : q_Q} {x dflt lo hi : Int} {offs : Array Int} {len tgt : Nat} (hd : decode μ.2.1 pc = .ok (.tableswitch dflt lo hi offs, len)) (hx : -2147483648 ≤ x ∧ x < 2147483648) (h1 : x < lo ∨ hi < x) (ht : (pc : Int) + dflt = (tgt : Int)) (kk : AW G d μ tgt L st S M N k n Q) : AW G d μ pc L (I x :: st) S M N k n Q := by
  refine AW.op (fun p e R s m args below meth c Z H locs ls cells slots C hR hS hL kw => ?_) kk
  have e := zi_toInt hx
  exact lv_tableOut C.1 C.2.1 hd (by rw [e]; exact h1) ht kw
theorem st_ireturn {G : q_G} {d : Nat} {μ : q_M} {pc : Nat} {L : List (Option Value)} {st : List Value} {S : q_Sh} {M : q_Mem} {N : q_MemL} {k n : Nat} {Q : q_Q} {x : Int} {ty : FieldType} (hd : decode μ.2.1 pc = .ok (.ireturn, 1)) (hr : μ.2.2.2 = some ty := by rfl) (hn : narrow ty (I x) = I x) (hq : Q (some (I x)) S M N) : AW G d μ pc L [I x] S M N k n Q := by
  intro p e R s m args below meth c Z H locs ls cells slots C hR hS hL hcl hsl hret
  refine W.widen (k := cells + k) (n := slots + n) (Nat.le_add_right _ _) (Nat.le_add_right _ _) ?_
  exact hret (some (I x)) S M N H locs pc ls hq hR hS (Or.inr (Or.inl ⟨ty, _, hr, rfl, hn⟩)) hd
theorem st_ireturnR {G : q_G} {d : Nat} {μ : q_M} {pc : Nat} {L : List (Option Value)} {st : List Value} {S : q_Sh} {M : q_Mem} {N : q_MemL} {k n : Nat} {Q : q_Q} {x : Int32} {ty : FieldType} (hd : decode μ.2.1 pc = .ok (.ireturn, 1)) (hr : μ.2.2.2 = some ty := by rfl) (hn : narrow ty (.int x) = .int x) (hq : Q (some (.int x)) S M N) : AW G d μ pc L [.int x] S M N k n Q := by
  intro p e R s m args below meth c Z H locs ls cells slots C hR hS hL hcl hsl hret
  refine W.widen (k := cells + k) (n := slots + n) (Nat.le_add_right _ _) (Nat.le_add_right _ _) ?_
  exact hret (some (.int x)) S M N H locs pc ls hq hR hS (Or.inr (Or.inl ⟨ty, _, hr, rfl, hn⟩)) hd
theorem st_return {G : q_G} {d : Nat} {μ : q_M} {pc : Nat} {L : List (Option Value)} {st : List Value} {S : q_Sh} {M : q_Mem} {N : q_MemL} {k n : Nat} {Q : q_Q}  (hd : decode μ.2.1 pc = .ok (.return_, 1)) (hr : μ.2.2.2 = none := by rfl) (hq : Q none S M N) : AW G d μ pc L [] S M N k n Q := by
  intro p e R s m args below meth c Z H locs ls cells slots C hR hS hL hcl hsl hret
  refine W.widen (k := cells + k) (n := slots + n) (Nat.le_add_right _ _) (Nat.le_add_right _ _) ?_
  exact hret none S M N H locs pc ls hq hR hS (Or.inl ⟨hr, rfl⟩) hd
theorem st_lreturn {G : q_G} {d : Nat} {μ : q_M} {pc : Nat} {L : List (Option Value)} {st : List Value} {S : q_Sh} {M : q_Mem} {N : q_MemL} {k n : Nat} {Q : q_Q} {x : Int64} (hd : decode μ.2.1 pc = .ok (.lreturn, 1)) (hr : μ.2.2.2 = some .long := by rfl) (hq : Q (some (.long x)) S M N) : AW G d μ pc L [.long x] S M N k n Q := by
  intro p e R s m args below meth c Z H locs ls cells slots C hR hS hL hcl hsl hret
  refine W.widen (k := cells + k) (n := slots + n) (Nat.le_add_right _ _) (Nat.le_add_right _ _) ?_
  exact hret (some (.long x)) S M N H locs pc ls hq hR hS (Or.inr (Or.inr (Or.inl ⟨_, hr, rfl⟩))) hd
theorem st_areturn {G : q_G} {d : Nat} {μ : q_M} {pc : Nat} {L : List (Option Value)} {st : List Value} {S : q_Sh} {M : q_Mem} {N : q_MemL} {k n : Nat} {Q : q_Q} {a : Nat} {ty : FieldType} (hd : decode μ.2.1 pc = .ok (.areturn, 1)) (hr : μ.2.2.2 = some ty := by rfl) (hty : (∃ n, ty = .object n) ∨ ∃ t, ty = .array t := by exact Or.inl ⟨_, rfl⟩) (hq : Q (some (.ref a)) S M N) : AW G d μ pc L [.ref a] S M N k n Q := by
  intro p e R s m args below meth c Z H locs ls cells slots C hR hS hL hcl hsl hret
  refine W.widen (k := cells + k) (n := slots + n) (Nat.le_add_right _ _) (Nat.le_add_right _ _) ?_
  exact hret (some (.ref a)) S M N H locs pc ls hq hR hS (Or.inr (Or.inr (Or.inr ⟨ty, hr, hty, Or.inr ⟨_, rfl⟩⟩))) hd
theorem st_areturnN {G : q_G} {d : Nat} {μ : q_M} {pc : Nat} {L : List (Option Value)} {st : List Value} {S : q_Sh} {M : q_Mem} {N : q_MemL} {k n : Nat} {Q : q_Q} {ty : FieldType} (hd : decode μ.2.1 pc = .ok (.areturn, 1)) (hr : μ.2.2.2 = some ty := by rfl) (hty : (∃ n, ty = .object n) ∨ ∃ t, ty = .array t := by exact Or.inl ⟨_, rfl⟩) (hq : Q (some .null) S M N) : AW G d μ pc L [.null] S M N k n Q := by
  intro p e R s m args below meth c Z H locs ls cells slots C hR hS hL hcl hsl hret
  refine W.widen (k := cells + k) (n := slots + n) (Nat.le_add_right _ _) (Nat.le_add_right _ _) ?_
  exact hret (some .null) S M N H locs pc ls hq hR hS (Or.inr (Or.inr (Or.inr ⟨ty, hr, hty, Or.inl rfl⟩))) hd

/-! the string constants: class, entry, text -/
def q_str : List (String × Nat × String) := [("LoudHouse$HouseReading", 52, "house span person deaf thing asks"), ("LoudHouse$RuleReading", 63, "sing walk"), ("LoudHouse$RuleReading", 103, "person room storey voice heard hour beat crowd near things top"), ("LoudHouse$RuleReading", 92, "if"), ("LoudHouse$RuleReading", 142, "not"), ("LoudHouse$RuleReading", 140, "and or"), ("LoudHouseModel", 315, "house"), ("LoudHouseModel", 317, "span"), ("LoudHouseModel", 201, "person"), ("LoudHouseModel", 318, "deaf"), ("LoudHouseModel", 320, "thing"), ("LoudHouseModel", 322, "asks"), ("LoudHouseModel", 360, "walk"), ("LoudHouseModel", 362, "sing"), ("LoudHouseModel", 203, "room"), ("LoudHouseModel", 204, "storey"), ("LoudHouseModel", 205, "voice"), ("LoudHouseModel", 206, "heard"), ("LoudHouseModel", 208, "hour"), ("LoudHouseModel", 210, "beat"), ("LoudHouseModel", 212, "crowd"), ("LoudHouseModel", 214, "near"), ("LoudHouseModel", 216, "things"), ("LoudHouseModel", 218, "top"), ("LoudHouseModel", 364, "if"), ("LoudHouseModel", 297, "not"), ("LoudHouseModel", 311, "and"), ("LoudHouseModel", 313, "or")]
def q_nS : Nat := 28
def q_byt : List (List Int32) := [[104, 111, 117, 115, 101, 32, 115, 112, 97, 110, 32, 112, 101, 114, 115, 111, 110, 32, 100, 101, 97, 102, 32, 116, 104, 105, 110, 103, 32, 97, 115, 107, 115], [115, 105, 110, 103, 32, 119, 97, 108, 107], [112, 101, 114, 115, 111, 110, 32, 114, 111, 111, 109, 32, 115, 116, 111, 114, 101, 121, 32, 118, 111, 105, 99, 101, 32, 104, 101, 97, 114, 100, 32, 104, 111, 117, 114, 32, 98, 101, 97, 116, 32, 99, 114, 111, 119, 100, 32, 110, 101, 97, 114, 32, 116, 104, 105, 110, 103, 115, 32, 116, 111, 112], [105, 102], [110, 111, 116], [97, 110, 100, 32, 111, 114], [104, 111, 117, 115, 101], [115, 112, 97, 110], [112, 101, 114, 115, 111, 110], [100, 101, 97, 102], [116, 104, 105, 110, 103], [97, 115, 107, 115], [119, 97, 108, 107], [115, 105, 110, 103], [114, 111, 111, 109], [115, 116, 111, 114, 101, 121], [118, 111, 105, 99, 101], [104, 101, 97, 114, 100], [104, 111, 117, 114], [98, 101, 97, 116], [99, 114, 111, 119, 100], [110, 101, 97, 114], [116, 104, 105, 110, 103, 115], [116, 111, 112], [105, 102], [110, 111, 116], [97, 110, 100], [111, 114]]
def q_len : List Nat := [33, 9, 62, 2, 3, 6, 5, 4, 6, 4, 5, 4, 4, 4, 4, 6, 5, 5, 4, 4, 5, 4, 6, 3, 2, 3, 3, 2]
/-! THE ABSTRACT MACHINE: numbers, shapes, memory; one judgement AW over all contexts of a method -/
abbrev I (z : Int) : Value := .int (zi z)
abbrev q_Mem : Type := Nat → Nat → Int
abbrev q_MemL : Type := Nat → Nat → Int64
abbrev q_Ent : Type := Nat × Nat × List Value
abbrev q_Sh : Type := List q_Ent
/-- base, class numbers and slots, array classes, old cells, launch, the script's length and ints -/
abbrev q_G : Type := Nat × va_G × (Nat → ClassId) × (Nat → Nat) × Launch × Nat × (Nat → Int32)
def q_ad (G : q_G) (k : Nat) : Nat := if k < 1000 then G.1 + k else G.2.2.2.1 (k - 1000)
def q_cv (G : q_G) : Value → Value
  | .ref a => .ref (q_ad G a)
  | v => v
def q_fv (G : q_G) (f : Nat → Int) (j : Nat) : Value → Value
  | .int _ => .int (zi (f j))
  | v => q_cv G v
def q_rf : Value → Option Nat
  | .ref a => some a
  | _ => none
def q_ent (G : q_G) (M : q_Mem) (N : q_MemL) (k : Nat) (e : q_Ent) : va_E :=
  if e.1 < 20 then .inr (e.1, e.2.2.mapIdx (q_fv G (M k)))
  else if e.1 < 23 then .inl (G.2.2.1 e.1, e.2.1, .inl (fun j => zi (M k j)))
  else if e.1 = 23 then .inl (G.2.2.1 e.1, e.2.1, .inr (.inl (N k)))
  else .inl (G.2.2.1 e.1, e.2.1, .inr (.inr (.inr (.inr (fun j => (q_rf (e.2.2.getD j .null)).map (q_ad G))))))
def q_ws (G : q_G) (S : q_Sh) (M : q_Mem) (N : q_MemL) : va_W := S.mapIdx (fun k e => (G.1 + k, q_ent G M N k e))
def q_tys (G : q_G) : List (ClassId × FieldType) := [(G.2.2.1 20, .int), (G.2.2.1 21, .byte), (G.2.2.1 22, .boolean), (G.2.2.1 23, .long), (G.2.2.1 24, .object RX2), (G.2.2.1 25, .object RX5)]
abbrev q_A (G : q_G) : Nat → Prop := fun q => G.1 ≤ q
def q_R (G : q_G) (S : q_Sh) (M : q_Mem) (N : q_MemL) (H : Heap) : Prop := H.size = G.1 + S.length ∧ S.length ≤ 900 ∧ va_P G.2.1 vwCl (q_ws G S M N) H
/-- what was there before: string constants, the script, COMPACT_STRINGS -/
def q_O (G : q_G) (U : State) (H : Heap) : Prop :=
  (∀ (i : Nat) (w : String × Nat × String), q_str[i]? = some w → vk_R w.1 w.2.1 w.2.2 (G.2.2.2.1 (2 * i)) U) ∧
  (∀ i : Nat, i < q_nS → va_O "java/lang/String" (G.2.2.2.1 (2 * i)) (q_A G) U H ∧ va_OF "java/lang/String" "coder" "B" (.int 0) (G.2.2.2.1 (2 * i)) (q_A G) U H ∧ va_OF "java/lang/String" "value" "[B" (.ref (G.2.2.2.1 (2 * i + 1))) (G.2.2.2.1 (2 * i)) (q_A G) U H ∧ va_T .byte (G.2.2.2.1 (2 * i + 1)) (q_len.getD i 0) (fun j => .int ((q_byt.getD i []).getD j 0)) (q_A G) U H) ∧
  va_X (G.2.2.2.1 999) G.2.2.2.2.2.1 G.2.2.2.2.2.2 U H ∧ G.2.2.2.1 999 < G.1 ∧
  va_Z "java/lang/String" "COMPACT_STRINGS" "Z" (.int 1) (q_A G) U H ∧
  (∀ (a : String) (i : Nat) (x : MethodName) (h : String), Cond.methodLinkNest a i x h ∈ lw_tbl → va_Nw (.methodLinkNest a i x h) U) ∧ va_AO RX2 U ∧ va_AO RX5 U ∧
  (va_Z "jdk/internal/util/Preconditions" "SIOOBE_FORMATTER" "Ljava/util/function/BiFunction;" .null (q_A G) U H ∨ va_Z "jdk/internal/util/Preconditions" "SIOOBE_FORMATTER" "Ljava/util/function/BiFunction;" (.ref (G.2.2.2.1 998)) (q_A G) U H)
def q_C (G : q_G) (d : Nat) (μ : q_M) (p : Program) (R : Room) (s : State) (m : MethodId) (args : Array Value) (meth : Method) (c : Code) : Prop :=
  p.tables.exec = Jvm.exec ∧ c.code = μ.2.1 ∧ c.maxLocals = μ.2.2.1 ∧ s.vm.findClass μ.1.cls = some m.cls ∧ (∀ w ∈ q_W, w.before args s = true) ∧ va_K G.2.1 vwCl (q_tys G) s ∧ q_O G s s.heap ∧ G.1 ≤ s.heap.size ∧
  meth.locks = false ∧ meth.sig.returnType = μ.2.2.2 ∧ meth.name = μ.1.name ∧ d ≤ R.frames ∧ 60 * (d + 1) ≤ R.locals
/-- an answer that a method of this type may give -/
def q_ok (ret : Option FieldType) (v : Option Value) : Prop :=
  (ret = none ∧ v = none) ∨ (∃ ty x, ret = some ty ∧ v = some (.int x) ∧ narrow ty (.int x) = .int x) ∨ (∃ x, ret = some .long ∧ v = some (.long x)) ∨
  (∃ ty, ret = some ty ∧ ((∃ n, ty = .object n) ∨ ∃ t, ty = .array t) ∧ (v = some .null ∨ ∃ a, v = some (.ref a)))
def q_ri : Option Value → Instr
  | none => .return_
  | some (.int _) => .ireturn
  | some (.long _) => .lreturn
  | _ => .areturn
def q_L (G : q_G) (ml : Nat) (L : List (Option Value)) (ls : Array Slot) : Prop :=
  L.length = ml ∧ ∃ lv, lv_has ls ml lv ∧ ∀ (j : Nat) (v : Value), L[j]? = some (some v) → (j, q_cv G v) ∈ lv
abbrev q_Q : Type := Option Value → q_Sh → q_Mem → q_MemL → Prop
/-- THE JUDGEMENT: the method μ, at pc with locals L and stack st, over the shape S and memory M, N, comes back, with Q -/
def AW (G : q_G) (d : Nat) (μ : q_M) (pc : Nat) (L : List (Option Value)) (st : List Value) (S : q_Sh) (M : q_Mem) (N : q_MemL) (k n : Nat) (Q : q_Q) : Prop :=
  ∀ (p : Program) (e : Env) (R : Room) (s : State) (m : MethodId) (args : Array Value) (below : List Frame) (meth : Method) (c : Code) (Z : State → Prop) (H : Heap) (locs : List Loc) (ls : Array Slot) (cells slots : Nat),
    q_C G d μ p R s m args meth c → q_R G S M N H → va_S (q_A G) s.heap H locs → q_L G μ.2.2.1 L ls → cells + k ≤ R.cells → slots + n ≤ R.slots →
    (∀ (v : Option Value) (S' : q_Sh) (M' : q_Mem) (N' : q_MemL) (H' : Heap) (locs' : List Loc) (pc' : Nat) (ls' : Array Slot), Q v S' M' N' → q_R G S' M' N' H' → va_S (q_A G) s.heap H' locs' → q_ok μ.2.2.2 v → decode μ.2.1 pc' = .ok (q_ri v, 1) →
      W p G.2.2.2.2.1 e R s m args below meth c H' locs' (cells + k) (slots + n) Z (F0 m pc' ls' (v.map (q_cv G)).toList)) →
    W p G.2.2.2.2.1 e R s m args below meth c H locs cells slots Z (F0 m pc ls (st.map (q_cv G)))
/-- the contract of a method: from these arguments over this memory it comes back, with Q -/
def AC (G : q_G) (d : Nat) (μ : q_M) (as : List Value) (S : q_Sh) (M : q_Mem) (N : q_MemL) (k n : Nat) (Q : q_Q) : Prop :=
  Met G.2.2.2.2.1 μ.1 (.code μ.1 μ.2.1 μ.2.2.1 μ.2.2.2 :: q_W) { frames := d, cells := k, slots := n, locals := 60 * (d + 1) }
    (va_Pc (as.map (q_cv G)) (fun U => q_R G S M N U.heap ∧ va_K G.2.1 vwCl (q_tys G) U ∧ q_O G U U.heap ∧ G.1 ≤ U.heap.size))
    (fun _ st o t => (∃ v S' M' N', o = .returned (v.map (q_cv G)) ∧ Q v S' M' N' ∧ q_R G S' M' N' t.heap) ∧ va_F (q_A G) st t) k n (q_A G)

theorem AW.mono {G : q_G} {d : Nat} {μ : q_M} {pc : Nat} {L : List (Option Value)} {st : List Value} {S : q_Sh} {M : q_Mem} {N : q_MemL} {k n : Nat} {Q Q' : q_Q} (h : ∀ v S' M' N', Q v S' M' N' → Q' v S' M' N') (k0 : AW G d μ pc L st S M N k n Q) : AW G d μ pc L st S M N k n Q' := by
  intro p e R s m args below meth c Z H locs ls cells slots C hR hS hL hc hs hr
  exact k0 p e R s m args below meth c Z H locs ls cells slots C hR hS hL hc hs (fun v S' M' N' H' locs' pc' ls' q => hr v S' M' N' H' locs' pc' ls' (h _ _ _ _ q))

/-! the heap -/
theorem q_ws_get {G : q_G} {S : q_Sh} {M : q_Mem} {N : q_MemL} {k : Nat} {e : q_Ent} (h : S[k]? = some e) : (q_ws G S M N)[k]? = some (G.1 + k, q_ent G M N k e) := by
  simp [q_ws, List.getElem?_mapIdx, h]
theorem q_ws_at {G : q_G} {S : q_Sh} {M : q_Mem} {N : q_MemL} {k : Nat} {q : Nat × va_E} (h : (q_ws G S M N)[k]? = some q) : ∃ e, S[k]? = some e ∧ q = (G.1 + k, q_ent G M N k e) := by
  simp only [q_ws, List.getElem?_mapIdx, Option.map_eq_some_iff] at h
  obtain ⟨e, h1, h2⟩ := h
  exact ⟨e, h1, h2.symm⟩
theorem q_D {G : q_G} {S : q_Sh} {M : q_Mem} {N : q_MemL} : va_D (q_A G) (q_ws G S M N) := by
  refine ⟨fun i j p q hi hj he => ?_, fun k q hk => ?_⟩
  · obtain ⟨e1, -, rfl⟩ := q_ws_at hi
    obtain ⟨e2, -, rfl⟩ := q_ws_at hj
    exact Nat.add_left_cancel he
  · obtain ⟨e1, -, rfl⟩ := q_ws_at hk
    exact Nat.le_add_right _ _
theorem q_ws_set {G : q_G} {S : q_Sh} {M M' : q_Mem} {N N' : q_MemL} {k : Nat} {e e' : q_Ent} (h : S[k]? = some e) (hM : ∀ j, j ≠ k → M' j = M j) (hN : ∀ j, j ≠ k → N' j = N j) :
    (q_ws G S M N).set k (G.1 + k, q_ent G M' N' k e') = q_ws G (S.set k e') M' N' := by
  apply List.ext_getElem?
  intro i
  by_cases hi : i = k
  · subst hi
    have hl : i < S.length := (List.getElem?_eq_some_iff.mp h).1
    rw [List.getElem?_set_self (by simp [q_ws, hl]), q_ws_get (e := e') (by rw [List.getElem?_set_self hl])]
  · rw [List.getElem?_set_ne (Ne.symm hi)]
    simp only [q_ws, List.getElem?_mapIdx, List.getElem?_set_ne (Ne.symm hi)]
    cases S[i]? with
    | none => rfl
    | some x => simp [q_ent, hM i hi, hN i hi]
theorem q_ws_push {G : q_G} {S : q_Sh} {M : q_Mem} {N : q_MemL} {e : q_Ent} : q_ws G (S ++ [e]) M N = q_ws G S M N ++ [(G.1 + S.length, q_ent G M N S.length e)] := by
  simp [q_ws, List.mapIdx_append]
theorem q_set_id {S : q_Sh} {k : Nat} {e : q_Ent} (h : S[k]? = some e) : S.set k e = S := by
  apply List.ext_getElem?
  intro i
  by_cases hi : i = k
  · subst hi
    rw [List.getElem?_set_self (List.getElem?_eq_some_iff.mp h).1, h]
  · rw [List.getElem?_set_ne (Ne.symm hi)]
theorem q_ad_new {G : q_G} {k : Nat} (h : k < 1000) : q_ad G k = G.1 + k := if_pos h
theorem q_R.lt {G : q_G} {S : q_Sh} {M : q_Mem} {N : q_MemL} {H : Heap} (h : q_R G S M N H) {k : Nat} {e : q_Ent} (hk : S[k]? = some e) : k < 1000 := by
  have h1 := (List.getElem?_eq_some_iff.mp hk).1
  have h2 := h.2.1
  omega
theorem q_L.get {G : q_G} {ml : Nat} {L : List (Option Value)} {ls : Array Slot} (h : q_L G ml L ls) {j : Nat} {v : Value} (hj : L[j]? = some (some v)) : ls[j]? = some (.val (q_cv G v)) := by
  obtain ⟨-, lv, h1, h2⟩ := h
  exact h1.2.2 _ (h2 j v hj)
theorem q_L.size {G : q_G} {ml : Nat} {L : List (Option Value)} {ls : Array Slot} (h : q_L G ml L ls) : ls.size = ml := by
  obtain ⟨-, lv, h1, h2⟩ := h
  exact h1.1
/-- the slot ahead of this one holds no long -/
def q_c1 (L : List (Option Value)) (i : Nat) : Bool := match i with
  | 0 => true
  | j + 1 => match L[j]? with
    | some (some (.long _)) => false
    | some (some (.double _)) => false
    | _ => true
theorem q_cv_cat (G : q_G) (v : Value) : (q_cv G v).category = v.category := by cases v <;> rfl
theorem q_c1_spec {L : List (Option Value)} {i j : Nat} {v : Value} (h : q_c1 L i = true) (hj : L[j]? = some (some v)) (hi : j + 1 = i) : v.category ≠ 2 := by
  subst hi
  intro hc
  cases v <;> simp_all [q_c1, Value.category]
theorem q_L.set1 {G : q_G} {ml : Nat} {L L' : List (Option Value)} {ls : Array Slot} (h : q_L G ml L ls) {i : Nat} {v : Value} (hv : v.category = 1) (hi : i < ml) (hc : q_c1 L i = true) (hL : L.set i (some v) = L') : ∃ ls', storeLocals ls i (q_cv G v) = some ls' ∧ q_L G ml L' ls' := by
  obtain ⟨hl, lv, h1, h2⟩ := h
  obtain ⟨ls', e1, e2⟩ := lv_store1 (v := q_cv G v) h1 hi (by rw [q_cv_cat]; exact hv)
  subst hL
  refine ⟨ls', e1, by rw [List.length_set]; exact hl, _, e2, fun j w hj => ?_⟩
  by_cases hij : j = i
  · subst hij
    rw [List.getElem?_set_self (by omega)] at hj
    cases hj
    exact List.mem_cons_self
  · rw [List.getElem?_set_ne (Ne.symm hij)] at hj
    refine List.mem_cons_of_mem _ (List.mem_filter.mpr ⟨h2 j w hj, ?_⟩)
    have hn := fun hji => q_c1_spec hc hj hji
    by_cases hji : j + 1 = i
    · have := hn hji
      simp [hij, q_cv_cat, this]
    · simp [hij, hji]
theorem q_L.set2 {G : q_G} {ml : Nat} {L L' : List (Option Value)} {ls : Array Slot} (h : q_L G ml L ls) {i : Nat} {v : Value} (hv : v.category = 2) (hi : i + 1 < ml) (hc : q_c1 L i = true) (hL : (L.set i (some v)).set (i + 1) none = L') : ∃ ls', storeLocals ls i (q_cv G v) = some ls' ∧ q_L G ml L' ls' := by
  obtain ⟨hl, lv, h1, h2⟩ := h
  obtain ⟨ls', e1, e2⟩ := lv_store2 (v := q_cv G v) h1 hi (by rw [q_cv_cat]; exact hv)
  subst hL
  refine ⟨ls', e1, by rw [List.length_set, List.length_set]; exact hl, _, e2, fun j w hj => ?_⟩
  by_cases hi1 : j = i + 1
  · subst hi1
    rw [List.getElem?_set_self (by rw [List.length_set]; omega)] at hj
    cases hj
  · rw [List.getElem?_set_ne (Ne.symm hi1)] at hj
    by_cases hij : j = i
    · subst hij
      rw [List.getElem?_set_self (by omega)] at hj
      cases hj
      exact List.mem_cons_self
    · rw [List.getElem?_set_ne (Ne.symm hij)] at hj
      refine List.mem_cons_of_mem _ (List.mem_filter.mpr ⟨h2 j w hj, ?_⟩)
      have hn := fun hji => q_c1_spec hc hj hji
      by_cases hji : j + 1 = i
      · have := hn hji
        simp [hij, hi1, q_cv_cat, this]
      · simp [hij, hi1, hji]
/-- an instruction that moves pc, locals and stack alone -/
theorem AW.op {G : q_G} {d : Nat} {μ : q_M} {pc pc' : Nat} {L : List (Option Value)} {st st' : List Value} {S : q_Sh} {M : q_Mem} {N : q_MemL} {k n : Nat} {Q : q_Q}
    (h : ∀ (p : Program) (e : Env) (R : Room) (s : State) (m : MethodId) (args : Array Value) (below : List Frame) (meth : Method) (c : Code) (Z : State → Prop) (H : Heap) (locs : List Loc) (ls : Array Slot) (cells slots : Nat),
      q_C G d μ p R s m args meth c → q_R G S M N H → va_S (q_A G) s.heap H locs → q_L G μ.2.2.1 L ls → W p G.2.2.2.2.1 e R s m args below meth c H locs cells slots Z (F0 m pc' ls (st'.map (q_cv G))) → W p G.2.2.2.2.1 e R s m args below meth c H locs cells slots Z (F0 m pc ls (st.map (q_cv G))))
    (kk : AW G d μ pc' L st' S M N k n Q) : AW G d μ pc L st S M N k n Q := by
  intro p e R s m args below meth c Z H locs ls cells slots C hR hS hL hc hs hr
  exact h p e R s m args below meth c Z H locs ls cells slots C hR hS hL (kk p e R s m args below meth c Z H locs ls cells slots C hR hS hL hc hs hr)
theorem AW.to {G : q_G} {d : Nat} {μ : q_M} {pc pc' : Nat} {L L' : List (Option Value)} {st st' : List Value} {S S' : q_Sh} {M M' : q_Mem} {N N' : q_MemL} {k n : Nat} {Q : q_Q} (kk : AW G d μ pc' L' st' S' M' N' k n Q) (h1 : pc = pc' := by rfl) (h2 : L = L' := by rfl) (h3 : st = st' := by rfl) (h4 : M = M' := by rfl) (h5 : N = N' := by rfl) (h6 : S = S' := by rfl) : AW G d μ pc L st S M N k n Q := by
  subst h1; subst h2; subst h3; subst h4; subst h5; subst h6
  exact kk
/-- fewer locals known -/
theorem AW.sub {G : q_G} {d : Nat} {μ : q_M} {pc : Nat} {L L' : List (Option Value)} {st : List Value} {S : q_Sh} {M : q_Mem} {N : q_MemL} {k n : Nat} {Q : q_Q} (kk : AW G d μ pc L' st S M N k n Q) (hl : L.length = L'.length) (h : ∀ (j : Nat) (v : Value), L'[j]? = some (some v) → L[j]? = some (some v)) : AW G d μ pc L st S M N k n Q := by
  intro p e R s m args below meth c Z H locs ls cells slots C hR hS hL hc hs hr
  obtain ⟨h1, lv, h2, h3⟩ := hL
  exact kk p e R s m args below meth c Z H locs ls cells slots C hR hS ⟨by rw [← hl]; exact h1, lv, h2, fun j v hj => h3 j v (h j v hj)⟩ hc hs hr
/-- L' says no more than L -/
def q_le : List (Option Value) → List (Option Value) → Prop
  | [], [] => True
  | _ :: l, none :: l' => q_le l l'
  | x :: l, some v :: l' => x = some v ∧ q_le l l'
  | _, _ => False
theorem q_le.ok : ∀ {L L' : List (Option Value)}, q_le L L' → L.length = L'.length ∧ ∀ (j : Nat) (v : Value), L'[j]? = some (some v) → L[j]? = some (some v)
  | [], [], _ => ⟨rfl, fun j v h => by simp at h⟩
  | x :: l, none :: l', h => by
    obtain ⟨h1, h2⟩ := q_le.ok (L := l) (L' := l') h
    refine ⟨by simp [h1], fun j v hj => ?_⟩
    cases j with
    | zero => simp at hj
    | succ j => simpa using h2 j v (by simpa using hj)
  | x :: l, some w :: l', h => by
    obtain ⟨h0, h⟩ := h
    obtain ⟨h1, h2⟩ := q_le.ok (L := l) (L' := l') h
    refine ⟨by simp [h1], fun j v hj => ?_⟩
    cases j with
    | zero => simpa [h0] using hj
    | succ j => simpa using h2 j v (by simpa using hj)
  | [], _ :: _, h => False.elim (by cases ‹Option Value› <;> exact h)
  | _ :: _, [], h => False.elim (by simpa [q_le] using h)
theorem AW.le {G : q_G} {d : Nat} {μ : q_M} {pc : Nat} {L L' : List (Option Value)} {st : List Value} {S : q_Sh} {M : q_Mem} {N : q_MemL} {k n : Nat} {Q : q_Q} (kk : AW G d μ pc L' st S M N k n Q) (h : q_le L L') : AW G d μ pc L st S M N k n Q := kk.sub (q_le.ok h).1 (q_le.ok h).2
/-! numbers -/
theorem zi_toInt {x : Int} (hx : -2147483648 ≤ x ∧ x < 2147483648) : (zi x).toInt = x := Int32.toInt_ofInt_of_le hx.1 hx.2
theorem zi_lt {x y : Int} (hx : -2147483648 ≤ x ∧ x < 2147483648) (hy : -2147483648 ≤ y ∧ y < 2147483648) : zi x < zi y ↔ x < y := by
  rw [Int32.lt_iff_toInt_lt, zi_toInt hx, zi_toInt hy]
theorem zi_le {x y : Int} (hx : -2147483648 ≤ x ∧ x < 2147483648) (hy : -2147483648 ≤ y ∧ y < 2147483648) : zi x ≤ zi y ↔ x ≤ y := by
  rw [Int32.le_iff_toInt_le, zi_toInt hx, zi_toInt hy]
theorem zi_eq {x y : Int} (hx : -2147483648 ≤ x ∧ x < 2147483648) (hy : -2147483648 ≤ y ∧ y < 2147483648) : zi x = zi y ↔ x = y := by
  rw [← Int32.toInt_inj, zi_toInt hx, zi_toInt hy]
theorem zi_0 : zi 0 = 0 := rfl
theorem zi_eq0 {x : Int} (hx : -2147483648 ≤ x ∧ x < 2147483648) : zi x = 0 ↔ x = 0 := zi_eq (y := 0) hx (by decide)
theorem zi_lt0 {x : Int} (hx : -2147483648 ≤ x ∧ x < 2147483648) : zi x < 0 ↔ x < 0 := zi_lt (y := 0) hx (by decide)
theorem zi_le0 {x : Int} (hx : -2147483648 ≤ x ∧ x < 2147483648) : zi x ≤ 0 ↔ x ≤ 0 := zi_le (y := 0) hx (by decide)
theorem zi_ge0 {x : Int} (hx : -2147483648 ≤ x ∧ x < 2147483648) : 0 ≤ zi x ↔ 0 ≤ x := zi_le (x := 0) (by decide) hx
theorem zi_gt0 {x : Int} (hx : -2147483648 ≤ x ∧ x < 2147483648) : 0 < zi x ↔ 0 < x := zi_lt (x := 0) (by decide) hx
theorem zi_clamp {x : Int} (hx : 0 ≤ x ∧ x < 2147483648) : (zi x).toNatClampNeg = x.toNat := Int32.toNatClampNeg_ofInt_of_le (by omega) (by omega)
/-! the instructions that touch neither heap nor methods -/
theorem st_iconst {G : q_G} {d : Nat} {μ : q_M} {pc : Nat} {L : List (Option Value)} {st : List Value} {S : q_Sh} {M : q_Mem} {N : q_MemL} {k n : Nat} {Q : q_Q} {c : Int} (hd : decode μ.2.1 pc = .ok (.iconst c, 1)) (kk : AW G d μ (pc + 1) L (I c :: st) S M N k n Q) : AW G d μ pc L st S M N k n Q := by
  refine AW.op (fun p e R s m args below meth c Z H locs ls cells slots C hR hS hL kw => ?_) kk
  exact lv_iconst C.1 C.2.1 hd rfl kw
theorem st_bipush {G : q_G} {d : Nat} {μ : q_M} {pc : Nat} {L : List (Option Value)} {st : List Value} {S : q_Sh} {M : q_Mem} {N : q_MemL} {k n : Nat} {Q : q_Q} {c : Int} (hd : decode μ.2.1 pc = .ok (.bipush c, 2)) (hv : (Int8.ofInt c).toInt32 = zi c := by decide) (kk : AW G d μ (pc + 2) L (I c :: st) S M N k n Q) : AW G d μ pc L st S M N k n Q := by
  refine AW.op (fun p e R s m args below meth c Z H locs ls cells slots C hR hS hL kw => ?_) kk
  exact lv_bipush C.1 C.2.1 hd hv kw
theorem st_sipush {G : q_G} {d : Nat} {μ : q_M} {pc : Nat} {L : List (Option Value)} {st : List Value} {S : q_Sh} {M : q_Mem} {N : q_MemL} {k n : Nat} {Q : q_Q} {c : Int} (hd : decode μ.2.1 pc = .ok (.sipush c, 3)) (hv : (Int16.ofInt c).toInt32 = zi c := by decide) (kk : AW G d μ (pc + 3) L (I c :: st) S M N k n Q) : AW G d μ pc L st S M N k n Q := by
  refine AW.op (fun p e R s m args below meth c Z H locs ls cells slots C hR hS hL kw => ?_) kk
  exact lv_sipush C.1 C.2.1 hd hv kw
theorem st_lconst {G : q_G} {d : Nat} {μ : q_M} {pc : Nat} {L : List (Option Value)} {st : List Value} {S : q_Sh} {M : q_Mem} {N : q_MemL} {k n : Nat} {Q : q_Q} {c : Fin 2} (hd : decode μ.2.1 pc = .ok (.lconst c, 1)) (kk : AW G d μ (pc + 1) L (.long (Int64.ofNat (c : Nat)) :: st) S M N k n Q) : AW G d μ pc L st S M N k n Q := by
  refine AW.op (fun p e R s m args below meth c Z H locs ls cells slots C hR hS hL kw => ?_) kk
  exact lv_lconst C.1 C.2.1 hd rfl kw
theorem st_ldc {G : q_G} {d : Nat} {μ : q_M} {pc : Nat} {L : List (Option Value)} {st : List Value} {S : q_Sh} {M : q_Mem} {N : q_MemL} {k n : Nat} {Q : q_Q} {i : Nat} {v : Int} (hd : decode μ.2.1 pc = .ok (.ldc i, 2)) (hc : Cond.constant μ.1.cls i (zi v) ∈ q_W) (kk : AW G d μ (pc + 2) L (I v :: st) S M N k n Q) : AW G d μ pc L st S M N k n Q := by
  refine AW.op (fun p e R s m args below meth c Z H locs ls cells slots C hR hS hL kw => ?_) kk
  exact lv_ldc C.1 C.2.1 C.2.2.2.1 (C.2.2.2.2.1 _ hc) hd kw
theorem st_ldcw {G : q_G} {d : Nat} {μ : q_M} {pc : Nat} {L : List (Option Value)} {st : List Value} {S : q_Sh} {M : q_Mem} {N : q_MemL} {k n : Nat} {Q : q_Q} {i : Nat} {v : Int} (hd : decode μ.2.1 pc = .ok (.ldc_w i, 3)) (hc : Cond.constant μ.1.cls i (zi v) ∈ q_W) (kk : AW G d μ (pc + 3) L (I v :: st) S M N k n Q) : AW G d μ pc L st S M N k n Q := by
  refine AW.op (fun p e R s m args below meth c Z H locs ls cells slots C hR hS hL kw => ?_) kk
  exact lv_ldcw C.1 C.2.1 C.2.2.2.1 (C.2.2.2.2.1 _ hc) hd kw
theorem st_ldc2 {G : q_G} {d : Nat} {μ : q_M} {pc : Nat} {L : List (Option Value)} {st : List Value} {S : q_Sh} {M : q_Mem} {N : q_MemL} {k n : Nat} {Q : q_Q} {i : Nat} {v : Int64} (hd : decode μ.2.1 pc = .ok (.ldc2_w i, 3)) (hc : Cond.constantLong μ.1.cls i v ∈ q_W) (kk : AW G d μ (pc + 3) L (.long v :: st) S M N k n Q) : AW G d μ pc L st S M N k n Q := by
  refine AW.op (fun p e R s m args below meth c Z H locs ls cells slots C hR hS hL kw => ?_) kk
  exact lv_ldc2 C.1 C.2.1 C.2.2.2.1 (C.2.2.2.2.1 _ hc) hd kw
theorem st_iload_n {G : q_G} {d : Nat} {μ : q_M} {pc : Nat} {L : List (Option Value)} {st : List Value} {S : q_Sh} {M : q_Mem} {N : q_MemL} {k n : Nat} {Q : q_Q} {x : Int32} {j : Fin 4} (hd : decode μ.2.1 pc = .ok (.iload_n j, 1)) (hv : L[(j : Nat)]? = some (some (.int x))) (kk : AW G d μ (pc + 1) L (.int x :: st) S M N k n Q) : AW G d μ pc L st S M N k n Q := by
  refine AW.op (fun p e R s m args below meth c Z H locs ls cells slots C hR hS hL kw => ?_) kk
  exact lv_iload_n C.1 C.2.1 hd rfl (hL.get hv) kw
theorem st_iload {G : q_G} {d : Nat} {μ : q_M} {pc : Nat} {L : List (Option Value)} {st : List Value} {S : q_Sh} {M : q_Mem} {N : q_MemL} {k n : Nat} {Q : q_Q} {x : Int32} {j : Nat} (hd : decode μ.2.1 pc = .ok (.iload j, 2)) (hv : L[j]? = some (some (.int x))) (kk : AW G d μ (pc + 2) L (.int x :: st) S M N k n Q) : AW G d μ pc L st S M N k n Q := by
  refine AW.op (fun p e R s m args below meth c Z H locs ls cells slots C hR hS hL kw => ?_) kk
  exact lv_iload C.1 C.2.1 hd (hL.get hv) kw
theorem st_lload_n {G : q_G} {d : Nat} {μ : q_M} {pc : Nat} {L : List (Option Value)} {st : List Value} {S : q_Sh} {M : q_Mem} {N : q_MemL} {k n : Nat} {Q : q_Q} {x : Int64} {j : Fin 4} (hd : decode μ.2.1 pc = .ok (.lload_n j, 1)) (hv : L[(j : Nat)]? = some (some (.long x))) (kk : AW G d μ (pc + 1) L (.long x :: st) S M N k n Q) : AW G d μ pc L st S M N k n Q := by
  refine AW.op (fun p e R s m args below meth c Z H locs ls cells slots C hR hS hL kw => ?_) kk
  exact lv_lload_n C.1 C.2.1 hd rfl (hL.get hv) kw
theorem st_lload {G : q_G} {d : Nat} {μ : q_M} {pc : Nat} {L : List (Option Value)} {st : List Value} {S : q_Sh} {M : q_Mem} {N : q_MemL} {k n : Nat} {Q : q_Q} {x : Int64} {j : Nat} (hd : decode μ.2.1 pc = .ok (.lload j, 2)) (hv : L[j]? = some (some (.long x))) (kk : AW G d μ (pc + 2) L (.long x :: st) S M N k n Q) : AW G d μ pc L st S M N k n Q := by
  refine AW.op (fun p e R s m args below meth c Z H locs ls cells slots C hR hS hL kw => ?_) kk
  exact lv_lload C.1 C.2.1 hd (hL.get hv) kw
theorem st_aload_n {G : q_G} {d : Nat} {μ : q_M} {pc : Nat} {L : List (Option Value)} {st : List Value} {S : q_Sh} {M : q_Mem} {N : q_MemL} {k n : Nat} {Q : q_Q} {a : Nat} {j : Fin 4} (hd : decode μ.2.1 pc = .ok (.aload_n j, 1)) (hv : L[(j : Nat)]? = some (some (.ref a))) (kk : AW G d μ (pc + 1) L (.ref a :: st) S M N k n Q) : AW G d μ pc L st S M N k n Q := by
  refine AW.op (fun p e R s m args below meth c Z H locs ls cells slots C hR hS hL kw => ?_) kk
  exact lv_aload_n C.1 C.2.1 hd rfl (hL.get hv) kw
theorem st_aload {G : q_G} {d : Nat} {μ : q_M} {pc : Nat} {L : List (Option Value)} {st : List Value} {S : q_Sh} {M : q_Mem} {N : q_MemL} {k n : Nat} {Q : q_Q} {a : Nat} {j : Nat} (hd : decode μ.2.1 pc = .ok (.aload j, 2)) (hv : L[j]? = some (some (.ref a))) (kk : AW G d μ (pc + 2) L (.ref a :: st) S M N k n Q) : AW G d μ pc L st S M N k n Q := by
  refine AW.op (fun p e R s m args below meth c Z H locs ls cells slots C hR hS hL kw => ?_) kk
  exact lv_aload C.1 C.2.1 hd (hL.get hv) kw
theorem st_aload_nN {G : q_G} {d : Nat} {μ : q_M} {pc : Nat} {L : List (Option Value)} {st : List Value} {S : q_Sh} {M : q_Mem} {N : q_MemL} {k n : Nat} {Q : q_Q} {j : Fin 4} (hd : decode μ.2.1 pc = .ok (.aload_n j, 1)) (hv : L[(j : Nat)]? = some (some .null)) (kk : AW G d μ (pc + 1) L (.null :: st) S M N k n Q) : AW G d μ pc L st S M N k n Q := by
  refine AW.op (fun p e R s m args below meth c Z H locs ls cells slots C hR hS hL kw => ?_) kk
  exact lv_aload_nN C.1 C.2.1 hd rfl (hL.get hv) kw
theorem st_iadd {G : q_G} {d : Nat} {μ : q_M} {pc : Nat} {L : List (Option Value)} {st : List Value} {S : q_Sh} {M : q_Mem} {N : q_MemL} {k n : Nat} {Q : q_Q} {x y : Int} (hd : decode μ.2.1 pc = .ok (.iadd, 1)) (kk : AW G d μ (pc + 1) L (I (x + y) :: st) S M N k n Q) : AW G d μ pc L (I y :: I x :: st) S M N k n Q := by
  refine AW.op (fun p e R s m args below meth c Z H locs ls cells slots C hR hS hL kw => ?_) kk
  rw [List.map_cons, show q_cv G (I (x + y)) = .int (zi x + zi y) from congrArg Value.int (Int32.ofInt_add x y)] at kw
  exact lv_iadd C.1 C.2.1 hd kw
theorem st_isub {G : q_G} {d : Nat} {μ : q_M} {pc : Nat} {L : List (Option Value)} {st : List Value} {S : q_Sh} {M : q_Mem} {N : q_MemL} {k n : Nat} {Q : q_Q} {x y : Int} (hd : decode μ.2.1 pc = .ok (.isub, 1)) (kk : AW G d μ (pc + 1) L (I (x - y) :: st) S M N k n Q) : AW G d μ pc L (I y :: I x :: st) S M N k n Q := by
  refine AW.op (fun p e R s m args below meth c Z H locs ls cells slots C hR hS hL kw => ?_) kk
  rw [List.map_cons, show q_cv G (I (x - y)) = .int (zi x - zi y) from congrArg Value.int (Int32.ofInt_sub x y)] at kw
  exact lv_isub C.1 C.2.1 hd kw
theorem st_imul {G : q_G} {d : Nat} {μ : q_M} {pc : Nat} {L : List (Option Value)} {st : List Value} {S : q_Sh} {M : q_Mem} {N : q_MemL} {k n : Nat} {Q : q_Q} {x y : Int} (hd : decode μ.2.1 pc = .ok (.imul, 1)) (kk : AW G d μ (pc + 1) L (I (x * y) :: st) S M N k n Q) : AW G d μ pc L (I y :: I x :: st) S M N k n Q := by
  refine AW.op (fun p e R s m args below meth c Z H locs ls cells slots C hR hS hL kw => ?_) kk
  rw [List.map_cons, show q_cv G (I (x * y)) = .int (zi x * zi y) from congrArg Value.int (Int32.ofInt_mul x y)] at kw
  exact lv_imul C.1 C.2.1 hd kw
theorem st_ineg {G : q_G} {d : Nat} {μ : q_M} {pc : Nat} {L : List (Option Value)} {st : List Value} {S : q_Sh} {M : q_Mem} {N : q_MemL} {k n : Nat} {Q : q_Q} {x : Int} (hd : decode μ.2.1 pc = .ok (.ineg, 1)) (kk : AW G d μ (pc + 1) L (I (-x) :: st) S M N k n Q) : AW G d μ pc L (I x :: st) S M N k n Q := by
  refine AW.op (fun p e R s m args below meth c Z H locs ls cells slots C hR hS hL kw => ?_) kk
  rw [List.map_cons, show q_cv G (I (-x)) = .int (-(zi x)) from congrArg Value.int (Int32.ofInt_neg x)] at kw
  exact lv_ineg C.1 C.2.1 hd kw
theorem st_iand {G : q_G} {d : Nat} {μ : q_M} {pc : Nat} {L : List (Option Value)} {st : List Value} {S : q_Sh} {M : q_Mem} {N : q_MemL} {k n : Nat} {Q : q_Q} {x y : Int32} (hd : decode μ.2.1 pc = .ok (.iand, 1)) (kk : AW G d μ (pc + 1) L (.int (x &&& y) :: st) S M N k n Q) : AW G d μ pc L (.int y :: .int x :: st) S M N k n Q := by
  refine AW.op (fun p e R s m args below meth c Z H locs ls cells slots C hR hS hL kw => ?_) kk
  exact lv_iand C.1 C.2.1 hd kw
theorem st_ior {G : q_G} {d : Nat} {μ : q_M} {pc : Nat} {L : List (Option Value)} {st : List Value} {S : q_Sh} {M : q_Mem} {N : q_MemL} {k n : Nat} {Q : q_Q} {x y : Int32} (hd : decode μ.2.1 pc = .ok (.ior, 1)) (kk : AW G d μ (pc + 1) L (.int (x ||| y) :: st) S M N k n Q) : AW G d μ pc L (.int y :: .int x :: st) S M N k n Q := by
  refine AW.op (fun p e R s m args below meth c Z H locs ls cells slots C hR hS hL kw => ?_) kk
  exact lv_ior C.1 C.2.1 hd kw
theorem st_ixor {G : q_G} {d : Nat} {μ : q_M} {pc : Nat} {L : List (Option Value)} {st : List Value} {S : q_Sh} {M : q_Mem} {N : q_MemL} {k n : Nat} {Q : q_Q} {x y : Int32} (hd : decode μ.2.1 pc = .ok (.ixor, 1)) (kk : AW G d μ (pc + 1) L (.int (x ^^^ y) :: st) S M N k n Q) : AW G d μ pc L (.int y :: .int x :: st) S M N k n Q := by
  refine AW.op (fun p e R s m args below meth c Z H locs ls cells slots C hR hS hL kw => ?_) kk
  exact lv_ixor C.1 C.2.1 hd kw
theorem st_ishl {G : q_G} {d : Nat} {μ : q_M} {pc : Nat} {L : List (Option Value)} {st : List Value} {S : q_Sh} {M : q_Mem} {N : q_MemL} {k n : Nat} {Q : q_Q} {x y : Int32} (hd : decode μ.2.1 pc = .ok (.ishl, 1)) (kk : AW G d μ (pc + 1) L (.int (x <<< (y &&& 31)) :: st) S M N k n Q) : AW G d μ pc L (.int y :: .int x :: st) S M N k n Q := by
  refine AW.op (fun p e R s m args below meth c Z H locs ls cells slots C hR hS hL kw => ?_) kk
  exact lv_ishl C.1 C.2.1 hd kw
theorem st_ishr {G : q_G} {d : Nat} {μ : q_M} {pc : Nat} {L : List (Option Value)} {st : List Value} {S : q_Sh} {M : q_Mem} {N : q_MemL} {k n : Nat} {Q : q_Q} {x y : Int32} (hd : decode μ.2.1 pc = .ok (.ishr, 1)) (kk : AW G d μ (pc + 1) L (.int (x >>> (y &&& 31)) :: st) S M N k n Q) : AW G d μ pc L (.int y :: .int x :: st) S M N k n Q := by
  refine AW.op (fun p e R s m args below meth c Z H locs ls cells slots C hR hS hL kw => ?_) kk
  exact lv_ishr C.1 C.2.1 hd kw
theorem st_iushr {G : q_G} {d : Nat} {μ : q_M} {pc : Nat} {L : List (Option Value)} {st : List Value} {S : q_Sh} {M : q_Mem} {N : q_MemL} {k n : Nat} {Q : q_Q} {x y : Int32} (hd : decode μ.2.1 pc = .ok (.iushr, 1)) (kk : AW G d μ (pc + 1) L (.int (x.toUInt32 >>> (y.toUInt32 &&& Int32.toUInt32 31)).toInt32 :: st) S M N k n Q) : AW G d μ pc L (.int y :: .int x :: st) S M N k n Q := by
  refine AW.op (fun p e R s m args below meth c Z H locs ls cells slots C hR hS hL kw => ?_) kk
  exact lv_iushr C.1 C.2.1 hd rfl kw
theorem st_iaddR {G : q_G} {d : Nat} {μ : q_M} {pc : Nat} {L : List (Option Value)} {st : List Value} {S : q_Sh} {M : q_Mem} {N : q_MemL} {k n : Nat} {Q : q_Q} {x y : Int32} (hd : decode μ.2.1 pc = .ok (.iadd, 1)) (kk : AW G d μ (pc + 1) L (.int (x + y) :: st) S M N k n Q) : AW G d μ pc L (.int y :: .int x :: st) S M N k n Q := by
  refine AW.op (fun p e R s m args below meth c Z H locs ls cells slots C hR hS hL kw => ?_) kk
  exact lv_iadd C.1 C.2.1 hd kw
theorem st_imulR {G : q_G} {d : Nat} {μ : q_M} {pc : Nat} {L : List (Option Value)} {st : List Value} {S : q_Sh} {M : q_Mem} {N : q_MemL} {k n : Nat} {Q : q_Q} {x y : Int32} (hd : decode μ.2.1 pc = .ok (.imul, 1)) (kk : AW G d μ (pc + 1) L (.int (x * y) :: st) S M N k n Q) : AW G d μ pc L (.int y :: .int x :: st) S M N k n Q := by
  refine AW.op (fun p e R s m args below meth c Z H locs ls cells slots C hR hS hL kw => ?_) kk
  exact lv_imul C.1 C.2.1 hd kw
theorem st_isubR {G : q_G} {d : Nat} {μ : q_M} {pc : Nat} {L : List (Option Value)} {st : List Value} {S : q_Sh} {M : q_Mem} {N : q_MemL} {k n : Nat} {Q : q_Q} {x y : Int32} (hd : decode μ.2.1 pc = .ok (.isub, 1)) (kk : AW G d μ (pc + 1) L (.int (x - y) :: st) S M N k n Q) : AW G d μ pc L (.int y :: .int x :: st) S M N k n Q := by
  refine AW.op (fun p e R s m args below meth c Z H locs ls cells slots C hR hS hL kw => ?_) kk
  exact lv_isub C.1 C.2.1 hd kw
theorem st_i2l {G : q_G} {d : Nat} {μ : q_M} {pc : Nat} {L : List (Option Value)} {st : List Value} {S : q_Sh} {M : q_Mem} {N : q_MemL} {k n : Nat} {Q : q_Q} {x : Int32} (hd : decode μ.2.1 pc = .ok (.i2l, 1)) (kk : AW G d μ (pc + 1) L (.long x.toInt64 :: st) S M N k n Q) : AW G d μ pc L (.int x :: st) S M N k n Q := by
  refine AW.op (fun p e R s m args below meth c Z H locs ls cells slots C hR hS hL kw => ?_) kk
  exact lv_i2l C.1 C.2.1 hd rfl kw
theorem st_l2i {G : q_G} {d : Nat} {μ : q_M} {pc : Nat} {L : List (Option Value)} {st : List Value} {S : q_Sh} {M : q_Mem} {N : q_MemL} {k n : Nat} {Q : q_Q} {x : Int64} (hd : decode μ.2.1 pc = .ok (.l2i, 1)) (kk : AW G d μ (pc + 1) L (.int x.toInt32 :: st) S M N k n Q) : AW G d μ pc L (.long x :: st) S M N k n Q := by
  refine AW.op (fun p e R s m args below meth c Z H locs ls cells slots C hR hS hL kw => ?_) kk
  exact lv_l2i C.1 C.2.1 hd rfl kw
theorem st_i2b {G : q_G} {d : Nat} {μ : q_M} {pc : Nat} {L : List (Option Value)} {st : List Value} {S : q_Sh} {M : q_Mem} {N : q_MemL} {k n : Nat} {Q : q_Q} {x : Int32} (hd : decode μ.2.1 pc = .ok (.i2b, 1)) (kk : AW G d μ (pc + 1) L (.int x.toInt8.toInt32 :: st) S M N k n Q) : AW G d μ pc L (.int x :: st) S M N k n Q := by
  refine AW.op (fun p e R s m args below meth c Z H locs ls cells slots C hR hS hL kw => ?_) kk
  exact lv_i2b C.1 C.2.1 hd rfl kw
theorem st_i2c {G : q_G} {d : Nat} {μ : q_M} {pc : Nat} {L : List (Option Value)} {st : List Value} {S : q_Sh} {M : q_Mem} {N : q_MemL} {k n : Nat} {Q : q_Q} {x : Int32} (hd : decode μ.2.1 pc = .ok (.i2c, 1)) (kk : AW G d μ (pc + 1) L (.int (x.toUInt32 % 65536).toInt32 :: st) S M N k n Q) : AW G d μ pc L (.int x :: st) S M N k n Q := by
  refine AW.op (fun p e R s m args below meth c Z H locs ls cells slots C hR hS hL kw => ?_) kk
  exact lv_i2c C.1 C.2.1 hd rfl kw
theorem st_ladd {G : q_G} {d : Nat} {μ : q_M} {pc : Nat} {L : List (Option Value)} {st : List Value} {S : q_Sh} {M : q_Mem} {N : q_MemL} {k n : Nat} {Q : q_Q} {x y : Int64} (hd : decode μ.2.1 pc = .ok (.ladd, 1)) (kk : AW G d μ (pc + 1) L (.long (x + y) :: st) S M N k n Q) : AW G d μ pc L (.long y :: .long x :: st) S M N k n Q := by
  refine AW.op (fun p e R s m args below meth c Z H locs ls cells slots C hR hS hL kw => ?_) kk
  exact lv_ladd C.1 C.2.1 hd kw
theorem st_lsub {G : q_G} {d : Nat} {μ : q_M} {pc : Nat} {L : List (Option Value)} {st : List Value} {S : q_Sh} {M : q_Mem} {N : q_MemL} {k n : Nat} {Q : q_Q} {x y : Int64} (hd : decode μ.2.1 pc = .ok (.lsub, 1)) (kk : AW G d μ (pc + 1) L (.long (x - y) :: st) S M N k n Q) : AW G d μ pc L (.long y :: .long x :: st) S M N k n Q := by
  refine AW.op (fun p e R s m args below meth c Z H locs ls cells slots C hR hS hL kw => ?_) kk
  exact lv_lsub C.1 C.2.1 hd kw
theorem st_lmul {G : q_G} {d : Nat} {μ : q_M} {pc : Nat} {L : List (Option Value)} {st : List Value} {S : q_Sh} {M : q_Mem} {N : q_MemL} {k n : Nat} {Q : q_Q} {x y : Int64} (hd : decode μ.2.1 pc = .ok (.lmul, 1)) (kk : AW G d μ (pc + 1) L (.long (x * y) :: st) S M N k n Q) : AW G d μ pc L (.long y :: .long x :: st) S M N k n Q := by
  refine AW.op (fun p e R s m args below meth c Z H locs ls cells slots C hR hS hL kw => ?_) kk
  exact lv_lmul C.1 C.2.1 hd kw
theorem st_land {G : q_G} {d : Nat} {μ : q_M} {pc : Nat} {L : List (Option Value)} {st : List Value} {S : q_Sh} {M : q_Mem} {N : q_MemL} {k n : Nat} {Q : q_Q} {x y : Int64} (hd : decode μ.2.1 pc = .ok (.land, 1)) (kk : AW G d μ (pc + 1) L (.long (x &&& y) :: st) S M N k n Q) : AW G d μ pc L (.long y :: .long x :: st) S M N k n Q := by
  refine AW.op (fun p e R s m args below meth c Z H locs ls cells slots C hR hS hL kw => ?_) kk
  exact lv_land C.1 C.2.1 hd kw
theorem st_lor {G : q_G} {d : Nat} {μ : q_M} {pc : Nat} {L : List (Option Value)} {st : List Value} {S : q_Sh} {M : q_Mem} {N : q_MemL} {k n : Nat} {Q : q_Q} {x y : Int64} (hd : decode μ.2.1 pc = .ok (.lor, 1)) (kk : AW G d μ (pc + 1) L (.long (x ||| y) :: st) S M N k n Q) : AW G d μ pc L (.long y :: .long x :: st) S M N k n Q := by
  refine AW.op (fun p e R s m args below meth c Z H locs ls cells slots C hR hS hL kw => ?_) kk
  exact lv_lor C.1 C.2.1 hd kw
theorem st_ldiv {G : q_G} {d : Nat} {μ : q_M} {pc : Nat} {L : List (Option Value)} {st : List Value} {S : q_Sh} {M : q_Mem} {N : q_MemL} {k n : Nat} {Q : q_Q} {x y : Int64} (hd : decode μ.2.1 pc = .ok (.ldiv, 1)) (hne : ¬ y = 0) (kk : AW G d μ (pc + 1) L (.long (x / y) :: st) S M N k n Q) : AW G d μ pc L (.long y :: .long x :: st) S M N k n Q := by
  refine AW.op (fun p e R s m args below meth c Z H locs ls cells slots C hR hS hL kw => ?_) kk
  exact lv_ldiv C.1 C.2.1 hd hne kw
theorem st_lrem {G : q_G} {d : Nat} {μ : q_M} {pc : Nat} {L : List (Option Value)} {st : List Value} {S : q_Sh} {M : q_Mem} {N : q_MemL} {k n : Nat} {Q : q_Q} {x y : Int64} (hd : decode μ.2.1 pc = .ok (.lrem, 1)) (hne : ¬ y = 0) (kk : AW G d μ (pc + 1) L (.long (x - x / y * y) :: st) S M N k n Q) : AW G d μ pc L (.long y :: .long x :: st) S M N k n Q := by
  refine AW.op (fun p e R s m args below meth c Z H locs ls cells slots C hR hS hL kw => ?_) kk
  exact lv_lrem C.1 C.2.1 hd hne kw
theorem st_idiv {G : q_G} {d : Nat} {μ : q_M} {pc : Nat} {L : List (Option Value)} {st : List Value} {S : q_Sh} {M : q_Mem} {N : q_MemL} {k n : Nat} {Q : q_Q} {x y : Int32} (hd : decode μ.2.1 pc = .ok (.idiv, 1)) (hne : ¬ y = 0) (kk : AW G d μ (pc + 1) L (.int (x / y) :: st) S M N k n Q) : AW G d μ pc L (.int y :: .int x :: st) S M N k n Q := by
  refine AW.op (fun p e R s m args below meth c Z H locs ls cells slots C hR hS hL kw => ?_) kk
  exact lv_idiv C.1 C.2.1 hd hne kw
theorem st_irem {G : q_G} {d : Nat} {μ : q_M} {pc : Nat} {L : List (Option Value)} {st : List Value} {S : q_Sh} {M : q_Mem} {N : q_MemL} {k n : Nat} {Q : q_Q} {x y : Int32} (hd : decode μ.2.1 pc = .ok (.irem, 1)) (hne : ¬ y = 0) (kk : AW G d μ (pc + 1) L (.int (x - x / y * y) :: st) S M N k n Q) : AW G d μ pc L (.int y :: .int x :: st) S M N k n Q := by
  refine AW.op (fun p e R s m args below meth c Z H locs ls cells slots C hR hS hL kw => ?_) kk
  exact lv_irem C.1 C.2.1 hd hne kw
theorem st_lcmp {G : q_G} {d : Nat} {μ : q_M} {pc : Nat} {L : List (Option Value)} {st : List Value} {S : q_Sh} {M : q_Mem} {N : q_MemL} {k n : Nat} {Q : q_Q} {x y : Int64} (hd : decode μ.2.1 pc = .ok (.lcmp, 1)) (kk : AW G d μ (pc + 1) L (.int (lg_cmp x y) :: st) S M N k n Q) : AW G d μ pc L (.long y :: .long x :: st) S M N k n Q := by
  refine AW.op (fun p e R s m args below meth c Z H locs ls cells slots C hR hS hL kw => ?_) kk
  exact W.lcmp C.1 C.2.1 hd kw
theorem st_dup {G : q_G} {d : Nat} {μ : q_M} {pc : Nat} {L : List (Option Value)} {st : List Value} {S : q_Sh} {M : q_Mem} {N : q_MemL} {k n : Nat} {Q : q_Q} {v : Value} (hd : decode μ.2.1 pc = .ok (.dup, 1)) (hv : v.category = 1 := by rfl) (kk : AW G d μ (pc + 1) L (v :: v :: st) S M N k n Q) : AW G d μ pc L (v :: st) S M N k n Q := by
  refine AW.op (fun p e R s m args below meth c Z H locs ls cells slots C hR hS hL kw => ?_) kk
  exact lv_dup C.1 C.2.1 hd (by rw [q_cv_cat]; exact hv) kw
theorem st_dup2 {G : q_G} {d : Nat} {μ : q_M} {pc : Nat} {L : List (Option Value)} {st : List Value} {S : q_Sh} {M : q_Mem} {N : q_MemL} {k n : Nat} {Q : q_Q} {v w : Value} (hd : decode μ.2.1 pc = .ok (.dup2, 1)) (hv : v.category = 1 := by rfl) (hw : w.category = 1 := by rfl) (kk : AW G d μ (pc + 1) L (v :: w :: v :: w :: st) S M N k n Q) : AW G d μ pc L (v :: w :: st) S M N k n Q := by
  refine AW.op (fun p e R s m args below meth c Z H locs ls cells slots C hR hS hL kw => ?_) kk
  exact lv_dup2_11 C.1 C.2.1 hd (by rw [q_cv_cat]; exact hv) (by rw [q_cv_cat]; exact hw) kw
theorem st_pop {G : q_G} {d : Nat} {μ : q_M} {pc : Nat} {L : List (Option Value)} {st : List Value} {S : q_Sh} {M : q_Mem} {N : q_MemL} {k n : Nat} {Q : q_Q} {v : Value} (hd : decode μ.2.1 pc = .ok (.pop, 1)) (hv : v.category = 1 := by rfl) (kk : AW G d μ (pc + 1) L st S M N k n Q) : AW G d μ pc L (v :: st) S M N k n Q := by
  refine AW.op (fun p e R s m args below meth c Z H locs ls cells slots C hR hS hL kw => ?_) kk
  exact lv_pop C.1 C.2.1 hd (by rw [q_cv_cat]; exact hv) kw
theorem AW.top {G : q_G} {d : Nat} {μ : q_M} {pc : Nat} {L : List (Option Value)} {st : List Value} {S : q_Sh} {M : q_Mem} {N : q_MemL} {k n : Nat} {Q : q_Q} {x : Int32} {z : Int} (hx : x = zi z) (kk : AW G d μ pc L (I z :: st) S M N k n Q) : AW G d μ pc L (.int x :: st) S M N k n Q := by
  subst hx
  exact kk
theorem AW.topv {G : q_G} {d : Nat} {μ : q_M} {pc : Nat} {L : List (Option Value)} {st : List Value} {S : q_Sh} {M : q_Mem} {N : q_MemL} {k n : Nat} {Q : q_Q} {x y : Value} (hx : x = y) (kk : AW G d μ pc L (y :: st) S M N k n Q) : AW G d μ pc L (x :: st) S M N k n Q := by
  subst hx
  exact kk
theorem st_istore_n {G : q_G} {d : Nat} {μ : q_M} {pc : Nat} {L : List (Option Value)} {st : List Value} {S : q_Sh} {M : q_Mem} {N : q_MemL} {k n : Nat} {Q : q_Q} {L' : List (Option Value)} {x : Int32} {j : Fin 4} (hd : decode μ.2.1 pc = .ok (.istore_n j, 1)) (hi : (j : Nat) < μ.2.2.1 := by decide) (hc : q_c1 L (j : Nat) = true := by rfl) (hl : L.set (j : Nat) (some (.int x)) = L' := by rfl) (kk : AW G d μ (pc + 1) L' st S M N k n Q) : AW G d μ pc L (.int x :: st) S M N k n Q := by
  intro p e R s m args below meth c Z H locs ls cells slots C hR hS hL hcl hsl hr
  obtain ⟨ls', e1, e2⟩ := hL.set1 (v := .int x) rfl hi hc hl
  intro T hT X
  obtain ⟨t, a1, b1⟩ := kk p e R s m args below meth c Z H locs ls' cells slots C hR hS e2 hcl hsl hr T hT X
  refine ⟨t, ?_, b1⟩
  have hx := C.1
  have hb := C.2.1
  try simp only [q_cv] at e1
  show Steps p.tables e below (T.setTop (F0 m pc ls (q_cv G (.int x) :: st.map (q_cv G)))) t
  simp only [q_cv]
  jvm_step X.here [X.here.top, hx, hb, hd, e1, Value.category, Value.isRef]
  exact a1
theorem st_istore {G : q_G} {d : Nat} {μ : q_M} {pc : Nat} {L : List (Option Value)} {st : List Value} {S : q_Sh} {M : q_Mem} {N : q_MemL} {k n : Nat} {Q : q_Q} {L' : List (Option Value)} {x : Int32} {j : Nat} (hd : decode μ.2.1 pc = .ok (.istore j, 2)) (hi : j < μ.2.2.1 := by decide) (hc : q_c1 L j = true := by rfl) (hl : L.set j (some (.int x)) = L' := by rfl) (kk : AW G d μ (pc + 2) L' st S M N k n Q) : AW G d μ pc L (.int x :: st) S M N k n Q := by
  intro p e R s m args below meth c Z H locs ls cells slots C hR hS hL hcl hsl hr
  obtain ⟨ls', e1, e2⟩ := hL.set1 (v := .int x) rfl hi hc hl
  intro T hT X
  obtain ⟨t, a1, b1⟩ := kk p e R s m args below meth c Z H locs ls' cells slots C hR hS e2 hcl hsl hr T hT X
  refine ⟨t, ?_, b1⟩
  have hx := C.1
  have hb := C.2.1
  try simp only [q_cv] at e1
  show Steps p.tables e below (T.setTop (F0 m pc ls (q_cv G (.int x) :: st.map (q_cv G)))) t
  simp only [q_cv]
  jvm_step X.here [X.here.top, hx, hb, hd, e1, Value.category, Value.isRef]
  exact a1
theorem st_astore_n {G : q_G} {d : Nat} {μ : q_M} {pc : Nat} {L : List (Option Value)} {st : List Value} {S : q_Sh} {M : q_Mem} {N : q_MemL} {k n : Nat} {Q : q_Q} {L' : List (Option Value)} {a : Nat} {j : Fin 4} (hd : decode μ.2.1 pc = .ok (.astore_n j, 1)) (hi : (j : Nat) < μ.2.2.1 := by decide) (hc : q_c1 L (j : Nat) = true := by rfl) (hl : L.set (j : Nat) (some (.ref a)) = L' := by rfl) (kk : AW G d μ (pc + 1) L' st S M N k n Q) : AW G d μ pc L (.ref a :: st) S M N k n Q := by
  intro p e R s m args below meth c Z H locs ls cells slots C hR hS hL hcl hsl hr
  obtain ⟨ls', e1, e2⟩ := hL.set1 (v := .ref a) rfl hi hc hl
  intro T hT X
  obtain ⟨t, a1, b1⟩ := kk p e R s m args below meth c Z H locs ls' cells slots C hR hS e2 hcl hsl hr T hT X
  refine ⟨t, ?_, b1⟩
  have hx := C.1
  have hb := C.2.1
  try simp only [q_cv] at e1
  show Steps p.tables e below (T.setTop (F0 m pc ls (q_cv G (.ref a) :: st.map (q_cv G)))) t
  simp only [q_cv]
  jvm_step X.here [X.here.top, hx, hb, hd, e1, Value.category, Value.isRef]
  exact a1
theorem st_astore {G : q_G} {d : Nat} {μ : q_M} {pc : Nat} {L : List (Option Value)} {st : List Value} {S : q_Sh} {M : q_Mem} {N : q_MemL} {k n : Nat} {Q : q_Q} {L' : List (Option Value)} {a : Nat} {j : Nat} (hd : decode μ.2.1 pc = .ok (.astore j, 2)) (hi : j < μ.2.2.1 := by decide) (hc : q_c1 L j = true := by rfl) (hl : L.set j (some (.ref a)) = L' := by rfl) (kk : AW G d μ (pc + 2) L' st S M N k n Q) : AW G d μ pc L (.ref a :: st) S M N k n Q := by
  intro p e R s m args below meth c Z H locs ls cells slots C hR hS hL hcl hsl hr
  obtain ⟨ls', e1, e2⟩ := hL.set1 (v := .ref a) rfl hi hc hl
  intro T hT X
  obtain ⟨t, a1, b1⟩ := kk p e R s m args below meth c Z H locs ls' cells slots C hR hS e2 hcl hsl hr T hT X
  refine ⟨t, ?_, b1⟩
  have hx := C.1
  have hb := C.2.1
  try simp only [q_cv] at e1
  show Steps p.tables e below (T.setTop (F0 m pc ls (q_cv G (.ref a) :: st.map (q_cv G)))) t
  simp only [q_cv]
  jvm_step X.here [X.here.top, hx, hb, hd, e1, Value.category, Value.isRef]
  exact a1
theorem st_lstore_n {G : q_G} {d : Nat} {μ : q_M} {pc : Nat} {L : List (Option Value)} {st : List Value} {S : q_Sh} {M : q_Mem} {N : q_MemL} {k n : Nat} {Q : q_Q} {L' : List (Option Value)} {x : Int64} {j : Fin 4} (hd : decode μ.2.1 pc = .ok (.lstore_n j, 1)) (hi : (j : Nat) + 1 < μ.2.2.1 := by decide) (hc : q_c1 L (j : Nat) = true := by rfl) (hl : (L.set (j : Nat) (some (.long x))).set ((j : Nat) + 1) none = L' := by rfl) (kk : AW G d μ (pc + 1) L' st S M N k n Q) : AW G d μ pc L (.long x :: st) S M N k n Q := by
  intro p e R s m args below meth c Z H locs ls cells slots C hR hS hL hcl hsl hr
  obtain ⟨ls', e1, e2⟩ := hL.set2 (v := .long x) rfl hi hc hl
  intro T hT X
  obtain ⟨t, a1, b1⟩ := kk p e R s m args below meth c Z H locs ls' cells slots C hR hS e2 hcl hsl hr T hT X
  refine ⟨t, ?_, b1⟩
  have hx := C.1
  have hb := C.2.1
  try simp only [q_cv] at e1
  show Steps p.tables e below (T.setTop (F0 m pc ls (q_cv G (.long x) :: st.map (q_cv G)))) t
  simp only [q_cv]
  jvm_step X.here [X.here.top, hx, hb, hd, e1, Value.category, Value.isRef]
  exact a1
theorem st_lstore {G : q_G} {d : Nat} {μ : q_M} {pc : Nat} {L : List (Option Value)} {st : List Value} {S : q_Sh} {M : q_Mem} {N : q_MemL} {k n : Nat} {Q : q_Q} {L' : List (Option Value)} {x : Int64} {j : Nat} (hd : decode μ.2.1 pc = .ok (.lstore j, 2)) (hi : j + 1 < μ.2.2.1 := by decide) (hc : q_c1 L j = true := by rfl) (hl : (L.set j (some (.long x))).set (j + 1) none = L' := by rfl) (kk : AW G d μ (pc + 2) L' st S M N k n Q) : AW G d μ pc L (.long x :: st) S M N k n Q := by
  intro p e R s m args below meth c Z H locs ls cells slots C hR hS hL hcl hsl hr
  obtain ⟨ls', e1, e2⟩ := hL.set2 (v := .long x) rfl hi hc hl
  intro T hT X
  obtain ⟨t, a1, b1⟩ := kk p e R s m args below meth c Z H locs ls' cells slots C hR hS e2 hcl hsl hr T hT X
  refine ⟨t, ?_, b1⟩
  have hx := C.1
  have hb := C.2.1
  try simp only [q_cv] at e1
  show Steps p.tables e below (T.setTop (F0 m pc ls (q_cv G (.long x) :: st.map (q_cv G)))) t
  simp only [q_cv]
  jvm_step X.here [X.here.top, hx, hb, hd, e1, Value.category, Value.isRef]
  exact a1
theorem st_iinc {G : q_G} {d : Nat} {μ : q_M} {pc : Nat} {L : List (Option Value)} {st : List Value} {S : q_Sh} {M : q_Mem} {N : q_MemL} {k n : Nat} {Q : q_Q} {L' : List (Option Value)} {j : Nat} {x c0 : Int} (hd : decode μ.2.1 pc = .ok (.iinc j c0, 3)) (hv : L[j]? = some (some (I x))) (hi : j < μ.2.2.1 := by decide) (hc : q_c1 L j = true := by rfl) (hl : L.set j (some (I (x + c0))) = L' := by rfl) (kk : AW G d μ (pc + 3) L' st S M N k n Q) : AW G d μ pc L st S M N k n Q := by
  intro p e R s m args below meth c Z H locs ls cells slots C hR hS hL hcl hsl hr
  have hg := hL.get hv
  obtain ⟨ls', e1, e2⟩ := hL.set1 (v := I (x + c0)) rfl hi hc hl
  intro T hT X
  obtain ⟨t, a1, b1⟩ := kk p e R s m args below meth c Z H locs ls' cells slots C hR hS e2 hcl hsl hr T hT X
  refine ⟨t, ?_, b1⟩
  have hx := C.1
  have hb := C.2.1
  have e1 : storeLocals ls j (.int (zi x + Int32.ofInt c0)) = some ls' := by
    rw [show zi x + Int32.ofInt c0 = zi (x + c0) from (Int32.ofInt_add x c0).symm]; exact e1
  have hg : ls[j]? = some (.val (.int (zi x))) := hg
  jvm_step X.here [X.here.top, hx, hb, hd, hg, e1, Value.category, Value.isRef]
  exact a1
theorem st_icmp_eq {G : q_G} {d : Nat} {μ : q_M} {pc : Nat} {L : List (Option Value)} {st : List Value} {S : q_Sh} {M : q_Mem} {N : q_MemL} {k n : Nat} {Q : q_Q} {x y : Int} {off : Int} {tgt : Nat} (hd : decode μ.2.1 pc = .ok (.if_icmp .eq off, 3)) (hx : -2147483648 ≤ x ∧ x < 2147483648) (hy : -2147483648 ≤ y ∧ y < 2147483648) (ht : (pc : Int) + off = (tgt : Int)) (kt : (x = y) → AW G d μ tgt L st S M N k n Q) (kf : ¬ (x = y) → AW G d μ (pc + 3) L st S M N k n Q) : AW G d μ pc L (I y :: I x :: st) S M N k n Q := by
  intro p e R s m args below meth c Z H locs ls cells slots C hR hS hL hcl hsl hr
  refine lv_icmp_eq C.1 C.2.1 hd ht (fun h => ?_) (fun h => ?_)
  · exact kt ((zi_eq hx hy).mp h) p e R s m args below meth c Z H locs ls cells slots C hR hS hL hcl hsl hr
  · exact kf (fun q => h ((zi_eq hx hy).mpr q)) p e R s m args below meth c Z H locs ls cells slots C hR hS hL hcl hsl hr
theorem st_icmp_lt {G : q_G} {d : Nat} {μ : q_M} {pc : Nat} {L : List (Option Value)} {st : List Value} {S : q_Sh} {M : q_Mem} {N : q_MemL} {k n : Nat} {Q : q_Q} {x y : Int} {off : Int} {tgt : Nat} (hd : decode μ.2.1 pc = .ok (.if_icmp .lt off, 3)) (hx : -2147483648 ≤ x ∧ x < 2147483648) (hy : -2147483648 ≤ y ∧ y < 2147483648) (ht : (pc : Int) + off = (tgt : Int)) (kt : (x < y) → AW G d μ tgt L st S M N k n Q) (kf : ¬ (x < y) → AW G d μ (pc + 3) L st S M N k n Q) : AW G d μ pc L (I y :: I x :: st) S M N k n Q := by
  intro p e R s m args below meth c Z H locs ls cells slots C hR hS hL hcl hsl hr
  refine lv_icmp_lt C.1 C.2.1 hd ht (fun h => ?_) (fun h => ?_)
  · exact kt ((zi_lt hx hy).mp h) p e R s m args below meth c Z H locs ls cells slots C hR hS hL hcl hsl hr
  · exact kf (fun q => h ((zi_lt hx hy).mpr q)) p e R s m args below meth c Z H locs ls cells slots C hR hS hL hcl hsl hr
theorem st_icmp_le {G : q_G} {d : Nat} {μ : q_M} {pc : Nat} {L : List (Option Value)} {st : List Value} {S : q_Sh} {M : q_Mem} {N : q_MemL} {k n : Nat} {Q : q_Q} {x y : Int} {off : Int} {tgt : Nat} (hd : decode μ.2.1 pc = .ok (.if_icmp .le off, 3)) (hx : -2147483648 ≤ x ∧ x < 2147483648) (hy : -2147483648 ≤ y ∧ y < 2147483648) (ht : (pc : Int) + off = (tgt : Int)) (kt : (x ≤ y) → AW G d μ tgt L st S M N k n Q) (kf : ¬ (x ≤ y) → AW G d μ (pc + 3) L st S M N k n Q) : AW G d μ pc L (I y :: I x :: st) S M N k n Q := by
  intro p e R s m args below meth c Z H locs ls cells slots C hR hS hL hcl hsl hr
  refine lv_icmp_le C.1 C.2.1 hd ht (fun h => ?_) (fun h => ?_)
  · exact kt ((zi_le hx hy).mp h) p e R s m args below meth c Z H locs ls cells slots C hR hS hL hcl hsl hr
  · exact kf (fun q => h ((zi_le hx hy).mpr q)) p e R s m args below meth c Z H locs ls cells slots C hR hS hL hcl hsl hr
theorem st_icmp_ge {G : q_G} {d : Nat} {μ : q_M} {pc : Nat} {L : List (Option Value)} {st : List Value} {S : q_Sh} {M : q_Mem} {N : q_MemL} {k n : Nat} {Q : q_Q} {x y : Int} {off : Int} {tgt : Nat} (hd : decode μ.2.1 pc = .ok (.if_icmp .ge off, 3)) (hx : -2147483648 ≤ x ∧ x < 2147483648) (hy : -2147483648 ≤ y ∧ y < 2147483648) (ht : (pc : Int) + off = (tgt : Int)) (kt : (y ≤ x) → AW G d μ tgt L st S M N k n Q) (kf : ¬ (y ≤ x) → AW G d μ (pc + 3) L st S M N k n Q) : AW G d μ pc L (I y :: I x :: st) S M N k n Q := by
  intro p e R s m args below meth c Z H locs ls cells slots C hR hS hL hcl hsl hr
  refine lv_icmp_ge C.1 C.2.1 hd ht (fun h => ?_) (fun h => ?_)
  · exact kt ((zi_le hy hx).mp h) p e R s m args below meth c Z H locs ls cells slots C hR hS hL hcl hsl hr
  · exact kf (fun q => h ((zi_le hy hx).mpr q)) p e R s m args below meth c Z H locs ls cells slots C hR hS hL hcl hsl hr
theorem st_icmp_gt {G : q_G} {d : Nat} {μ : q_M} {pc : Nat} {L : List (Option Value)} {st : List Value} {S : q_Sh} {M : q_Mem} {N : q_MemL} {k n : Nat} {Q : q_Q} {x y : Int} {off : Int} {tgt : Nat} (hd : decode μ.2.1 pc = .ok (.if_icmp .gt off, 3)) (hx : -2147483648 ≤ x ∧ x < 2147483648) (hy : -2147483648 ≤ y ∧ y < 2147483648) (ht : (pc : Int) + off = (tgt : Int)) (kt : (y < x) → AW G d μ tgt L st S M N k n Q) (kf : ¬ (y < x) → AW G d μ (pc + 3) L st S M N k n Q) : AW G d μ pc L (I y :: I x :: st) S M N k n Q := by
  intro p e R s m args below meth c Z H locs ls cells slots C hR hS hL hcl hsl hr
  refine lv_icmp_gt C.1 C.2.1 hd ht (fun h => ?_) (fun h => ?_)
  · exact kt ((zi_lt hy hx).mp h) p e R s m args below meth c Z H locs ls cells slots C hR hS hL hcl hsl hr
  · exact kf (fun q => h ((zi_lt hy hx).mpr q)) p e R s m args below meth c Z H locs ls cells slots C hR hS hL hcl hsl hr
theorem st_icmp_ne {G : q_G} {d : Nat} {μ : q_M} {pc : Nat} {L : List (Option Value)} {st : List Value} {S : q_Sh} {M : q_Mem} {N : q_MemL} {k n : Nat} {Q : q_Q} {x y : Int} {off : Int} {tgt : Nat} (hd : decode μ.2.1 pc = .ok (.if_icmp .ne off, 3)) (hx : -2147483648 ≤ x ∧ x < 2147483648) (hy : -2147483648 ≤ y ∧ y < 2147483648) (ht : (pc : Int) + off = (tgt : Int)) (kt : ¬ x = y → AW G d μ tgt L st S M N k n Q) (kf : x = y → AW G d μ (pc + 3) L st S M N k n Q) : AW G d μ pc L (I y :: I x :: st) S M N k n Q := by
  intro p e R s m args below meth c Z H locs ls cells slots C hR hS hL hcl hsl hr
  refine lv_icmp_ne C.1 C.2.1 hd ht (fun h => ?_) (fun h => ?_)
  · exact kt (fun q => h ((zi_eq hx hy).mpr q)) p e R s m args below meth c Z H locs ls cells slots C hR hS hL hcl hsl hr
  · exact kf ((zi_eq hx hy).mp h) p e R s m args below meth c Z H locs ls cells slots C hR hS hL hcl hsl hr
theorem st_if_eq {G : q_G} {d : Nat} {μ : q_M} {pc : Nat} {L : List (Option Value)} {st : List Value} {S : q_Sh} {M : q_Mem} {N : q_MemL} {k n : Nat} {Q : q_Q} {x : Int} {off : Int} {tgt : Nat} (hd : decode μ.2.1 pc = .ok (.ifCond .eq off, 3)) (hx : -2147483648 ≤ x ∧ x < 2147483648) (ht : (pc : Int) + off = (tgt : Int)) (kt : (x = 0) → AW G d μ tgt L st S M N k n Q) (kf : ¬ (x = 0) → AW G d μ (pc + 3) L st S M N k n Q) : AW G d μ pc L (I x :: st) S M N k n Q := by
  intro p e R s m args below meth c Z H locs ls cells slots C hR hS hL hcl hsl hr
  refine lv_if_eq C.1 C.2.1 hd ht (fun h => ?_) (fun h => ?_)
  · exact kt ((zi_eq0 hx).mp h) p e R s m args below meth c Z H locs ls cells slots C hR hS hL hcl hsl hr
  · exact kf (fun q => h ((zi_eq0 hx).mpr q)) p e R s m args below meth c Z H locs ls cells slots C hR hS hL hcl hsl hr
theorem st_if_lt {G : q_G} {d : Nat} {μ : q_M} {pc : Nat} {L : List (Option Value)} {st : List Value} {S : q_Sh} {M : q_Mem} {N : q_MemL} {k n : Nat} {Q : q_Q} {x : Int} {off : Int} {tgt : Nat} (hd : decode μ.2.1 pc = .ok (.ifCond .lt off, 3)) (hx : -2147483648 ≤ x ∧ x < 2147483648) (ht : (pc : Int) + off = (tgt : Int)) (kt : (x < 0) → AW G d μ tgt L st S M N k n Q) (kf : ¬ (x < 0) → AW G d μ (pc + 3) L st S M N k n Q) : AW G d μ pc L (I x :: st) S M N k n Q := by
  intro p e R s m args below meth c Z H locs ls cells slots C hR hS hL hcl hsl hr
  refine lv_if_lt C.1 C.2.1 hd ht (fun h => ?_) (fun h => ?_)
  · exact kt ((zi_lt0 hx).mp h) p e R s m args below meth c Z H locs ls cells slots C hR hS hL hcl hsl hr
  · exact kf (fun q => h ((zi_lt0 hx).mpr q)) p e R s m args below meth c Z H locs ls cells slots C hR hS hL hcl hsl hr
theorem st_if_le {G : q_G} {d : Nat} {μ : q_M} {pc : Nat} {L : List (Option Value)} {st : List Value} {S : q_Sh} {M : q_Mem} {N : q_MemL} {k n : Nat} {Q : q_Q} {x : Int} {off : Int} {tgt : Nat} (hd : decode μ.2.1 pc = .ok (.ifCond .le off, 3)) (hx : -2147483648 ≤ x ∧ x < 2147483648) (ht : (pc : Int) + off = (tgt : Int)) (kt : (x ≤ 0) → AW G d μ tgt L st S M N k n Q) (kf : ¬ (x ≤ 0) → AW G d μ (pc + 3) L st S M N k n Q) : AW G d μ pc L (I x :: st) S M N k n Q := by
  intro p e R s m args below meth c Z H locs ls cells slots C hR hS hL hcl hsl hr
  refine lv_if_le C.1 C.2.1 hd ht (fun h => ?_) (fun h => ?_)
  · exact kt ((zi_le0 hx).mp h) p e R s m args below meth c Z H locs ls cells slots C hR hS hL hcl hsl hr
  · exact kf (fun q => h ((zi_le0 hx).mpr q)) p e R s m args below meth c Z H locs ls cells slots C hR hS hL hcl hsl hr
theorem st_if_ge {G : q_G} {d : Nat} {μ : q_M} {pc : Nat} {L : List (Option Value)} {st : List Value} {S : q_Sh} {M : q_Mem} {N : q_MemL} {k n : Nat} {Q : q_Q} {x : Int} {off : Int} {tgt : Nat} (hd : decode μ.2.1 pc = .ok (.ifCond .ge off, 3)) (hx : -2147483648 ≤ x ∧ x < 2147483648) (ht : (pc : Int) + off = (tgt : Int)) (kt : (0 ≤ x) → AW G d μ tgt L st S M N k n Q) (kf : ¬ (0 ≤ x) → AW G d μ (pc + 3) L st S M N k n Q) : AW G d μ pc L (I x :: st) S M N k n Q := by
  intro p e R s m args below meth c Z H locs ls cells slots C hR hS hL hcl hsl hr
  refine lv_if_ge C.1 C.2.1 hd ht (fun h => ?_) (fun h => ?_)
  · exact kt ((zi_ge0 hx).mp h) p e R s m args below meth c Z H locs ls cells slots C hR hS hL hcl hsl hr
  · exact kf (fun q => h ((zi_ge0 hx).mpr q)) p e R s m args below meth c Z H locs ls cells slots C hR hS hL hcl hsl hr
theorem st_if_gt {G : q_G} {d : Nat} {μ : q_M} {pc : Nat} {L : List (Option Value)} {st : List Value} {S : q_Sh} {M : q_Mem} {N : q_MemL} {k n : Nat} {Q : q_Q} {x : Int} {off : Int} {tgt : Nat} (hd : decode μ.2.1 pc = .ok (.ifCond .gt off, 3)) (hx : -2147483648 ≤ x ∧ x < 2147483648) (ht : (pc : Int) + off = (tgt : Int)) (kt : (0 < x) → AW G d μ tgt L st S M N k n Q) (kf : ¬ (0 < x) → AW G d μ (pc + 3) L st S M N k n Q) : AW G d μ pc L (I x :: st) S M N k n Q := by
  intro p e R s m args below meth c Z H locs ls cells slots C hR hS hL hcl hsl hr
  refine lv_if_gt C.1 C.2.1 hd ht (fun h => ?_) (fun h => ?_)
  · exact kt ((zi_gt0 hx).mp h) p e R s m args below meth c Z H locs ls cells slots C hR hS hL hcl hsl hr
  · exact kf (fun q => h ((zi_gt0 hx).mpr q)) p e R s m args below meth c Z H locs ls cells slots C hR hS hL hcl hsl hr
theorem st_if_ne {G : q_G} {d : Nat} {μ : q_M} {pc : Nat} {L : List (Option Value)} {st : List Value} {S : q_Sh} {M : q_Mem} {N : q_MemL} {k n : Nat} {Q : q_Q} {x : Int} {off : Int} {tgt : Nat} (hd : decode μ.2.1 pc = .ok (.ifCond .ne off, 3)) (hx : -2147483648 ≤ x ∧ x < 2147483648) (ht : (pc : Int) + off = (tgt : Int)) (kt : ¬ x = 0 → AW G d μ tgt L st S M N k n Q) (kf : x = 0 → AW G d μ (pc + 3) L st S M N k n Q) : AW G d μ pc L (I x :: st) S M N k n Q := by
  intro p e R s m args below meth c Z H locs ls cells slots C hR hS hL hcl hsl hr
  refine lv_if_ne C.1 C.2.1 hd ht (fun h => ?_) (fun h => ?_)
  · exact kt (fun q => h ((zi_eq0 hx).mpr q)) p e R s m args below meth c Z H locs ls cells slots C hR hS hL hcl hsl hr
  · exact kf ((zi_eq0 hx).mp h) p e R s m args below meth c Z H locs ls cells slots C hR hS hL hcl hsl hr
theorem st_goto {G : q_G} {d : Nat} {μ : q_M} {pc : Nat} {L : List (Option Value)} {st : List Value} {S : q_Sh} {M : q_Mem} {N : q_MemL} {k n : Nat} {Q : q_Q} {off : Int} {tgt : Nat} (hd : decode μ.2.1 pc = .ok (.goto off, 3)) (ht : (pc : Int) + off = (tgt : Int)) (kk : AW G d μ tgt L st S M N k n Q) : AW G d μ pc L st S M N k n Q := by
  refine AW.op (fun p e R s m args below meth c Z H locs ls cells slots C hR hS hL kw => ?_) kk
  exact lv_goto C.1 C.2.1 hd ht kw
theorem st_ifnull {G : q_G} {d : Nat} {μ : q_M} {pc : Nat} {L : List (Option Value)} {st : List Value} {S : q_Sh} {M : q_Mem} {N : q_MemL} {k n : Nat} {Q : q_Q} {a : Nat} {off : Int} (hd : decode μ.2.1 pc = .ok (.ifnull off, 3)) (kk : AW G d μ (pc + 3) L st S M N k n Q) : AW G d μ pc L (.ref a :: st) S M N k n Q := by
  refine AW.op (fun p e R s m args below meth c Z H locs ls cells slots C hR hS hL kw => ?_) kk
  exact lv_ifnull C.1 C.2.1 hd kw
theorem st_ifnonnull {G : q_G} {d : Nat} {μ : q_M} {pc : Nat} {L : List (Option Value)} {st : List Value} {S : q_Sh} {M : q_Mem} {N : q_MemL} {k n : Nat} {Q : q_Q} {a : Nat} {off : Int} {tgt : Nat} (hd : decode μ.2.1 pc = .ok (.ifnonnull off, 3)) (ht : (pc : Int) + off = (tgt : Int)) (kk : AW G d μ tgt L st S M N k n Q) : AW G d μ pc L (.ref a :: st) S M N k n Q := by
  refine AW.op (fun p e R s m args below meth c Z H locs ls cells slots C hR hS hL kw => ?_) kk
  exact lv_ifnonnull C.1 C.2.1 hd ht kw
theorem st_ifnullN {G : q_G} {d : Nat} {μ : q_M} {pc : Nat} {L : List (Option Value)} {st : List Value} {S : q_Sh} {M : q_Mem} {N : q_MemL} {k n : Nat} {Q : q_Q} {off : Int} {tgt : Nat} (hd : decode μ.2.1 pc = .ok (.ifnull off, 3)) (ht : (pc : Int) + off = (tgt : Int)) (kk : AW G d μ tgt L st S M N k n Q) : AW G d μ pc L (.null :: st) S M N k n Q := by
  refine AW.op (fun p e R s m args below meth c Z H locs ls cells slots C hR hS hL kw => ?_) kk
  exact lv_ifnullN C.1 C.2.1 hd ht kw
theorem st_ifnonnullN {G : q_G} {d : Nat} {μ : q_M} {pc : Nat} {L : List (Option Value)} {st : List Value} {S : q_Sh} {M : q_Mem} {N : q_MemL} {k n : Nat} {Q : q_Q} {off : Int} (hd : decode μ.2.1 pc = .ok (.ifnonnull off, 3)) (kk : AW G d μ (pc + 3) L st S M N k n Q) : AW G d μ pc L (.null :: st) S M N k n Q := by
  refine AW.op (fun p e R s m args below meth c Z H locs ls cells slots C hR hS hL kw => ?_) kk
  exact lv_ifnonnullN C.1 C.2.1 hd kw
theorem st_aconst_null {G : q_G} {d : Nat} {μ : q_M} {pc : Nat} {L : List (Option Value)} {st : List Value} {S : q_Sh} {M : q_Mem} {N : q_MemL} {k n : Nat} {Q : q_Q} (hd : decode μ.2.1 pc = .ok (.aconst_null, 1)) (kk : AW G d μ (pc + 1) L (.null :: st) S M N k n Q) : AW G d μ pc L st S M N k n Q := by
  refine AW.op (fun p e R s m args below meth c Z H locs ls cells slots C hR hS hL kw => ?_) kk
  intro T hT X
  obtain ⟨t, a1, b1⟩ := kw T hT X
  refine ⟨t, ?_, b1⟩
  have hx := C.1
  have hb := C.2.1
  jvm_step X.here [X.here.top, hx, hb, hd]
  exact a1
theorem st_tsIn {G : q_G} {d : Nat} {μ : q_M} {pc : Nat} {L : List (Option Value)} {st : List Value} {S : q_Sh} {M : q_Mem} {N : q_MemL} {k n : Nat} {Q : q_Q} {x dflt lo hi off : Int} {offs : Array Int} {len tgt : Nat} (hd : decode μ.2.1 pc = .ok (.tableswitch dflt lo hi offs, len)) (hx : -2147483648 ≤ x ∧ x < 2147483648) (h1 : lo ≤ x) (h2 : x ≤ hi) (ho : offs[(x - lo).toNat]? = some off) (ht : (pc : Int) + off = (tgt : Int)) (kk : AW G d μ tgt L st S M N k n Q) : AW G d μ pc L (I x :: st) S M N k n Q := by
  refine AW.op (fun p e R s m args below meth c Z H locs ls cells slots C hR hS hL kw => ?_) kk
  have e := zi_toInt hx
  exact lv_tableIn C.1 C.2.1 hd (by rw [e]; omega) (by rw [e]; omega) (by rw [e]; exact ho) ht kw
theorem st_tsOut {G : q_G} {d : Nat} {μ : q_M} {pc : Nat} {L : List (Option Value)} {st : List Value} {S : q_Sh} {M : q_Mem} {N : q_MemL} {k n : Nat} {Q : q_Q} {x dflt lo hi : Int} {offs : Array Int} {len tgt : Nat} (hd : decode μ.2.1 pc = .ok (.tableswitch dflt lo hi offs, len)) (hx : -2147483648 ≤ x ∧ x < 2147483648) (h1 : x < lo ∨ hi < x) (ht : (pc : Int) + dflt = (tgt : Int)) (kk : AW G d μ tgt L st S M N k n Q) : AW G d μ pc L (I x :: st) S M N k n Q := by
  refine AW.op (fun p e R s m args below meth c Z H locs ls cells slots C hR hS hL kw => ?_) kk
  have e := zi_toInt hx
  exact lv_tableOut C.1 C.2.1 hd (by rw [e]; exact h1) ht kw
theorem st_ireturn {G : q_G} {d : Nat} {μ : q_M} {pc : Nat} {L : List (Option Value)} {S : q_Sh} {M : q_Mem} {N : q_MemL} {k n : Nat} {Q : q_Q} {x : Int} {ty : FieldType} (hd : decode μ.2.1 pc = .ok (.ireturn, 1)) (hr : μ.2.2.2 = some ty := by rfl) (hn : narrow ty (I x) = I x) (hq : Q (some (I x)) S M N) : AW G d μ pc L [I x] S M N k n Q := by
  intro p e R s m args below meth c Z H locs ls cells slots C hR hS hL hcl hsl hret
  refine W.widen (k := cells + k) (n := slots + n) (Nat.le_add_right _ _) (Nat.le_add_right _ _) ?_
  exact hret (some (I x)) S M N H locs pc ls hq hR hS (Or.inr (Or.inl ⟨ty, _, hr, rfl, hn⟩)) hd
theorem st_ireturnR {G : q_G} {d : Nat} {μ : q_M} {pc : Nat} {L : List (Option Value)} {S : q_Sh} {M : q_Mem} {N : q_MemL} {k n : Nat} {Q : q_Q} {x : Int32} {ty : FieldType} (hd : decode μ.2.1 pc = .ok (.ireturn, 1)) (hr : μ.2.2.2 = some ty := by rfl) (hn : narrow ty (.int x) = .int x) (hq : Q (some (.int x)) S M N) : AW G d μ pc L [.int x] S M N k n Q := by
  intro p e R s m args below meth c Z H locs ls cells slots C hR hS hL hcl hsl hret
  refine W.widen (k := cells + k) (n := slots + n) (Nat.le_add_right _ _) (Nat.le_add_right _ _) ?_
  exact hret (some (.int x)) S M N H locs pc ls hq hR hS (Or.inr (Or.inl ⟨ty, _, hr, rfl, hn⟩)) hd
theorem st_return {G : q_G} {d : Nat} {μ : q_M} {pc : Nat} {L : List (Option Value)} {S : q_Sh} {M : q_Mem} {N : q_MemL} {k n : Nat} {Q : q_Q}  (hd : decode μ.2.1 pc = .ok (.return_, 1)) (hr : μ.2.2.2 = none := by rfl) (hq : Q none S M N) : AW G d μ pc L [] S M N k n Q := by
  intro p e R s m args below meth c Z H locs ls cells slots C hR hS hL hcl hsl hret
  refine W.widen (k := cells + k) (n := slots + n) (Nat.le_add_right _ _) (Nat.le_add_right _ _) ?_
  exact hret none S M N H locs pc ls hq hR hS (Or.inl ⟨hr, rfl⟩) hd
theorem st_lreturn {G : q_G} {d : Nat} {μ : q_M} {pc : Nat} {L : List (Option Value)} {S : q_Sh} {M : q_Mem} {N : q_MemL} {k n : Nat} {Q : q_Q} {x : Int64} (hd : decode μ.2.1 pc = .ok (.lreturn, 1)) (hr : μ.2.2.2 = some .long := by rfl) (hq : Q (some (.long x)) S M N) : AW G d μ pc L [.long x] S M N k n Q := by
  intro p e R s m args below meth c Z H locs ls cells slots C hR hS hL hcl hsl hret
  refine W.widen (k := cells + k) (n := slots + n) (Nat.le_add_right _ _) (Nat.le_add_right _ _) ?_
  exact hret (some (.long x)) S M N H locs pc ls hq hR hS (Or.inr (Or.inr (Or.inl ⟨_, hr, rfl⟩))) hd
theorem st_areturn {G : q_G} {d : Nat} {μ : q_M} {pc : Nat} {L : List (Option Value)} {S : q_Sh} {M : q_Mem} {N : q_MemL} {k n : Nat} {Q : q_Q} {a : Nat} {ty : FieldType} (hd : decode μ.2.1 pc = .ok (.areturn, 1)) (hr : μ.2.2.2 = some ty := by rfl) (hty : (∃ n, ty = .object n) ∨ ∃ t, ty = .array t := by exact Or.inl ⟨_, rfl⟩) (hq : Q (some (.ref a)) S M N) : AW G d μ pc L [.ref a] S M N k n Q := by
  intro p e R s m args below meth c Z H locs ls cells slots C hR hS hL hcl hsl hret
  refine W.widen (k := cells + k) (n := slots + n) (Nat.le_add_right _ _) (Nat.le_add_right _ _) ?_
  exact hret (some (.ref a)) S M N H locs pc ls hq hR hS (Or.inr (Or.inr (Or.inr ⟨ty, hr, hty, Or.inr ⟨_, rfl⟩⟩))) hd
theorem st_areturnN {G : q_G} {d : Nat} {μ : q_M} {pc : Nat} {L : List (Option Value)} {S : q_Sh} {M : q_Mem} {N : q_MemL} {k n : Nat} {Q : q_Q} {ty : FieldType} (hd : decode μ.2.1 pc = .ok (.areturn, 1)) (hr : μ.2.2.2 = some ty := by rfl) (hty : (∃ n, ty = .object n) ∨ ∃ t, ty = .array t := by exact Or.inl ⟨_, rfl⟩) (hq : Q (some .null) S M N) : AW G d μ pc L [.null] S M N k n Q := by
  intro p e R s m args below meth c Z H locs ls cells slots C hR hS hL hcl hsl hret
  refine W.widen (k := cells + k) (n := slots + n) (Nat.le_add_right _ _) (Nat.le_add_right _ _) ?_
  exact hret (some .null) S M N H locs pc ls hq hR hS (Or.inr (Or.inr (Or.inr ⟨ty, hr, hty, Or.inl rfl⟩))) hd

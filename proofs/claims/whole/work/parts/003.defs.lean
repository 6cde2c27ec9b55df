/-! words of the abstract machine that the tables' facts speak of -/
def zi (z : Int) : Int32 := Int32.ofInt z
abbrev q_M : Type := MethodName × ByteArray × Nat × Option FieldType
def q_W : List Cond := lw_tbl.filter goodWord
def q_fk (own : String) (idx ci k : Nat) : Prop := ∃ C T NF, vwCl[ci]? = some (C, T, NF) ∧ k < NF ∧ Cond.fieldLink own idx (T k).1 (T k).2.1 (T k).2.2.1 ∈ q_W
/-- a field that may be written: not final, of this type -/
def q_fw (own : String) (idx ci k : Nat) (ty : FieldType) : Prop := ∃ C T NF, vwCl[ci]? = some (C, T, NF) ∧ k < NF ∧ Cond.fieldLink own idx (T k).1 (T k).2.1 (T k).2.2.1 ∈ q_W ∧ (T k).2.2.2 = false ∧ parseFieldDescriptor (T k).2.2.1 = some ty
/-- a final field, written in its class's constructor -/
def q_ff (own : String) (idx ci k : Nat) (ty : FieldType) : Prop := ∃ C T NF, vwCl[ci]? = some (C, T, NF) ∧ k < NF ∧ Cond.fieldLink own idx (T k).1 (T k).2.1 (T k).2.2.1 ∈ q_W ∧ (T k).2.2.2 = true ∧ parseFieldDescriptor (T k).2.2.1 = some ty ∧ (T k).1 = own
def q_lk (own : String) (idx : Nat) (y : MethodName) : Prop := Cond.methodLink own idx y ∈ q_W ∨ ∃ h, Cond.methodLinkNest own idx y h ∈ lw_tbl
def q_mk (μ : q_M) (na : Nat) : Prop := Cond.code μ.1 μ.2.1 μ.2.2.1 μ.2.2.2 ∈ q_W ∧ Cond.initialized μ.1.cls ∈ q_W ∧ (μ.1.cls ≠ "java/lang/invoke/MethodHandle" ∧ μ.1.cls ≠ "java/lang/invoke/VarHandle") ∧ (parseMethodDescriptor μ.1.desc).map (fun d => d.parameters.length) = some na ∧ μ.2.2.1 ≤ 41
def q_mi (μ : q_M) : Prop := Cond.instanceMethod μ.1 ∈ q_W ∧ Cond.selects μ.1.cls μ.1 μ.1 ∈ q_W

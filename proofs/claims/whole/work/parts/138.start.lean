/-! THE CLAIM OUT OF ONE WALK OF THE LAW'S BODY. Your part is whole_start (and what it stands on); all else here is the same for every law, but numbers. -/
def R_law : String := "LoudHouseLaw"
def lw_P (b : Addr) (xs : List Int32) (args : Array Value) (s : State) : Prop := args = #[.ref b] ∧ s.IntsAt b xs ∧ xs.length ≤ 3072 ∧ (Jvm.Cond.and given_1 narrow_1).before args s = true
def lw_Q (_ : Array Value) (s : State) (o : Outcome) (t : State) : Prop := o = .returned (some (.int 1)) ∧ Framed s o t [] 600000 7302250
def lw_Z (below : List Frame) (a : Array Value) (s : State) : State → Prop := fun t => ∃ o, t.status = .running ∧ Ended t below o ∧ lw_Q a s o t
/-- the law's own end, with 1 on the stack, nothing written that was there before, its room as the claim has it -/
theorem lw_ret {p : Program} {l : Launch} {e : Env} {s : State} {m : MethodId} {below : List Frame} {meth : Method} {c : Code} {b : Nat} (hx : p.tables.exec = Jvm.exec) (hb : c.code = code) (hr : meth.sig.returnType = ret) (hlocks : meth.locks = false) {pc : Nat} {H : Heap} {ls : Array Slot} (hdg : decode code pc = .ok (.ireturn, 1)) : W p l e room_1 s m #[Value.ref b] below meth c H [] 600000 7302250 (lw_Z below #[Value.ref b] s) (F0 m pc ls [.int 1]) := by
  intro T hT X
  obtain ⟨fs, hret, hrun, hended, hW, hframe⟩ := X.leave (v := some (.int 1)) (hlocks := hlocks) (fun h => by rw [hr] at h; cases h)
  have hmeth' : T.vm.method? m = some meth := X.method'
  refine ⟨T.setFrames fs, ?_, .returned (some (.int 1)), hrun, hended, rfl, ⟨_, rfl⟩, hW, hframe⟩
  jvm_step X.here [X.here.top, hx, hb, hdg, hmeth', hr, ret, narrow_b1]
  (try refine ⟨rfl, ?_⟩); (try refine ⟨rfl, ?_⟩)
  first | (intro acts; rw [hret _ acts rfl rfl rfl]) | rw [hret _ _ rfl rfl rfl]
  exact Steps.refl _
/-- what holds at the law's entry: the machine, the code, the tables' words (any of lw_tbl by 'hts w (by decide +kernel)'), the script of L ints xs at the cell b, what the Statement gives of the start (any of its parts by flat_of_before) -/
def lw_At (p : Program) (s : State) (m : MethodId) (meth : Method) (c : Code) (b L : Nat) (xs : Nat → Int32) : Prop :=
  p.tables.exec = Jvm.exec ∧ c.code = code ∧ meth.sig.returnType = ret ∧ c.maxLocals = 4 ∧ s.vm.findClass R_law = some m.cls ∧ (∀ w ∈ lw_tbl, w.before #[Value.ref b] s = true) ∧ va_X b L xs s s.heap ∧ b < s.heap.size ∧ meth.locks = false ∧ (Jvm.Cond.and given_1 narrow_1).before #[Value.ref b] s = true
/-! from the law's entry into the abstract machine -/
def q_tm (i : Nat) : Term := match q_str[i]? with
  | some w => .string w.1 w.2.1
  | none => .arg 0
abbrev q_F : List Cond := flatC (Jvm.Cond.and given_1 narrow_1)
set_option maxRecDepth 100000 in
theorem qn_0 : Cond.exactly (q_tm 0) "java/lang/String" ∈ q_F ∧ Cond.eq (.field (q_tm 0) "java/lang/String" "coder" "B") (.int 0) ∈ q_F ∧ Cond.arrayOf (.field (q_tm 0) "java/lang/String" "value" "[B") .byte ∈ q_F ∧ Cond.eq (.length (.field (q_tm 0) "java/lang/String" "value" "[B")) (.int (Int32.ofNat (q_len.getD 0 0))) ∈ q_F ∧ ∀ j, j < q_len.getD 0 0 → Cond.eq (.elem (.field (q_tm 0) "java/lang/String" "value" "[B") (.int (Int32.ofNat j))) (.int ((q_byt.getD 0 []).getD j 0)) ∈ q_F := by
  refine ⟨List.mem_of_getElem? (i := 33) (by decide +kernel), List.mem_of_getElem? (i := 34) (by decide +kernel), List.mem_of_getElem? (i := 35) (by decide +kernel), List.mem_of_getElem? (i := 36) (by decide +kernel), fun j hj => ?_⟩
  have hl : q_len.getD 0 0 = 33 := rfl
  rw [hl] at hj
  match j, hj with
  | 0, _ => exact List.mem_of_getElem? (i := 37) (by decide +kernel)
  | 1, _ => exact List.mem_of_getElem? (i := 38) (by decide +kernel)
  | 2, _ => exact List.mem_of_getElem? (i := 39) (by decide +kernel)
  | 3, _ => exact List.mem_of_getElem? (i := 40) (by decide +kernel)
  | 4, _ => exact List.mem_of_getElem? (i := 41) (by decide +kernel)
  | 5, _ => exact List.mem_of_getElem? (i := 42) (by decide +kernel)
  | 6, _ => exact List.mem_of_getElem? (i := 43) (by decide +kernel)
  | 7, _ => exact List.mem_of_getElem? (i := 44) (by decide +kernel)
  | 8, _ => exact List.mem_of_getElem? (i := 45) (by decide +kernel)
  | 9, _ => exact List.mem_of_getElem? (i := 46) (by decide +kernel)
  | 10, _ => exact List.mem_of_getElem? (i := 47) (by decide +kernel)
  | 11, _ => exact List.mem_of_getElem? (i := 48) (by decide +kernel)
  | 12, _ => exact List.mem_of_getElem? (i := 49) (by decide +kernel)
  | 13, _ => exact List.mem_of_getElem? (i := 50) (by decide +kernel)
  | 14, _ => exact List.mem_of_getElem? (i := 51) (by decide +kernel)
  | 15, _ => exact List.mem_of_getElem? (i := 52) (by decide +kernel)
  | 16, _ => exact List.mem_of_getElem? (i := 53) (by decide +kernel)
  | 17, _ => exact List.mem_of_getElem? (i := 54) (by decide +kernel)
  | 18, _ => exact List.mem_of_getElem? (i := 55) (by decide +kernel)
  | 19, _ => exact List.mem_of_getElem? (i := 56) (by decide +kernel)
  | 20, _ => exact List.mem_of_getElem? (i := 57) (by decide +kernel)
  | 21, _ => exact List.mem_of_getElem? (i := 58) (by decide +kernel)
  | 22, _ => exact List.mem_of_getElem? (i := 59) (by decide +kernel)
  | 23, _ => exact List.mem_of_getElem? (i := 60) (by decide +kernel)
  | 24, _ => exact List.mem_of_getElem? (i := 61) (by decide +kernel)
  | 25, _ => exact List.mem_of_getElem? (i := 62) (by decide +kernel)
  | 26, _ => exact List.mem_of_getElem? (i := 63) (by decide +kernel)
  | 27, _ => exact List.mem_of_getElem? (i := 64) (by decide +kernel)
  | 28, _ => exact List.mem_of_getElem? (i := 65) (by decide +kernel)
  | 29, _ => exact List.mem_of_getElem? (i := 66) (by decide +kernel)
  | 30, _ => exact List.mem_of_getElem? (i := 67) (by decide +kernel)
  | 31, _ => exact List.mem_of_getElem? (i := 68) (by decide +kernel)
  | 32, _ => exact List.mem_of_getElem? (i := 69) (by decide +kernel)
  | j + 33, hj => exact absurd hj (by omega)
set_option maxRecDepth 100000 in
theorem qn_1 : Cond.exactly (q_tm 1) "java/lang/String" ∈ q_F ∧ Cond.eq (.field (q_tm 1) "java/lang/String" "coder" "B") (.int 0) ∈ q_F ∧ Cond.arrayOf (.field (q_tm 1) "java/lang/String" "value" "[B") .byte ∈ q_F ∧ Cond.eq (.length (.field (q_tm 1) "java/lang/String" "value" "[B")) (.int (Int32.ofNat (q_len.getD 1 0))) ∈ q_F ∧ ∀ j, j < q_len.getD 1 0 → Cond.eq (.elem (.field (q_tm 1) "java/lang/String" "value" "[B") (.int (Int32.ofNat j))) (.int ((q_byt.getD 1 []).getD j 0)) ∈ q_F := by
  refine ⟨List.mem_of_getElem? (i := 70) (by decide +kernel), List.mem_of_getElem? (i := 71) (by decide +kernel), List.mem_of_getElem? (i := 72) (by decide +kernel), List.mem_of_getElem? (i := 73) (by decide +kernel), fun j hj => ?_⟩
  have hl : q_len.getD 1 0 = 9 := rfl
  rw [hl] at hj
  match j, hj with
  | 0, _ => exact List.mem_of_getElem? (i := 74) (by decide +kernel)
  | 1, _ => exact List.mem_of_getElem? (i := 75) (by decide +kernel)
  | 2, _ => exact List.mem_of_getElem? (i := 76) (by decide +kernel)
  | 3, _ => exact List.mem_of_getElem? (i := 77) (by decide +kernel)
  | 4, _ => exact List.mem_of_getElem? (i := 78) (by decide +kernel)
  | 5, _ => exact List.mem_of_getElem? (i := 79) (by decide +kernel)
  | 6, _ => exact List.mem_of_getElem? (i := 80) (by decide +kernel)
  | 7, _ => exact List.mem_of_getElem? (i := 81) (by decide +kernel)
  | 8, _ => exact List.mem_of_getElem? (i := 82) (by decide +kernel)
  | j + 9, hj => exact absurd hj (by omega)
set_option maxRecDepth 100000 in
theorem qn_2 : Cond.exactly (q_tm 2) "java/lang/String" ∈ q_F ∧ Cond.eq (.field (q_tm 2) "java/lang/String" "coder" "B") (.int 0) ∈ q_F ∧ Cond.arrayOf (.field (q_tm 2) "java/lang/String" "value" "[B") .byte ∈ q_F ∧ Cond.eq (.length (.field (q_tm 2) "java/lang/String" "value" "[B")) (.int (Int32.ofNat (q_len.getD 2 0))) ∈ q_F ∧ ∀ j, j < q_len.getD 2 0 → Cond.eq (.elem (.field (q_tm 2) "java/lang/String" "value" "[B") (.int (Int32.ofNat j))) (.int ((q_byt.getD 2 []).getD j 0)) ∈ q_F := by
  refine ⟨List.mem_of_getElem? (i := 83) (by decide +kernel), List.mem_of_getElem? (i := 84) (by decide +kernel), List.mem_of_getElem? (i := 85) (by decide +kernel), List.mem_of_getElem? (i := 86) (by decide +kernel), fun j hj => ?_⟩
  have hl : q_len.getD 2 0 = 62 := rfl
  rw [hl] at hj
  match j, hj with
  | 0, _ => exact List.mem_of_getElem? (i := 87) (by decide +kernel)
  | 1, _ => exact List.mem_of_getElem? (i := 88) (by decide +kernel)
  | 2, _ => exact List.mem_of_getElem? (i := 89) (by decide +kernel)
  | 3, _ => exact List.mem_of_getElem? (i := 90) (by decide +kernel)
  | 4, _ => exact List.mem_of_getElem? (i := 91) (by decide +kernel)
  | 5, _ => exact List.mem_of_getElem? (i := 92) (by decide +kernel)
  | 6, _ => exact List.mem_of_getElem? (i := 93) (by decide +kernel)
  | 7, _ => exact List.mem_of_getElem? (i := 94) (by decide +kernel)
  | 8, _ => exact List.mem_of_getElem? (i := 95) (by decide +kernel)
  | 9, _ => exact List.mem_of_getElem? (i := 96) (by decide +kernel)
  | 10, _ => exact List.mem_of_getElem? (i := 97) (by decide +kernel)
  | 11, _ => exact List.mem_of_getElem? (i := 98) (by decide +kernel)
  | 12, _ => exact List.mem_of_getElem? (i := 99) (by decide +kernel)
  | 13, _ => exact List.mem_of_getElem? (i := 100) (by decide +kernel)
  | 14, _ => exact List.mem_of_getElem? (i := 101) (by decide +kernel)
  | 15, _ => exact List.mem_of_getElem? (i := 102) (by decide +kernel)
  | 16, _ => exact List.mem_of_getElem? (i := 103) (by decide +kernel)
  | 17, _ => exact List.mem_of_getElem? (i := 104) (by decide +kernel)
  | 18, _ => exact List.mem_of_getElem? (i := 105) (by decide +kernel)
  | 19, _ => exact List.mem_of_getElem? (i := 106) (by decide +kernel)
  | 20, _ => exact List.mem_of_getElem? (i := 107) (by decide +kernel)
  | 21, _ => exact List.mem_of_getElem? (i := 108) (by decide +kernel)
  | 22, _ => exact List.mem_of_getElem? (i := 109) (by decide +kernel)
  | 23, _ => exact List.mem_of_getElem? (i := 110) (by decide +kernel)
  | 24, _ => exact List.mem_of_getElem? (i := 111) (by decide +kernel)
  | 25, _ => exact List.mem_of_getElem? (i := 112) (by decide +kernel)
  | 26, _ => exact List.mem_of_getElem? (i := 113) (by decide +kernel)
  | 27, _ => exact List.mem_of_getElem? (i := 114) (by decide +kernel)
  | 28, _ => exact List.mem_of_getElem? (i := 115) (by decide +kernel)
  | 29, _ => exact List.mem_of_getElem? (i := 116) (by decide +kernel)
  | 30, _ => exact List.mem_of_getElem? (i := 117) (by decide +kernel)
  | 31, _ => exact List.mem_of_getElem? (i := 118) (by decide +kernel)
  | 32, _ => exact List.mem_of_getElem? (i := 119) (by decide +kernel)
  | 33, _ => exact List.mem_of_getElem? (i := 120) (by decide +kernel)
  | 34, _ => exact List.mem_of_getElem? (i := 121) (by decide +kernel)
  | 35, _ => exact List.mem_of_getElem? (i := 122) (by decide +kernel)
  | 36, _ => exact List.mem_of_getElem? (i := 123) (by decide +kernel)
  | 37, _ => exact List.mem_of_getElem? (i := 124) (by decide +kernel)
  | 38, _ => exact List.mem_of_getElem? (i := 125) (by decide +kernel)
  | 39, _ => exact List.mem_of_getElem? (i := 126) (by decide +kernel)
  | 40, _ => exact List.mem_of_getElem? (i := 127) (by decide +kernel)
  | 41, _ => exact List.mem_of_getElem? (i := 128) (by decide +kernel)
  | 42, _ => exact List.mem_of_getElem? (i := 129) (by decide +kernel)
  | 43, _ => exact List.mem_of_getElem? (i := 130) (by decide +kernel)
  | 44, _ => exact List.mem_of_getElem? (i := 131) (by decide +kernel)
  | 45, _ => exact List.mem_of_getElem? (i := 132) (by decide +kernel)
  | 46, _ => exact List.mem_of_getElem? (i := 133) (by decide +kernel)
  | 47, _ => exact List.mem_of_getElem? (i := 134) (by decide +kernel)
  | 48, _ => exact List.mem_of_getElem? (i := 135) (by decide +kernel)
  | 49, _ => exact List.mem_of_getElem? (i := 136) (by decide +kernel)
  | 50, _ => exact List.mem_of_getElem? (i := 137) (by decide +kernel)
  | 51, _ => exact List.mem_of_getElem? (i := 138) (by decide +kernel)
  | 52, _ => exact List.mem_of_getElem? (i := 139) (by decide +kernel)
  | 53, _ => exact List.mem_of_getElem? (i := 140) (by decide +kernel)
  | 54, _ => exact List.mem_of_getElem? (i := 141) (by decide +kernel)
  | 55, _ => exact List.mem_of_getElem? (i := 142) (by decide +kernel)
  | 56, _ => exact List.mem_of_getElem? (i := 143) (by decide +kernel)
  | 57, _ => exact List.mem_of_getElem? (i := 144) (by decide +kernel)
  | 58, _ => exact List.mem_of_getElem? (i := 145) (by decide +kernel)
  | 59, _ => exact List.mem_of_getElem? (i := 146) (by decide +kernel)
  | 60, _ => exact List.mem_of_getElem? (i := 147) (by decide +kernel)
  | 61, _ => exact List.mem_of_getElem? (i := 148) (by decide +kernel)
  | j + 62, hj => exact absurd hj (by omega)
set_option maxRecDepth 100000 in
theorem qn_3 : Cond.exactly (q_tm 3) "java/lang/String" ∈ q_F ∧ Cond.eq (.field (q_tm 3) "java/lang/String" "coder" "B") (.int 0) ∈ q_F ∧ Cond.arrayOf (.field (q_tm 3) "java/lang/String" "value" "[B") .byte ∈ q_F ∧ Cond.eq (.length (.field (q_tm 3) "java/lang/String" "value" "[B")) (.int (Int32.ofNat (q_len.getD 3 0))) ∈ q_F ∧ ∀ j, j < q_len.getD 3 0 → Cond.eq (.elem (.field (q_tm 3) "java/lang/String" "value" "[B") (.int (Int32.ofNat j))) (.int ((q_byt.getD 3 []).getD j 0)) ∈ q_F := by
  refine ⟨List.mem_of_getElem? (i := 149) (by decide +kernel), List.mem_of_getElem? (i := 150) (by decide +kernel), List.mem_of_getElem? (i := 151) (by decide +kernel), List.mem_of_getElem? (i := 152) (by decide +kernel), fun j hj => ?_⟩
  have hl : q_len.getD 3 0 = 2 := rfl
  rw [hl] at hj
  match j, hj with
  | 0, _ => exact List.mem_of_getElem? (i := 153) (by decide +kernel)
  | 1, _ => exact List.mem_of_getElem? (i := 154) (by decide +kernel)
  | j + 2, hj => exact absurd hj (by omega)
set_option maxRecDepth 100000 in
theorem qn_4 : Cond.exactly (q_tm 4) "java/lang/String" ∈ q_F ∧ Cond.eq (.field (q_tm 4) "java/lang/String" "coder" "B") (.int 0) ∈ q_F ∧ Cond.arrayOf (.field (q_tm 4) "java/lang/String" "value" "[B") .byte ∈ q_F ∧ Cond.eq (.length (.field (q_tm 4) "java/lang/String" "value" "[B")) (.int (Int32.ofNat (q_len.getD 4 0))) ∈ q_F ∧ ∀ j, j < q_len.getD 4 0 → Cond.eq (.elem (.field (q_tm 4) "java/lang/String" "value" "[B") (.int (Int32.ofNat j))) (.int ((q_byt.getD 4 []).getD j 0)) ∈ q_F := by
  refine ⟨List.mem_of_getElem? (i := 155) (by decide +kernel), List.mem_of_getElem? (i := 156) (by decide +kernel), List.mem_of_getElem? (i := 157) (by decide +kernel), List.mem_of_getElem? (i := 158) (by decide +kernel), fun j hj => ?_⟩
  have hl : q_len.getD 4 0 = 3 := rfl
  rw [hl] at hj
  match j, hj with
  | 0, _ => exact List.mem_of_getElem? (i := 159) (by decide +kernel)
  | 1, _ => exact List.mem_of_getElem? (i := 160) (by decide +kernel)
  | 2, _ => exact List.mem_of_getElem? (i := 161) (by decide +kernel)
  | j + 3, hj => exact absurd hj (by omega)
set_option maxRecDepth 100000 in
theorem qn_5 : Cond.exactly (q_tm 5) "java/lang/String" ∈ q_F ∧ Cond.eq (.field (q_tm 5) "java/lang/String" "coder" "B") (.int 0) ∈ q_F ∧ Cond.arrayOf (.field (q_tm 5) "java/lang/String" "value" "[B") .byte ∈ q_F ∧ Cond.eq (.length (.field (q_tm 5) "java/lang/String" "value" "[B")) (.int (Int32.ofNat (q_len.getD 5 0))) ∈ q_F ∧ ∀ j, j < q_len.getD 5 0 → Cond.eq (.elem (.field (q_tm 5) "java/lang/String" "value" "[B") (.int (Int32.ofNat j))) (.int ((q_byt.getD 5 []).getD j 0)) ∈ q_F := by
  refine ⟨List.mem_of_getElem? (i := 162) (by decide +kernel), List.mem_of_getElem? (i := 163) (by decide +kernel), List.mem_of_getElem? (i := 164) (by decide +kernel), List.mem_of_getElem? (i := 165) (by decide +kernel), fun j hj => ?_⟩
  have hl : q_len.getD 5 0 = 6 := rfl
  rw [hl] at hj
  match j, hj with
  | 0, _ => exact List.mem_of_getElem? (i := 166) (by decide +kernel)
  | 1, _ => exact List.mem_of_getElem? (i := 167) (by decide +kernel)
  | 2, _ => exact List.mem_of_getElem? (i := 168) (by decide +kernel)
  | 3, _ => exact List.mem_of_getElem? (i := 169) (by decide +kernel)
  | 4, _ => exact List.mem_of_getElem? (i := 170) (by decide +kernel)
  | 5, _ => exact List.mem_of_getElem? (i := 171) (by decide +kernel)
  | j + 6, hj => exact absurd hj (by omega)
set_option maxRecDepth 100000 in
theorem qn_6 : Cond.exactly (q_tm 6) "java/lang/String" ∈ q_F ∧ Cond.eq (.field (q_tm 6) "java/lang/String" "coder" "B") (.int 0) ∈ q_F ∧ Cond.arrayOf (.field (q_tm 6) "java/lang/String" "value" "[B") .byte ∈ q_F ∧ Cond.eq (.length (.field (q_tm 6) "java/lang/String" "value" "[B")) (.int (Int32.ofNat (q_len.getD 6 0))) ∈ q_F ∧ ∀ j, j < q_len.getD 6 0 → Cond.eq (.elem (.field (q_tm 6) "java/lang/String" "value" "[B") (.int (Int32.ofNat j))) (.int ((q_byt.getD 6 []).getD j 0)) ∈ q_F := by
  refine ⟨List.mem_of_getElem? (i := 172) (by decide +kernel), List.mem_of_getElem? (i := 173) (by decide +kernel), List.mem_of_getElem? (i := 174) (by decide +kernel), List.mem_of_getElem? (i := 175) (by decide +kernel), fun j hj => ?_⟩
  have hl : q_len.getD 6 0 = 5 := rfl
  rw [hl] at hj
  match j, hj with
  | 0, _ => exact List.mem_of_getElem? (i := 176) (by decide +kernel)
  | 1, _ => exact List.mem_of_getElem? (i := 177) (by decide +kernel)
  | 2, _ => exact List.mem_of_getElem? (i := 178) (by decide +kernel)
  | 3, _ => exact List.mem_of_getElem? (i := 179) (by decide +kernel)
  | 4, _ => exact List.mem_of_getElem? (i := 180) (by decide +kernel)
  | j + 5, hj => exact absurd hj (by omega)
set_option maxRecDepth 100000 in
theorem qn_7 : Cond.exactly (q_tm 7) "java/lang/String" ∈ q_F ∧ Cond.eq (.field (q_tm 7) "java/lang/String" "coder" "B") (.int 0) ∈ q_F ∧ Cond.arrayOf (.field (q_tm 7) "java/lang/String" "value" "[B") .byte ∈ q_F ∧ Cond.eq (.length (.field (q_tm 7) "java/lang/String" "value" "[B")) (.int (Int32.ofNat (q_len.getD 7 0))) ∈ q_F ∧ ∀ j, j < q_len.getD 7 0 → Cond.eq (.elem (.field (q_tm 7) "java/lang/String" "value" "[B") (.int (Int32.ofNat j))) (.int ((q_byt.getD 7 []).getD j 0)) ∈ q_F := by
  refine ⟨List.mem_of_getElem? (i := 181) (by decide +kernel), List.mem_of_getElem? (i := 182) (by decide +kernel), List.mem_of_getElem? (i := 183) (by decide +kernel), List.mem_of_getElem? (i := 184) (by decide +kernel), fun j hj => ?_⟩
  have hl : q_len.getD 7 0 = 4 := rfl
  rw [hl] at hj
  match j, hj with
  | 0, _ => exact List.mem_of_getElem? (i := 185) (by decide +kernel)
  | 1, _ => exact List.mem_of_getElem? (i := 186) (by decide +kernel)
  | 2, _ => exact List.mem_of_getElem? (i := 187) (by decide +kernel)
  | 3, _ => exact List.mem_of_getElem? (i := 188) (by decide +kernel)
  | j + 4, hj => exact absurd hj (by omega)
set_option maxRecDepth 100000 in
theorem qn_8 : Cond.exactly (q_tm 8) "java/lang/String" ∈ q_F ∧ Cond.eq (.field (q_tm 8) "java/lang/String" "coder" "B") (.int 0) ∈ q_F ∧ Cond.arrayOf (.field (q_tm 8) "java/lang/String" "value" "[B") .byte ∈ q_F ∧ Cond.eq (.length (.field (q_tm 8) "java/lang/String" "value" "[B")) (.int (Int32.ofNat (q_len.getD 8 0))) ∈ q_F ∧ ∀ j, j < q_len.getD 8 0 → Cond.eq (.elem (.field (q_tm 8) "java/lang/String" "value" "[B") (.int (Int32.ofNat j))) (.int ((q_byt.getD 8 []).getD j 0)) ∈ q_F := by
  refine ⟨List.mem_of_getElem? (i := 189) (by decide +kernel), List.mem_of_getElem? (i := 190) (by decide +kernel), List.mem_of_getElem? (i := 191) (by decide +kernel), List.mem_of_getElem? (i := 192) (by decide +kernel), fun j hj => ?_⟩
  have hl : q_len.getD 8 0 = 6 := rfl
  rw [hl] at hj
  match j, hj with
  | 0, _ => exact List.mem_of_getElem? (i := 193) (by decide +kernel)
  | 1, _ => exact List.mem_of_getElem? (i := 194) (by decide +kernel)
  | 2, _ => exact List.mem_of_getElem? (i := 195) (by decide +kernel)
  | 3, _ => exact List.mem_of_getElem? (i := 196) (by decide +kernel)
  | 4, _ => exact List.mem_of_getElem? (i := 197) (by decide +kernel)
  | 5, _ => exact List.mem_of_getElem? (i := 198) (by decide +kernel)
  | j + 6, hj => exact absurd hj (by omega)
set_option maxRecDepth 100000 in
theorem qn_9 : Cond.exactly (q_tm 9) "java/lang/String" ∈ q_F ∧ Cond.eq (.field (q_tm 9) "java/lang/String" "coder" "B") (.int 0) ∈ q_F ∧ Cond.arrayOf (.field (q_tm 9) "java/lang/String" "value" "[B") .byte ∈ q_F ∧ Cond.eq (.length (.field (q_tm 9) "java/lang/String" "value" "[B")) (.int (Int32.ofNat (q_len.getD 9 0))) ∈ q_F ∧ ∀ j, j < q_len.getD 9 0 → Cond.eq (.elem (.field (q_tm 9) "java/lang/String" "value" "[B") (.int (Int32.ofNat j))) (.int ((q_byt.getD 9 []).getD j 0)) ∈ q_F := by
  refine ⟨List.mem_of_getElem? (i := 199) (by decide +kernel), List.mem_of_getElem? (i := 200) (by decide +kernel), List.mem_of_getElem? (i := 201) (by decide +kernel), List.mem_of_getElem? (i := 202) (by decide +kernel), fun j hj => ?_⟩
  have hl : q_len.getD 9 0 = 4 := rfl
  rw [hl] at hj
  match j, hj with
  | 0, _ => exact List.mem_of_getElem? (i := 203) (by decide +kernel)
  | 1, _ => exact List.mem_of_getElem? (i := 204) (by decide +kernel)
  | 2, _ => exact List.mem_of_getElem? (i := 205) (by decide +kernel)
  | 3, _ => exact List.mem_of_getElem? (i := 206) (by decide +kernel)
  | j + 4, hj => exact absurd hj (by omega)
set_option maxRecDepth 100000 in
theorem qn_10 : Cond.exactly (q_tm 10) "java/lang/String" ∈ q_F ∧ Cond.eq (.field (q_tm 10) "java/lang/String" "coder" "B") (.int 0) ∈ q_F ∧ Cond.arrayOf (.field (q_tm 10) "java/lang/String" "value" "[B") .byte ∈ q_F ∧ Cond.eq (.length (.field (q_tm 10) "java/lang/String" "value" "[B")) (.int (Int32.ofNat (q_len.getD 10 0))) ∈ q_F ∧ ∀ j, j < q_len.getD 10 0 → Cond.eq (.elem (.field (q_tm 10) "java/lang/String" "value" "[B") (.int (Int32.ofNat j))) (.int ((q_byt.getD 10 []).getD j 0)) ∈ q_F := by
  refine ⟨List.mem_of_getElem? (i := 207) (by decide +kernel), List.mem_of_getElem? (i := 208) (by decide +kernel), List.mem_of_getElem? (i := 209) (by decide +kernel), List.mem_of_getElem? (i := 210) (by decide +kernel), fun j hj => ?_⟩
  have hl : q_len.getD 10 0 = 5 := rfl
  rw [hl] at hj
  match j, hj with
  | 0, _ => exact List.mem_of_getElem? (i := 211) (by decide +kernel)
  | 1, _ => exact List.mem_of_getElem? (i := 212) (by decide +kernel)
  | 2, _ => exact List.mem_of_getElem? (i := 213) (by decide +kernel)
  | 3, _ => exact List.mem_of_getElem? (i := 214) (by decide +kernel)
  | 4, _ => exact List.mem_of_getElem? (i := 215) (by decide +kernel)
  | j + 5, hj => exact absurd hj (by omega)
set_option maxRecDepth 100000 in
theorem qn_11 : Cond.exactly (q_tm 11) "java/lang/String" ∈ q_F ∧ Cond.eq (.field (q_tm 11) "java/lang/String" "coder" "B") (.int 0) ∈ q_F ∧ Cond.arrayOf (.field (q_tm 11) "java/lang/String" "value" "[B") .byte ∈ q_F ∧ Cond.eq (.length (.field (q_tm 11) "java/lang/String" "value" "[B")) (.int (Int32.ofNat (q_len.getD 11 0))) ∈ q_F ∧ ∀ j, j < q_len.getD 11 0 → Cond.eq (.elem (.field (q_tm 11) "java/lang/String" "value" "[B") (.int (Int32.ofNat j))) (.int ((q_byt.getD 11 []).getD j 0)) ∈ q_F := by
  refine ⟨List.mem_of_getElem? (i := 216) (by decide +kernel), List.mem_of_getElem? (i := 217) (by decide +kernel), List.mem_of_getElem? (i := 218) (by decide +kernel), List.mem_of_getElem? (i := 219) (by decide +kernel), fun j hj => ?_⟩
  have hl : q_len.getD 11 0 = 4 := rfl
  rw [hl] at hj
  match j, hj with
  | 0, _ => exact List.mem_of_getElem? (i := 220) (by decide +kernel)
  | 1, _ => exact List.mem_of_getElem? (i := 221) (by decide +kernel)
  | 2, _ => exact List.mem_of_getElem? (i := 222) (by decide +kernel)
  | 3, _ => exact List.mem_of_getElem? (i := 223) (by decide +kernel)
  | j + 4, hj => exact absurd hj (by omega)
set_option maxRecDepth 100000 in
theorem qn_12 : Cond.exactly (q_tm 12) "java/lang/String" ∈ q_F ∧ Cond.eq (.field (q_tm 12) "java/lang/String" "coder" "B") (.int 0) ∈ q_F ∧ Cond.arrayOf (.field (q_tm 12) "java/lang/String" "value" "[B") .byte ∈ q_F ∧ Cond.eq (.length (.field (q_tm 12) "java/lang/String" "value" "[B")) (.int (Int32.ofNat (q_len.getD 12 0))) ∈ q_F ∧ ∀ j, j < q_len.getD 12 0 → Cond.eq (.elem (.field (q_tm 12) "java/lang/String" "value" "[B") (.int (Int32.ofNat j))) (.int ((q_byt.getD 12 []).getD j 0)) ∈ q_F := by
  refine ⟨List.mem_of_getElem? (i := 224) (by decide +kernel), List.mem_of_getElem? (i := 225) (by decide +kernel), List.mem_of_getElem? (i := 226) (by decide +kernel), List.mem_of_getElem? (i := 227) (by decide +kernel), fun j hj => ?_⟩
  have hl : q_len.getD 12 0 = 4 := rfl
  rw [hl] at hj
  match j, hj with
  | 0, _ => exact List.mem_of_getElem? (i := 228) (by decide +kernel)
  | 1, _ => exact List.mem_of_getElem? (i := 229) (by decide +kernel)
  | 2, _ => exact List.mem_of_getElem? (i := 230) (by decide +kernel)
  | 3, _ => exact List.mem_of_getElem? (i := 231) (by decide +kernel)
  | j + 4, hj => exact absurd hj (by omega)
set_option maxRecDepth 100000 in
theorem qn_13 : Cond.exactly (q_tm 13) "java/lang/String" ∈ q_F ∧ Cond.eq (.field (q_tm 13) "java/lang/String" "coder" "B") (.int 0) ∈ q_F ∧ Cond.arrayOf (.field (q_tm 13) "java/lang/String" "value" "[B") .byte ∈ q_F ∧ Cond.eq (.length (.field (q_tm 13) "java/lang/String" "value" "[B")) (.int (Int32.ofNat (q_len.getD 13 0))) ∈ q_F ∧ ∀ j, j < q_len.getD 13 0 → Cond.eq (.elem (.field (q_tm 13) "java/lang/String" "value" "[B") (.int (Int32.ofNat j))) (.int ((q_byt.getD 13 []).getD j 0)) ∈ q_F := by
  refine ⟨List.mem_of_getElem? (i := 232) (by decide +kernel), List.mem_of_getElem? (i := 233) (by decide +kernel), List.mem_of_getElem? (i := 234) (by decide +kernel), List.mem_of_getElem? (i := 235) (by decide +kernel), fun j hj => ?_⟩
  have hl : q_len.getD 13 0 = 4 := rfl
  rw [hl] at hj
  match j, hj with
  | 0, _ => exact List.mem_of_getElem? (i := 236) (by decide +kernel)
  | 1, _ => exact List.mem_of_getElem? (i := 237) (by decide +kernel)
  | 2, _ => exact List.mem_of_getElem? (i := 238) (by decide +kernel)
  | 3, _ => exact List.mem_of_getElem? (i := 239) (by decide +kernel)
  | j + 4, hj => exact absurd hj (by omega)
set_option maxRecDepth 100000 in
theorem qn_14 : Cond.exactly (q_tm 14) "java/lang/String" ∈ q_F ∧ Cond.eq (.field (q_tm 14) "java/lang/String" "coder" "B") (.int 0) ∈ q_F ∧ Cond.arrayOf (.field (q_tm 14) "java/lang/String" "value" "[B") .byte ∈ q_F ∧ Cond.eq (.length (.field (q_tm 14) "java/lang/String" "value" "[B")) (.int (Int32.ofNat (q_len.getD 14 0))) ∈ q_F ∧ ∀ j, j < q_len.getD 14 0 → Cond.eq (.elem (.field (q_tm 14) "java/lang/String" "value" "[B") (.int (Int32.ofNat j))) (.int ((q_byt.getD 14 []).getD j 0)) ∈ q_F := by
  refine ⟨List.mem_of_getElem? (i := 240) (by decide +kernel), List.mem_of_getElem? (i := 241) (by decide +kernel), List.mem_of_getElem? (i := 242) (by decide +kernel), List.mem_of_getElem? (i := 243) (by decide +kernel), fun j hj => ?_⟩
  have hl : q_len.getD 14 0 = 4 := rfl
  rw [hl] at hj
  match j, hj with
  | 0, _ => exact List.mem_of_getElem? (i := 244) (by decide +kernel)
  | 1, _ => exact List.mem_of_getElem? (i := 245) (by decide +kernel)
  | 2, _ => exact List.mem_of_getElem? (i := 246) (by decide +kernel)
  | 3, _ => exact List.mem_of_getElem? (i := 247) (by decide +kernel)
  | j + 4, hj => exact absurd hj (by omega)
set_option maxRecDepth 100000 in
theorem qn_15 : Cond.exactly (q_tm 15) "java/lang/String" ∈ q_F ∧ Cond.eq (.field (q_tm 15) "java/lang/String" "coder" "B") (.int 0) ∈ q_F ∧ Cond.arrayOf (.field (q_tm 15) "java/lang/String" "value" "[B") .byte ∈ q_F ∧ Cond.eq (.length (.field (q_tm 15) "java/lang/String" "value" "[B")) (.int (Int32.ofNat (q_len.getD 15 0))) ∈ q_F ∧ ∀ j, j < q_len.getD 15 0 → Cond.eq (.elem (.field (q_tm 15) "java/lang/String" "value" "[B") (.int (Int32.ofNat j))) (.int ((q_byt.getD 15 []).getD j 0)) ∈ q_F := by
  refine ⟨List.mem_of_getElem? (i := 248) (by decide +kernel), List.mem_of_getElem? (i := 249) (by decide +kernel), List.mem_of_getElem? (i := 250) (by decide +kernel), List.mem_of_getElem? (i := 251) (by decide +kernel), fun j hj => ?_⟩
  have hl : q_len.getD 15 0 = 6 := rfl
  rw [hl] at hj
  match j, hj with
  | 0, _ => exact List.mem_of_getElem? (i := 252) (by decide +kernel)
  | 1, _ => exact List.mem_of_getElem? (i := 253) (by decide +kernel)
  | 2, _ => exact List.mem_of_getElem? (i := 254) (by decide +kernel)
  | 3, _ => exact List.mem_of_getElem? (i := 255) (by decide +kernel)
  | 4, _ => exact List.mem_of_getElem? (i := 256) (by decide +kernel)
  | 5, _ => exact List.mem_of_getElem? (i := 257) (by decide +kernel)
  | j + 6, hj => exact absurd hj (by omega)
set_option maxRecDepth 100000 in
theorem qn_16 : Cond.exactly (q_tm 16) "java/lang/String" ∈ q_F ∧ Cond.eq (.field (q_tm 16) "java/lang/String" "coder" "B") (.int 0) ∈ q_F ∧ Cond.arrayOf (.field (q_tm 16) "java/lang/String" "value" "[B") .byte ∈ q_F ∧ Cond.eq (.length (.field (q_tm 16) "java/lang/String" "value" "[B")) (.int (Int32.ofNat (q_len.getD 16 0))) ∈ q_F ∧ ∀ j, j < q_len.getD 16 0 → Cond.eq (.elem (.field (q_tm 16) "java/lang/String" "value" "[B") (.int (Int32.ofNat j))) (.int ((q_byt.getD 16 []).getD j 0)) ∈ q_F := by
  refine ⟨List.mem_of_getElem? (i := 258) (by decide +kernel), List.mem_of_getElem? (i := 259) (by decide +kernel), List.mem_of_getElem? (i := 260) (by decide +kernel), List.mem_of_getElem? (i := 261) (by decide +kernel), fun j hj => ?_⟩
  have hl : q_len.getD 16 0 = 5 := rfl
  rw [hl] at hj
  match j, hj with
  | 0, _ => exact List.mem_of_getElem? (i := 262) (by decide +kernel)
  | 1, _ => exact List.mem_of_getElem? (i := 263) (by decide +kernel)
  | 2, _ => exact List.mem_of_getElem? (i := 264) (by decide +kernel)
  | 3, _ => exact List.mem_of_getElem? (i := 265) (by decide +kernel)
  | 4, _ => exact List.mem_of_getElem? (i := 266) (by decide +kernel)
  | j + 5, hj => exact absurd hj (by omega)
set_option maxRecDepth 100000 in
theorem qn_17 : Cond.exactly (q_tm 17) "java/lang/String" ∈ q_F ∧ Cond.eq (.field (q_tm 17) "java/lang/String" "coder" "B") (.int 0) ∈ q_F ∧ Cond.arrayOf (.field (q_tm 17) "java/lang/String" "value" "[B") .byte ∈ q_F ∧ Cond.eq (.length (.field (q_tm 17) "java/lang/String" "value" "[B")) (.int (Int32.ofNat (q_len.getD 17 0))) ∈ q_F ∧ ∀ j, j < q_len.getD 17 0 → Cond.eq (.elem (.field (q_tm 17) "java/lang/String" "value" "[B") (.int (Int32.ofNat j))) (.int ((q_byt.getD 17 []).getD j 0)) ∈ q_F := by
  refine ⟨List.mem_of_getElem? (i := 267) (by decide +kernel), List.mem_of_getElem? (i := 268) (by decide +kernel), List.mem_of_getElem? (i := 269) (by decide +kernel), List.mem_of_getElem? (i := 270) (by decide +kernel), fun j hj => ?_⟩
  have hl : q_len.getD 17 0 = 5 := rfl
  rw [hl] at hj
  match j, hj with
  | 0, _ => exact List.mem_of_getElem? (i := 271) (by decide +kernel)
  | 1, _ => exact List.mem_of_getElem? (i := 272) (by decide +kernel)
  | 2, _ => exact List.mem_of_getElem? (i := 273) (by decide +kernel)
  | 3, _ => exact List.mem_of_getElem? (i := 274) (by decide +kernel)
  | 4, _ => exact List.mem_of_getElem? (i := 275) (by decide +kernel)
  | j + 5, hj => exact absurd hj (by omega)
set_option maxRecDepth 100000 in
theorem qn_18 : Cond.exactly (q_tm 18) "java/lang/String" ∈ q_F ∧ Cond.eq (.field (q_tm 18) "java/lang/String" "coder" "B") (.int 0) ∈ q_F ∧ Cond.arrayOf (.field (q_tm 18) "java/lang/String" "value" "[B") .byte ∈ q_F ∧ Cond.eq (.length (.field (q_tm 18) "java/lang/String" "value" "[B")) (.int (Int32.ofNat (q_len.getD 18 0))) ∈ q_F ∧ ∀ j, j < q_len.getD 18 0 → Cond.eq (.elem (.field (q_tm 18) "java/lang/String" "value" "[B") (.int (Int32.ofNat j))) (.int ((q_byt.getD 18 []).getD j 0)) ∈ q_F := by
  refine ⟨List.mem_of_getElem? (i := 276) (by decide +kernel), List.mem_of_getElem? (i := 277) (by decide +kernel), List.mem_of_getElem? (i := 278) (by decide +kernel), List.mem_of_getElem? (i := 279) (by decide +kernel), fun j hj => ?_⟩
  have hl : q_len.getD 18 0 = 4 := rfl
  rw [hl] at hj
  match j, hj with
  | 0, _ => exact List.mem_of_getElem? (i := 280) (by decide +kernel)
  | 1, _ => exact List.mem_of_getElem? (i := 281) (by decide +kernel)
  | 2, _ => exact List.mem_of_getElem? (i := 282) (by decide +kernel)
  | 3, _ => exact List.mem_of_getElem? (i := 283) (by decide +kernel)
  | j + 4, hj => exact absurd hj (by omega)
set_option maxRecDepth 100000 in
theorem qn_19 : Cond.exactly (q_tm 19) "java/lang/String" ∈ q_F ∧ Cond.eq (.field (q_tm 19) "java/lang/String" "coder" "B") (.int 0) ∈ q_F ∧ Cond.arrayOf (.field (q_tm 19) "java/lang/String" "value" "[B") .byte ∈ q_F ∧ Cond.eq (.length (.field (q_tm 19) "java/lang/String" "value" "[B")) (.int (Int32.ofNat (q_len.getD 19 0))) ∈ q_F ∧ ∀ j, j < q_len.getD 19 0 → Cond.eq (.elem (.field (q_tm 19) "java/lang/String" "value" "[B") (.int (Int32.ofNat j))) (.int ((q_byt.getD 19 []).getD j 0)) ∈ q_F := by
  refine ⟨List.mem_of_getElem? (i := 284) (by decide +kernel), List.mem_of_getElem? (i := 285) (by decide +kernel), List.mem_of_getElem? (i := 286) (by decide +kernel), List.mem_of_getElem? (i := 287) (by decide +kernel), fun j hj => ?_⟩
  have hl : q_len.getD 19 0 = 4 := rfl
  rw [hl] at hj
  match j, hj with
  | 0, _ => exact List.mem_of_getElem? (i := 288) (by decide +kernel)
  | 1, _ => exact List.mem_of_getElem? (i := 289) (by decide +kernel)
  | 2, _ => exact List.mem_of_getElem? (i := 290) (by decide +kernel)
  | 3, _ => exact List.mem_of_getElem? (i := 291) (by decide +kernel)
  | j + 4, hj => exact absurd hj (by omega)
set_option maxRecDepth 100000 in
theorem qn_20 : Cond.exactly (q_tm 20) "java/lang/String" ∈ q_F ∧ Cond.eq (.field (q_tm 20) "java/lang/String" "coder" "B") (.int 0) ∈ q_F ∧ Cond.arrayOf (.field (q_tm 20) "java/lang/String" "value" "[B") .byte ∈ q_F ∧ Cond.eq (.length (.field (q_tm 20) "java/lang/String" "value" "[B")) (.int (Int32.ofNat (q_len.getD 20 0))) ∈ q_F ∧ ∀ j, j < q_len.getD 20 0 → Cond.eq (.elem (.field (q_tm 20) "java/lang/String" "value" "[B") (.int (Int32.ofNat j))) (.int ((q_byt.getD 20 []).getD j 0)) ∈ q_F := by
  refine ⟨List.mem_of_getElem? (i := 292) (by decide +kernel), List.mem_of_getElem? (i := 293) (by decide +kernel), List.mem_of_getElem? (i := 294) (by decide +kernel), List.mem_of_getElem? (i := 295) (by decide +kernel), fun j hj => ?_⟩
  have hl : q_len.getD 20 0 = 5 := rfl
  rw [hl] at hj
  match j, hj with
  | 0, _ => exact List.mem_of_getElem? (i := 296) (by decide +kernel)
  | 1, _ => exact List.mem_of_getElem? (i := 297) (by decide +kernel)
  | 2, _ => exact List.mem_of_getElem? (i := 298) (by decide +kernel)
  | 3, _ => exact List.mem_of_getElem? (i := 299) (by decide +kernel)
  | 4, _ => exact List.mem_of_getElem? (i := 300) (by decide +kernel)
  | j + 5, hj => exact absurd hj (by omega)
set_option maxRecDepth 100000 in
theorem qn_21 : Cond.exactly (q_tm 21) "java/lang/String" ∈ q_F ∧ Cond.eq (.field (q_tm 21) "java/lang/String" "coder" "B") (.int 0) ∈ q_F ∧ Cond.arrayOf (.field (q_tm 21) "java/lang/String" "value" "[B") .byte ∈ q_F ∧ Cond.eq (.length (.field (q_tm 21) "java/lang/String" "value" "[B")) (.int (Int32.ofNat (q_len.getD 21 0))) ∈ q_F ∧ ∀ j, j < q_len.getD 21 0 → Cond.eq (.elem (.field (q_tm 21) "java/lang/String" "value" "[B") (.int (Int32.ofNat j))) (.int ((q_byt.getD 21 []).getD j 0)) ∈ q_F := by
  refine ⟨List.mem_of_getElem? (i := 301) (by decide +kernel), List.mem_of_getElem? (i := 302) (by decide +kernel), List.mem_of_getElem? (i := 303) (by decide +kernel), List.mem_of_getElem? (i := 304) (by decide +kernel), fun j hj => ?_⟩
  have hl : q_len.getD 21 0 = 4 := rfl
  rw [hl] at hj
  match j, hj with
  | 0, _ => exact List.mem_of_getElem? (i := 305) (by decide +kernel)
  | 1, _ => exact List.mem_of_getElem? (i := 306) (by decide +kernel)
  | 2, _ => exact List.mem_of_getElem? (i := 307) (by decide +kernel)
  | 3, _ => exact List.mem_of_getElem? (i := 308) (by decide +kernel)
  | j + 4, hj => exact absurd hj (by omega)
set_option maxRecDepth 100000 in
theorem qn_22 : Cond.exactly (q_tm 22) "java/lang/String" ∈ q_F ∧ Cond.eq (.field (q_tm 22) "java/lang/String" "coder" "B") (.int 0) ∈ q_F ∧ Cond.arrayOf (.field (q_tm 22) "java/lang/String" "value" "[B") .byte ∈ q_F ∧ Cond.eq (.length (.field (q_tm 22) "java/lang/String" "value" "[B")) (.int (Int32.ofNat (q_len.getD 22 0))) ∈ q_F ∧ ∀ j, j < q_len.getD 22 0 → Cond.eq (.elem (.field (q_tm 22) "java/lang/String" "value" "[B") (.int (Int32.ofNat j))) (.int ((q_byt.getD 22 []).getD j 0)) ∈ q_F := by
  refine ⟨List.mem_of_getElem? (i := 309) (by decide +kernel), List.mem_of_getElem? (i := 310) (by decide +kernel), List.mem_of_getElem? (i := 311) (by decide +kernel), List.mem_of_getElem? (i := 312) (by decide +kernel), fun j hj => ?_⟩
  have hl : q_len.getD 22 0 = 6 := rfl
  rw [hl] at hj
  match j, hj with
  | 0, _ => exact List.mem_of_getElem? (i := 313) (by decide +kernel)
  | 1, _ => exact List.mem_of_getElem? (i := 314) (by decide +kernel)
  | 2, _ => exact List.mem_of_getElem? (i := 315) (by decide +kernel)
  | 3, _ => exact List.mem_of_getElem? (i := 316) (by decide +kernel)
  | 4, _ => exact List.mem_of_getElem? (i := 317) (by decide +kernel)
  | 5, _ => exact List.mem_of_getElem? (i := 318) (by decide +kernel)
  | j + 6, hj => exact absurd hj (by omega)
set_option maxRecDepth 100000 in
theorem qn_23 : Cond.exactly (q_tm 23) "java/lang/String" ∈ q_F ∧ Cond.eq (.field (q_tm 23) "java/lang/String" "coder" "B") (.int 0) ∈ q_F ∧ Cond.arrayOf (.field (q_tm 23) "java/lang/String" "value" "[B") .byte ∈ q_F ∧ Cond.eq (.length (.field (q_tm 23) "java/lang/String" "value" "[B")) (.int (Int32.ofNat (q_len.getD 23 0))) ∈ q_F ∧ ∀ j, j < q_len.getD 23 0 → Cond.eq (.elem (.field (q_tm 23) "java/lang/String" "value" "[B") (.int (Int32.ofNat j))) (.int ((q_byt.getD 23 []).getD j 0)) ∈ q_F := by
  refine ⟨List.mem_of_getElem? (i := 319) (by decide +kernel), List.mem_of_getElem? (i := 320) (by decide +kernel), List.mem_of_getElem? (i := 321) (by decide +kernel), List.mem_of_getElem? (i := 322) (by decide +kernel), fun j hj => ?_⟩
  have hl : q_len.getD 23 0 = 3 := rfl
  rw [hl] at hj
  match j, hj with
  | 0, _ => exact List.mem_of_getElem? (i := 323) (by decide +kernel)
  | 1, _ => exact List.mem_of_getElem? (i := 324) (by decide +kernel)
  | 2, _ => exact List.mem_of_getElem? (i := 325) (by decide +kernel)
  | j + 3, hj => exact absurd hj (by omega)
set_option maxRecDepth 100000 in
theorem qn_24 : Cond.exactly (q_tm 24) "java/lang/String" ∈ q_F ∧ Cond.eq (.field (q_tm 24) "java/lang/String" "coder" "B") (.int 0) ∈ q_F ∧ Cond.arrayOf (.field (q_tm 24) "java/lang/String" "value" "[B") .byte ∈ q_F ∧ Cond.eq (.length (.field (q_tm 24) "java/lang/String" "value" "[B")) (.int (Int32.ofNat (q_len.getD 24 0))) ∈ q_F ∧ ∀ j, j < q_len.getD 24 0 → Cond.eq (.elem (.field (q_tm 24) "java/lang/String" "value" "[B") (.int (Int32.ofNat j))) (.int ((q_byt.getD 24 []).getD j 0)) ∈ q_F := by
  refine ⟨List.mem_of_getElem? (i := 326) (by decide +kernel), List.mem_of_getElem? (i := 327) (by decide +kernel), List.mem_of_getElem? (i := 328) (by decide +kernel), List.mem_of_getElem? (i := 329) (by decide +kernel), fun j hj => ?_⟩
  have hl : q_len.getD 24 0 = 2 := rfl
  rw [hl] at hj
  match j, hj with
  | 0, _ => exact List.mem_of_getElem? (i := 330) (by decide +kernel)
  | 1, _ => exact List.mem_of_getElem? (i := 331) (by decide +kernel)
  | j + 2, hj => exact absurd hj (by omega)
set_option maxRecDepth 100000 in
theorem qn_25 : Cond.exactly (q_tm 25) "java/lang/String" ∈ q_F ∧ Cond.eq (.field (q_tm 25) "java/lang/String" "coder" "B") (.int 0) ∈ q_F ∧ Cond.arrayOf (.field (q_tm 25) "java/lang/String" "value" "[B") .byte ∈ q_F ∧ Cond.eq (.length (.field (q_tm 25) "java/lang/String" "value" "[B")) (.int (Int32.ofNat (q_len.getD 25 0))) ∈ q_F ∧ ∀ j, j < q_len.getD 25 0 → Cond.eq (.elem (.field (q_tm 25) "java/lang/String" "value" "[B") (.int (Int32.ofNat j))) (.int ((q_byt.getD 25 []).getD j 0)) ∈ q_F := by
  refine ⟨List.mem_of_getElem? (i := 333) (by decide +kernel), List.mem_of_getElem? (i := 334) (by decide +kernel), List.mem_of_getElem? (i := 335) (by decide +kernel), List.mem_of_getElem? (i := 336) (by decide +kernel), fun j hj => ?_⟩
  have hl : q_len.getD 25 0 = 3 := rfl
  rw [hl] at hj
  match j, hj with
  | 0, _ => exact List.mem_of_getElem? (i := 337) (by decide +kernel)
  | 1, _ => exact List.mem_of_getElem? (i := 338) (by decide +kernel)
  | 2, _ => exact List.mem_of_getElem? (i := 339) (by decide +kernel)
  | j + 3, hj => exact absurd hj (by omega)
set_option maxRecDepth 100000 in
theorem qn_26 : Cond.exactly (q_tm 26) "java/lang/String" ∈ q_F ∧ Cond.eq (.field (q_tm 26) "java/lang/String" "coder" "B") (.int 0) ∈ q_F ∧ Cond.arrayOf (.field (q_tm 26) "java/lang/String" "value" "[B") .byte ∈ q_F ∧ Cond.eq (.length (.field (q_tm 26) "java/lang/String" "value" "[B")) (.int (Int32.ofNat (q_len.getD 26 0))) ∈ q_F ∧ ∀ j, j < q_len.getD 26 0 → Cond.eq (.elem (.field (q_tm 26) "java/lang/String" "value" "[B") (.int (Int32.ofNat j))) (.int ((q_byt.getD 26 []).getD j 0)) ∈ q_F := by
  refine ⟨List.mem_of_getElem? (i := 341) (by decide +kernel), List.mem_of_getElem? (i := 342) (by decide +kernel), List.mem_of_getElem? (i := 343) (by decide +kernel), List.mem_of_getElem? (i := 344) (by decide +kernel), fun j hj => ?_⟩
  have hl : q_len.getD 26 0 = 3 := rfl
  rw [hl] at hj
  match j, hj with
  | 0, _ => exact List.mem_of_getElem? (i := 345) (by decide +kernel)
  | 1, _ => exact List.mem_of_getElem? (i := 346) (by decide +kernel)
  | 2, _ => exact List.mem_of_getElem? (i := 347) (by decide +kernel)
  | j + 3, hj => exact absurd hj (by omega)
set_option maxRecDepth 100000 in
theorem qn_27 : Cond.exactly (q_tm 27) "java/lang/String" ∈ q_F ∧ Cond.eq (.field (q_tm 27) "java/lang/String" "coder" "B") (.int 0) ∈ q_F ∧ Cond.arrayOf (.field (q_tm 27) "java/lang/String" "value" "[B") .byte ∈ q_F ∧ Cond.eq (.length (.field (q_tm 27) "java/lang/String" "value" "[B")) (.int (Int32.ofNat (q_len.getD 27 0))) ∈ q_F ∧ ∀ j, j < q_len.getD 27 0 → Cond.eq (.elem (.field (q_tm 27) "java/lang/String" "value" "[B") (.int (Int32.ofNat j))) (.int ((q_byt.getD 27 []).getD j 0)) ∈ q_F := by
  refine ⟨List.mem_of_getElem? (i := 348) (by decide +kernel), List.mem_of_getElem? (i := 349) (by decide +kernel), List.mem_of_getElem? (i := 350) (by decide +kernel), List.mem_of_getElem? (i := 351) (by decide +kernel), fun j hj => ?_⟩
  have hl : q_len.getD 27 0 = 2 := rfl
  rw [hl] at hj
  match j, hj with
  | 0, _ => exact List.mem_of_getElem? (i := 352) (by decide +kernel)
  | 1, _ => exact List.mem_of_getElem? (i := 353) (by decide +kernel)
  | j + 2, hj => exact absurd hj (by omega)
theorem q_nar : ∀ i, i < 28 → Cond.exactly (q_tm i) "java/lang/String" ∈ q_F ∧ Cond.eq (.field (q_tm i) "java/lang/String" "coder" "B") (.int 0) ∈ q_F ∧ Cond.arrayOf (.field (q_tm i) "java/lang/String" "value" "[B") .byte ∈ q_F ∧ Cond.eq (.length (.field (q_tm i) "java/lang/String" "value" "[B")) (.int (Int32.ofNat (q_len.getD i 0))) ∈ q_F ∧ ∀ j, j < q_len.getD i 0 → Cond.eq (.elem (.field (q_tm i) "java/lang/String" "value" "[B") (.int (Int32.ofNat j))) (.int ((q_byt.getD i []).getD j 0)) ∈ q_F := by
  intro i hi
  match i, hi with
  | 0, _ => exact qn_0
  | 1, _ => exact qn_1
  | 2, _ => exact qn_2
  | 3, _ => exact qn_3
  | 4, _ => exact qn_4
  | 5, _ => exact qn_5
  | 6, _ => exact qn_6
  | 7, _ => exact qn_7
  | 8, _ => exact qn_8
  | 9, _ => exact qn_9
  | 10, _ => exact qn_10
  | 11, _ => exact qn_11
  | 12, _ => exact qn_12
  | 13, _ => exact qn_13
  | 14, _ => exact qn_14
  | 15, _ => exact qn_15
  | 16, _ => exact qn_16
  | 17, _ => exact qn_17
  | 18, _ => exact qn_18
  | 19, _ => exact qn_19
  | 20, _ => exact qn_20
  | 21, _ => exact qn_21
  | 22, _ => exact qn_22
  | 23, _ => exact qn_23
  | 24, _ => exact qn_24
  | 25, _ => exact qn_25
  | 26, _ => exact qn_26
  | 27, _ => exact qn_27
  | i + 28, hi => exact absurd hi (by omega)
theorem q_stat : Cond.eq (.static "java/lang/String" "COMPACT_STRINGS" "Z") (.int 1) ∈ q_F := List.mem_of_getElem? (i := 4) (by decide +kernel)
theorem q_sio : Cond.isRef (.static "jdk/internal/util/Preconditions" "SIOOBE_FORMATTER" "Ljava/util/function/BiFunction;") ∈ q_F := List.mem_of_getElem? (i := 5) (by decide +kernel)
set_option maxRecDepth 100000 in
theorem q_strw : ∀ i, i < 28 → ∀ w, q_str[i]? = some w → Cond.stringRef w.1 w.2.1 w.2.2 ∈ lw_tbl := by
  have h : (q_str.all fun w => decide (Cond.stringRef w.1 w.2.1 w.2.2 ∈ lw_tbl)) = true := by decide +kernel
  intro i _ w hw
  exact of_decide_eq_true (List.all_eq_true.mp h w (List.mem_of_getElem? hw))
theorem q_w4 : Cond.laysStatic "java/lang/String" "COMPACT_STRINGS" "Z" ∈ lw_tbl ∧ Cond.initialized "java/lang/String" ∈ lw_tbl ∧ Cond.laysStatic "jdk/internal/util/Preconditions" "SIOOBE_FORMATTER" "Ljava/util/function/BiFunction;" ∈ lw_tbl ∧ Cond.initialized "jdk/internal/util/Preconditions" ∈ lw_tbl ∧ Cond.arrayOver (.object RX2) ∈ lw_tbl ∧ Cond.arrayOver (.object RX5) ∈ lw_tbl := by decide +kernel
theorem q_W_tbl {w : Cond} (h : w ∈ q_W) : w ∈ lw_tbl := (List.mem_filter.mp h).1
theorem q_arr {s : State} {args : Array Value} {ty : FieldType} (hp : ty.isReference = false) (h : (Cond.arrayClass ty).before args s = true) : ∃ cA : ClassId, ArrOfT s cA ty ∧ va_RA s cA ty := by
  obtain ⟨c, k, comp, h1, h2, h3⟩ := Cond.arrayClass_spec h
  refine ⟨c, fun n z => ⟨(fun k h => by cases h), k, h2, comp, h3⟩, ?_⟩
  cases ty <;> first | exact h1 | (exfalso; revert hp; decide) | (simp [FieldType.isReference] at hp)
theorem q_arrO {s : State} {args : Array Value} {C : String} (h : (Cond.arrayOver (.object C)).before args s = true) : ∃ cA : ClassId, ArrOfT s cA (.object C) ∧ va_RA s cA (.object C) := by
  obtain ⟨comp, c, k, h1, h2, h3, h4, h5⟩ := Cond.arrayOver_spec h
  exact ⟨c, fun n z => ⟨(fun k h => by cases h), k, h3, comp, h4⟩, k, comp, h3, h4, h1, h5⟩
/-- the strings and what they hold -/
theorem q_strs {args : Array Value} {s : State} {A : Nat → Prop} (hn : ∀ c ∈ flatC (Jvm.Cond.and given_1 narrow_1), c.before args s = true) (hA : ∀ a : Nat, a < s.heap.size → ¬ A a) :
    ∃ adK adV : Nat → Nat, ∀ i : Nat, i < 28 → (q_tm i).eval args s none [] s = some (.ref (adK i)) ∧ va_O "java/lang/String" (adK i) A s s.heap ∧ va_OF "java/lang/String" "coder" "B" (.int 0) (adK i) A s s.heap ∧ va_OF "java/lang/String" "value" "[B" (.ref (adV i)) (adK i) A s s.heap ∧ va_T .byte (adV i) (q_len.getD i 0) (fun j => .int ((q_byt.getD i []).getD j 0)) A s s.heap := by
  have hlen : ∀ i, i < 28 → q_len.getD i 0 < 2 ^ 31 := by decide
  have h0 : ∀ i : Nat, ∃ q : Nat × Nat, i < 28 → (q_tm i).eval args s none [] s = some (.ref q.1) ∧ va_O "java/lang/String" q.1 A s s.heap ∧ va_OF "java/lang/String" "coder" "B" (.int 0) q.1 A s s.heap ∧ va_OF "java/lang/String" "value" "[B" (.ref q.2) q.1 A s s.heap ∧ va_T .byte q.2 (q_len.getD i 0) (fun j => .int ((q_byt.getD i []).getD j 0)) A s s.heap := by
    intro i
    by_cases hi : i < 28
    · obtain ⟨a, c, cA, kA, q1, q2, q3, q4, q5, q6, -⟩ := Cond.exactly_spec (args := args) (first := s) (o := none) (s := s) (idx := []) (t := q_tm i) (cls := "java/lang/String") (hn _ (q_nar i hi).1)
      obtain ⟨t, ht, hT⟩ := va_Tof (f := fun j => .int ((q_byt.getD i []).getD j 0)) (A := A) (hlen i hi) (hn _ (q_nar i hi).2.2.1) (va_eqt (hn _ (q_nar i hi).2.2.2.1)) (fun j hj => va_eqt (hn _ ((q_nar i hi).2.2.2.2 j hj))) hA
      exact ⟨(a, t), fun _ => ⟨q1, ⟨cA, q3, q5, by rw [q6]; exact q2, hA a (Array.getElem?_eq_some_iff.mp q3).1⟩, vk_OFof q1 (va_eqt (hn _ (q_nar i hi).2.1)) hA, vk_OFof q1 ht hA, hT⟩⟩
    · exact ⟨(0, 0), fun h => absurd h hi⟩
  obtain ⟨ad, had⟩ := Classical.axiomOfChoice h0
  exact ⟨fun i => (ad i).1, fun i => (ad i).2, had⟩
theorem q_tm_at {i : Nat} {w : String × Nat × String} (h : q_str[i]? = some w) : q_tm i = .string w.1 w.2.1 := by unfold q_tm; rw [h]
theorem start_of {p : Program} {e : Env} {s : State} {m : MethodId} {below : List Frame} {meth : Method} {c : Code} (l : Launch) {b L : Nat} {xs : Nat → Int32} (hL : L ≤ 3072) (C0 : lw_At p s m meth c b L xs) (hnm : meth.name = "law")
    (hlaw : ∀ G : q_G, G.2.2.2.2.2.1 ≤ 3072 → AW G 60 m_law 0 [some (.ref 1999), none, none, none] [] [] (fun _ _ => 0) (fun _ _ => 0) 600000 7302250 (fun v _ _ _ => v = some (I 1))) :
    W p l e room_1 s m #[Value.ref b] below meth c s.heap [] 0 0 (lw_Z below #[Value.ref b] s) (entryFrame m ([Value.ref b] : List Value).toArray 4) := by
  obtain ⟨hx, hb, hr, hml, hown, hts, hX, hbl, hlocks, hgv⟩ := C0
  have hA : ∀ a : Nat, a < s.heap.size → ¬ (s.heap.size ≤ a) := fun a h => Nat.not_le.mpr h
  have hn := flat_of_before _ hgv
  obtain ⟨c0, f0, k0⟩ := u_known (C := RX0) (T := TX0) (N := 11) hts (fun w hw => q_W_tbl (q_clok0.1 w hw)) (hts _ (q_W_tbl in_X0))
  obtain ⟨c1, f1, k1⟩ := u_known (C := RX1) (T := TX1) (N := 3) hts (fun w hw => q_W_tbl (q_clok1.1 w hw)) (hts _ (q_W_tbl in_X1))
  obtain ⟨c2, f2, k2⟩ := u_known (C := RX2) (T := TX2) (N := 19) hts (fun w hw => q_W_tbl (q_clok2.1 w hw)) (hts _ (q_W_tbl in_X2))
  obtain ⟨c3, f3, k3⟩ := u_known (C := RX3) (T := TX3) (N := 2) hts (fun w hw => q_W_tbl (q_clok3.1 w hw)) (hts _ (q_W_tbl in_X3))
  obtain ⟨c4, f4, k4⟩ := u_known (C := RX4) (T := TX4) (N := 3) hts (fun w hw => q_W_tbl (q_clok4.1 w hw)) (hts _ (q_W_tbl in_X4))
  obtain ⟨c5, f5, k5⟩ := u_known (C := RX5) (T := TX5) (N := 7) hts (fun w hw => q_W_tbl (q_clok5.1 w hw)) (hts _ (q_W_tbl in_X5))
  obtain ⟨c6, f6, k6⟩ := u_known (C := RX6) (T := TX6) (N := 6) hts (fun w hw => q_W_tbl (q_clok6.1 w hw)) (hts _ (q_W_tbl in_X6))
  obtain ⟨c7, f7, k7⟩ := u_known (C := RX7) (T := TX7) (N := 6) hts (fun w hw => q_W_tbl (q_clok7.1 w hw)) (hts _ (q_W_tbl in_X7))
  obtain ⟨c8, f8, k8⟩ := u_known (C := RX8) (T := TX8) (N := 4) hts (fun w hw => q_W_tbl (q_clok8.1 w hw)) (hts _ (q_W_tbl in_X8))
  obtain ⟨c9, f9, k9⟩ := u_known (C := RX9) (T := TX9) (N := 6) hts (fun w hw => q_W_tbl (q_clok9.1 w hw)) (hts _ (q_W_tbl in_X9))
  obtain ⟨c10, f10, k10⟩ := u_known (C := RX10) (T := TX10) (N := 15) hts (fun w hw => q_W_tbl (q_clok10.1 w hw)) (hts _ (q_W_tbl in_X10))
  obtain ⟨c11, f11, k11⟩ := u_known (C := RX11) (T := TX11) (N := 82) hts (fun w hw => q_W_tbl (q_clok11.1 w hw)) (hts _ (q_W_tbl in_X11))
  obtain ⟨aI, aI1, aI2⟩ := q_arr (ty := .int) rfl (hts _ (q_W_tbl a_int))
  obtain ⟨aB, aB1, aB2⟩ := q_arr (ty := .byte) rfl (hts _ (q_W_tbl a_byte))
  obtain ⟨aZ, aZ1, aZ2⟩ := q_arr (ty := .boolean) rfl (hts _ (q_W_tbl a_boolean))
  obtain ⟨aJ, aJ1, aJ2⟩ := q_arr (ty := .long) rfl (hts _ (q_W_tbl a_long))
  obtain ⟨w1, w2, w3, w4, w5, w6⟩ := q_w4
  obtain ⟨aH, aH1, aH2⟩ := q_arrO (hts _ w5)
  obtain ⟨aR, aR1, aR2⟩ := q_arrO (hts _ w6)
  obtain ⟨adK, adV, hstr⟩ := q_strs (args := #[Value.ref b]) (s := s) (A := fun q => s.heap.size ≤ q) hn hA
  have hcs := va_Zof (A := fun q => s.heap.size ≤ q) (hts _ w1) (hts _ w2) (va_eqt (hn _ q_stat)) hA
  have hsio := va_Zqof (A := fun q => s.heap.size ≤ q) (hts _ w3) (hts _ w4) (hn _ q_sio) hA
  obtain ⟨sio, hsio⟩ : ∃ t : Nat, va_Z "jdk/internal/util/Preconditions" "SIOOBE_FORMATTER" "Ljava/util/function/BiFunction;" .null (fun q => s.heap.size ≤ q) s s.heap ∨ va_Z "jdk/internal/util/Preconditions" "SIOOBE_FORMATTER" "Ljava/util/function/BiFunction;" (.ref t) (fun q => s.heap.size ≤ q) s s.heap := by
    rcases hsio with h | ⟨t, h⟩
    · exact ⟨0, Or.inl h⟩
    · exact ⟨t, Or.inr h⟩
  let old : Nat → Nat := fun k => if k = 999 then b else if k = 998 then sio else if k % 2 = 0 then adK (k / 2) else adV (k / 2)
  let G : q_G := (s.heap.size, (fun c => match c with | 0 => c0 | 1 => c1 | 2 => c2 | 3 => c3 | 4 => c4 | 5 => c5 | 6 => c6 | 7 => c7 | 8 => c8 | 9 => c9 | 10 => c10 | 11 => c11 | _ => 0, fun c => match c with | 0 => f0 | 1 => f1 | 2 => f2 | 3 => f3 | 4 => f4 | 5 => f5 | 6 => f6 | 7 => f7 | 8 => f8 | 9 => f9 | 10 => f10 | 11 => f11 | _ => f0), (fun t => if t = 20 then aI else if t = 21 then aB else if t = 22 then aZ else if t = 23 then aJ else if t = 24 then aH else aR), old, l, L, xs)
  have oK : ∀ i, i < 28 → old (2 * i) = adK i := fun i hi => by
    show (if 2 * i = 999 then b else if 2 * i = 998 then sio else if 2 * i % 2 = 0 then adK (2 * i / 2) else adV (2 * i / 2)) = adK i
    rw [if_neg (by omega), if_neg (by omega), if_pos (by omega)]
    congr 1
    omega
  have oV : ∀ i, i < 28 → old (2 * i + 1) = adV i := fun i hi => by
    show (if 2 * i + 1 = 999 then b else if 2 * i + 1 = 998 then sio else if (2 * i + 1) % 2 = 0 then adK ((2 * i + 1) / 2) else adV ((2 * i + 1) / 2)) = adV i
    rw [if_neg (by omega), if_neg (by omega), if_neg (by omega)]
    congr 1
    omega
  have hO : q_O G s s.heap := by
    refine ⟨fun i w hw => ?_, fun i hi => ?_, hX, hbl, hcs, fun a i x h hw => va_tabs rfl rfl (hts _ hw), va_AO.of (hts _ w5), va_AO.of (hts _ w6), hsio⟩
    · have hi : i < 28 := (List.getElem?_eq_some_iff.mp hw).1
      show vk_R w.1 w.2.1 w.2.2 (old (2 * i)) s
      rw [oK i hi]
      have h1 := (hstr i hi).1
      rw [q_tm_at hw] at h1
      exact vk_R.of (hts _ (q_strw i hi w hw)) h1
    · show va_O _ (old (2 * i)) _ _ _ ∧ va_OF _ _ _ _ (old (2 * i)) _ _ _ ∧ va_OF _ _ _ (.ref (old (2 * i + 1))) (old (2 * i)) _ _ _ ∧ va_T _ (old (2 * i + 1)) _ _ _ _ _
      rw [oK i hi, oV i hi]
      exact (hstr i hi).2
  have hK : va_K G.2.1 vwCl (q_tys G) s := by
    refine ⟨fun ci q hq => ?_, fun k q hq => ?_⟩
    · have hl : ci < 12 := (List.getElem?_eq_some_iff.mp hq).1
      match ci, hl, hq with
      | 0, _, hq => cases hq; exact k0
      | 1, _, hq => cases hq; exact k1
      | 2, _, hq => cases hq; exact k2
      | 3, _, hq => cases hq; exact k3
      | 4, _, hq => cases hq; exact k4
      | 5, _, hq => cases hq; exact k5
      | 6, _, hq => cases hq; exact k6
      | 7, _, hq => cases hq; exact k7
      | 8, _, hq => cases hq; exact k8
      | 9, _, hq => cases hq; exact k9
      | 10, _, hq => cases hq; exact k10
      | 11, _, hq => cases hq; exact k11
    · have hl : k < 6 := (List.getElem?_eq_some_iff.mp hq).1
      match k, hl, hq with
      | 0, _, hq => cases hq; exact ⟨aI1, aI2⟩
      | 1, _, hq => cases hq; exact ⟨aB1, aB2⟩
      | 2, _, hq => cases hq; exact ⟨aZ1, aZ2⟩
      | 3, _, hq => cases hq; exact ⟨aJ1, aJ2⟩
      | 4, _, hq => cases hq; exact ⟨aH1, aH2⟩
      | 5, _, hq => cases hq; exact ⟨aR1, aR2⟩
  have C : q_C G 60 m_law p room_1 s m #[Value.ref b] meth c := ⟨hx, hb, hml, hown, fun w hw => hts w (q_W_tbl hw), hK, hO, Nat.le_refl _, hlocks, hr, hnm, Nat.le_of_ble_eq_true rfl, Nat.le_of_ble_eq_true rfl⟩
  have hl := lv_entry ([.ref b]) (n := 4) (Nat.le_of_ble_eq_true rfl)
  rw [lg_entry_eq]
  refine hlaw G hL p e room_1 s m _ below meth c (lw_Z below #[Value.ref b] s) s.heap [] _ 0 0 C ⟨rfl, by simp, fun k q h => by simp [q_ws] at h⟩ va_S.rf ⟨rfl, _, hl, fun j v hj => ?_⟩ (Nat.le_of_ble_eq_true rfl) (Nat.le_of_ble_eq_true rfl) ?_
  · match j, hj with
    | 0, hj =>
      cases hj
      show (0, Value.ref (q_ad G 1999)) ∈ _
      rw [show q_ad G 1999 = b from q_ad_old (G := G) 999]
      exact List.mem_cons_self
    | 1, hj => cases hj
    | 2, hj => cases hj
    | 3, hj => cases hj
    | j + 4, hj => cases hj
  · intro v S' M' N' H' locs' pc' ls' hq hR' hS' hok hd
    subst hq
    refine va_forget (fun q hq => hS'.2.2 q hq) ?_
    rw [Nat.zero_add, Nat.zero_add]
    exact lw_ret hx hb hr hlocks hd

theorem q_R.push {G : q_G} {S : q_Sh} {M : q_Mem} {N : q_MemL} {H H1 : Heap} {e : q_Ent} (hR : q_R G S M N H) (hs : S.length < 900) (z : H1.size = H.size + 1) (oq : ∀ q : Nat, q < H.size → H1[q]? = H[q]?) (hat : va_at G.2.1 vwCl (G.1 + S.length, q_ent G M N S.length e) H1) : q_R G (S ++ [e]) M N H1 := by
  refine ⟨by rw [z, hR.1, List.length_append]; simp; omega, by rw [List.length_append]; simp; omega, ?_⟩
  rw [q_ws_push]
  refine (hR.2.2.kept (fun k x hx => oq x.1 ((hR.2.2 k x hx).lt))).app (fun k x hx => ?_)
  have hz : k < 1 := (List.getElem?_eq_some_iff.mp hx).1
  rw [show k = 0 by omega] at hx
  cases hx
  exact hat
theorem va_S.grow {A : Nat → Prop} {H0 H H1 : Heap} {locs : List Loc} (hS : va_S A H0 H locs) (z : H1.size = H.size + 1) (oq : ∀ q : Nat, q < H.size → H1[q]? = H[q]?) : va_S A H0 H1 locs := ⟨Nat.le_trans hS.1 (by omega), fun x h1 h2 => (oq x (Nat.lt_of_lt_of_le h1 hS.1)).trans (hS.2.1 x h1 h2), hS.2.2⟩
theorem st_new {G : q_G} {d : Nat} {μ : q_M} {pc : Nat} {L : List (Option Value)} {st : List Value} {S : q_Sh} {M : q_Mem} {N : q_MemL} {k n : Nat} {Q : q_Q} {ci NF idx : Nat} {Cn : String} {T : u_T} {vs : List Value} (hd : decode μ.2.1 pc = .ok (.new idx, 3)) (hc : vwCl[ci]? = some (Cn, T, NF)) (hl : Cond.classLink μ.1.cls idx Cn ∈ q_W) (hi : Cond.instantiable Cn NF ∈ q_W) (hini : Cond.initialized Cn ∈ q_W) (hs : S.length < 900) (hM : ∀ j, M S.length j = 0) (ty : Nat → FieldType) (hty : ∀ k, k < NF → parseFieldDescriptor (T k).2.2.1 = some (ty k)) (hfs : ∀ j, j < NF → vs[j]? = some (defaultValue (ty j)) ∧ (defaultValue (ty j) = .null ∨ defaultValue (ty j) = .int 0)) (kk : AW G d μ (pc + 3) L (.ref S.length :: st) (S ++ [(ci, NF, vs)]) M N k n Q) : AW G d μ pc L st S M N (k + 1) (n + NF) Q := by
  intro p e R s m args below meth c Z H locs ls cells slots C hR hS hL hcl hso hret
  obtain ⟨hci, hin, hnm, -⟩ := q_cls hc
  have hKn := C.2.2.2.2.2.1.1 ci _ hc
  refine W.newcK C.1 C.2.1 C.2.2.2.1 (C.2.2.2.2.1 _ hl) (C.2.2.2.2.1 _ hi) (C.2.2.2.2.1 _ hini) rfl hd (by omega) (by omega) hKn.2.1 hR.1 fun H1 kC hkC e1 z1 o1 => ?_
  have z2 : H1.size = H.size + 1 := by rw [z1, hR.1]
  have hR1 := hR.push (e := (ci, NF, vs)) (H1 := H1) hs z2 (fun q hq => o1 q (by rw [← hR.1]; exact hq)) (by
    rw [q_ent_obj hci]
    refine ⟨_, hc, (u_born ty C.2.2.2.2.1 hin hKn hkC e1 hty).to (fun j hj => ?_)⟩
    obtain ⟨h8, h9⟩ := hfs j hj
    simp only [vp_V, List.getD_eq_getElem?_getD, q_fs_get h8]
    rcases h9 with h9 | h9 <;> rw [h9] <;> simp [q_fv, q_cv, hM, zi])
  have kw := kk p e R s m args below meth c Z H1 locs ls (cells + 1) (slots + NF) C hR1 (hS.grow z2 (fun q hq => o1 q (by rw [← hR.1]; exact hq))) hL (by omega) (by omega) (fun v S' M' N' H' locs' pc' ls' q1 q2 q3 q4 q5 => by
    rw [show cells + 1 + k = cells + (k + 1) by omega, show slots + NF + n = slots + (n + NF) by omega]
    exact hret v S' M' N' H' locs' pc' ls' q1 q2 q3 q4 q5)
  rw [List.map_cons, show q_cv G (.ref S.length) = .ref (G.1 + S.length) from congrArg Value.ref (q_ad_new (by omega))] at kw
  exact kw
theorem st_newa_i {G : q_G} {d : Nat} {μ : q_M} {pc : Nat} {L : List (Option Value)} {st : List Value} {S : q_Sh} {M : q_Mem} {N : q_MemL} {k n : Nat} {Q : q_Q} {nn : Nat} (hd : decode μ.2.1 pc = .ok (.newarray .int, 2)) (ha : Cond.arrayClass .int ∈ q_W) (hs : S.length < 900) (hM : ∀ j, M S.length j = 0) (hn : nn ≤ 10000) (kk : AW G d μ (pc + 2) L (.ref S.length :: st) (S ++ [(20, nn, [])]) M N k n Q) : AW G d μ pc L (I nn :: st) S M N (k + 1) (n + nn) Q := by
  intro p e R s m args below meth c Z H locs ls cells slots C hR hS hL hcl hso hret
  have hc9 : (zi (nn : Int)).toNatClampNeg = nn := by rw [zi_clamp (by omega)]; omega
  have h8 : componentBytes .int ≤ 8 := by decide
  have hby : nn * componentBytes .int ≤ 536870912 := Nat.le_trans (Nat.mul_le_mul hn h8) (by decide)
  refine va_newaK (atype := .int) (N := nn) C.1 C.2.1 (C.2.2.2.2.1 _ ha) rfl hd rfl (by rw [show (0 : Int32) = zi 0 from rfl, zi_lt (by omega) (by omega)]; omega) hc9 hby (by omega) (by omega) hR.1 fun H1 cA e1 z1 o1 hAr hNm => ?_
  have z2 : H1.size = H.size + 1 := by rw [z1, hR.1]
  have hK := (C.2.2.2.2.2.1.2 0 _ rfl).2
  have hcA : cA = G.2.2.1 20 := Option.some.inj (hNm.symm.trans hK)
  subst hcA
  have hR1 := hR.push (e := (20, nn, [])) (H1 := H1) hs z2 (fun q hq => o1 q (by rw [← hR.1]; exact hq)) (by
    rw [q_ent_i]
    show H1[G.1 + S.length]? = some (vp_cell _ _)
    rw [e1, vp_cell_i]
    congr 2
    funext j
    rw [hM j]
    rfl)
  have kw := kk p e R s m args below meth c Z H1 locs ls (cells + 1) (slots + nn) C hR1 (hS.grow z2 (fun q hq => o1 q (by rw [← hR.1]; exact hq))) hL (by omega) (by omega) (fun v S' M' N' H' locs' pc' ls' q1 q2 q3 q4 q5 => by
    rw [show cells + 1 + k = cells + (k + 1) by omega, show slots + nn + n = slots + (n + nn) by omega]
    exact hret v S' M' N' H' locs' pc' ls' q1 q2 q3 q4 q5)
  rw [List.map_cons, show q_cv G (.ref S.length) = .ref (G.1 + S.length) from congrArg Value.ref (q_ad_new (by omega))] at kw
  exact kw
theorem st_newa_b {G : q_G} {d : Nat} {μ : q_M} {pc : Nat} {L : List (Option Value)} {st : List Value} {S : q_Sh} {M : q_Mem} {N : q_MemL} {k n : Nat} {Q : q_Q} {nn : Nat} (hd : decode μ.2.1 pc = .ok (.newarray .byte, 2)) (ha : Cond.arrayClass .byte ∈ q_W) (hs : S.length < 900) (hM : ∀ j, M S.length j = 0) (hn : nn ≤ 10000) (kk : AW G d μ (pc + 2) L (.ref S.length :: st) (S ++ [(21, nn, [])]) M N k n Q) : AW G d μ pc L (I nn :: st) S M N (k + 1) (n + nn) Q := by
  intro p e R s m args below meth c Z H locs ls cells slots C hR hS hL hcl hso hret
  have hc9 : (zi (nn : Int)).toNatClampNeg = nn := by rw [zi_clamp (by omega)]; omega
  have h8 : componentBytes .byte ≤ 8 := by decide
  have hby : nn * componentBytes .byte ≤ 536870912 := Nat.le_trans (Nat.mul_le_mul hn h8) (by decide)
  refine va_newaK (atype := .byte) (N := nn) C.1 C.2.1 (C.2.2.2.2.1 _ ha) rfl hd rfl (by rw [show (0 : Int32) = zi 0 from rfl, zi_lt (by omega) (by omega)]; omega) hc9 hby (by omega) (by omega) hR.1 fun H1 cA e1 z1 o1 hAr hNm => ?_
  have z2 : H1.size = H.size + 1 := by rw [z1, hR.1]
  have hK := (C.2.2.2.2.2.1.2 1 _ rfl).2
  have hcA : cA = G.2.2.1 21 := Option.some.inj (hNm.symm.trans hK)
  subst hcA
  have hR1 := hR.push (e := (21, nn, [])) (H1 := H1) hs z2 (fun q hq => o1 q (by rw [← hR.1]; exact hq)) (by
    rw [q_ent_b]
    show H1[G.1 + S.length]? = some (vp_cell _ _)
    rw [e1, vp_cell_i]
    congr 2
    funext j
    rw [hM j]
    rfl)
  have kw := kk p e R s m args below meth c Z H1 locs ls (cells + 1) (slots + nn) C hR1 (hS.grow z2 (fun q hq => o1 q (by rw [← hR.1]; exact hq))) hL (by omega) (by omega) (fun v S' M' N' H' locs' pc' ls' q1 q2 q3 q4 q5 => by
    rw [show cells + 1 + k = cells + (k + 1) by omega, show slots + nn + n = slots + (n + nn) by omega]
    exact hret v S' M' N' H' locs' pc' ls' q1 q2 q3 q4 q5)
  rw [List.map_cons, show q_cv G (.ref S.length) = .ref (G.1 + S.length) from congrArg Value.ref (q_ad_new (by omega))] at kw
  exact kw
theorem st_newa_z {G : q_G} {d : Nat} {μ : q_M} {pc : Nat} {L : List (Option Value)} {st : List Value} {S : q_Sh} {M : q_Mem} {N : q_MemL} {k n : Nat} {Q : q_Q} {nn : Nat} (hd : decode μ.2.1 pc = .ok (.newarray .boolean, 2)) (ha : Cond.arrayClass .boolean ∈ q_W) (hs : S.length < 900) (hM : ∀ j, M S.length j = 0) (hn : nn ≤ 10000) (kk : AW G d μ (pc + 2) L (.ref S.length :: st) (S ++ [(22, nn, [])]) M N k n Q) : AW G d μ pc L (I nn :: st) S M N (k + 1) (n + nn) Q := by
  intro p e R s m args below meth c Z H locs ls cells slots C hR hS hL hcl hso hret
  have hc9 : (zi (nn : Int)).toNatClampNeg = nn := by rw [zi_clamp (by omega)]; omega
  have h8 : componentBytes .boolean ≤ 8 := by decide
  have hby : nn * componentBytes .boolean ≤ 536870912 := Nat.le_trans (Nat.mul_le_mul hn h8) (by decide)
  refine va_newaK (atype := .boolean) (N := nn) C.1 C.2.1 (C.2.2.2.2.1 _ ha) rfl hd rfl (by rw [show (0 : Int32) = zi 0 from rfl, zi_lt (by omega) (by omega)]; omega) hc9 hby (by omega) (by omega) hR.1 fun H1 cA e1 z1 o1 hAr hNm => ?_
  have z2 : H1.size = H.size + 1 := by rw [z1, hR.1]
  have hK := (C.2.2.2.2.2.1.2 2 _ rfl).2
  have hcA : cA = G.2.2.1 22 := Option.some.inj (hNm.symm.trans hK)
  subst hcA
  have hR1 := hR.push (e := (22, nn, [])) (H1 := H1) hs z2 (fun q hq => o1 q (by rw [← hR.1]; exact hq)) (by
    rw [q_ent_z]
    show H1[G.1 + S.length]? = some (vp_cell _ _)
    rw [e1, vp_cell_i]
    congr 2
    funext j
    rw [hM j]
    rfl)
  have kw := kk p e R s m args below meth c Z H1 locs ls (cells + 1) (slots + nn) C hR1 (hS.grow z2 (fun q hq => o1 q (by rw [← hR.1]; exact hq))) hL (by omega) (by omega) (fun v S' M' N' H' locs' pc' ls' q1 q2 q3 q4 q5 => by
    rw [show cells + 1 + k = cells + (k + 1) by omega, show slots + nn + n = slots + (n + nn) by omega]
    exact hret v S' M' N' H' locs' pc' ls' q1 q2 q3 q4 q5)
  rw [List.map_cons, show q_cv G (.ref S.length) = .ref (G.1 + S.length) from congrArg Value.ref (q_ad_new (by omega))] at kw
  exact kw
theorem st_newa_l {G : q_G} {d : Nat} {μ : q_M} {pc : Nat} {L : List (Option Value)} {st : List Value} {S : q_Sh} {M : q_Mem} {N : q_MemL} {k n : Nat} {Q : q_Q} {nn : Nat} (hd : decode μ.2.1 pc = .ok (.newarray .long, 2)) (ha : Cond.arrayClass .long ∈ q_W) (hs : S.length < 900) (hM : ∀ j, N S.length j = 0) (hn : nn ≤ 10000) (kk : AW G d μ (pc + 2) L (.ref S.length :: st) (S ++ [(23, nn, [])]) M N k n Q) : AW G d μ pc L (I nn :: st) S M N (k + 1) (n + nn) Q := by
  intro p e R s m args below meth c Z H locs ls cells slots C hR hS hL hcl hso hret
  have hc9 : (zi (nn : Int)).toNatClampNeg = nn := by rw [zi_clamp (by omega)]; omega
  have h8 : componentBytes .long ≤ 8 := by decide
  have hby : nn * componentBytes .long ≤ 536870912 := Nat.le_trans (Nat.mul_le_mul hn h8) (by decide)
  refine va_newaK (atype := .long) (N := nn) C.1 C.2.1 (C.2.2.2.2.1 _ ha) rfl hd rfl (by rw [show (0 : Int32) = zi 0 from rfl, zi_lt (by omega) (by omega)]; omega) hc9 hby (by omega) (by omega) hR.1 fun H1 cA e1 z1 o1 hAr hNm => ?_
  have z2 : H1.size = H.size + 1 := by rw [z1, hR.1]
  have hK := (C.2.2.2.2.2.1.2 3 _ rfl).2
  have hcA : cA = G.2.2.1 23 := Option.some.inj (hNm.symm.trans hK)
  subst hcA
  have hR1 := hR.push (e := (23, nn, [])) (H1 := H1) hs z2 (fun q hq => o1 q (by rw [← hR.1]; exact hq)) (by
    rw [q_ent_l]
    show H1[G.1 + S.length]? = some (vp_cell _ _)
    rw [e1, vp_cell_l]
    congr 2
    funext j
    rw [hM j]
    rfl)
  have kw := kk p e R s m args below meth c Z H1 locs ls (cells + 1) (slots + nn) C hR1 (hS.grow z2 (fun q hq => o1 q (by rw [← hR.1]; exact hq))) hL (by omega) (by omega) (fun v S' M' N' H' locs' pc' ls' q1 q2 q3 q4 q5 => by
    rw [show cells + 1 + k = cells + (k + 1) by omega, show slots + nn + n = slots + (n + nn) by omega]
    exact hret v S' M' N' H' locs' pc' ls' q1 q2 q3 q4 q5)
  rw [List.map_cons, show q_cv G (.ref S.length) = .ref (G.1 + S.length) from congrArg Value.ref (q_ad_new (by omega))] at kw
  exact kw
theorem st_anew {G : q_G} {d : Nat} {μ : q_M} {pc : Nat} {L : List (Option Value)} {st : List Value} {S : q_Sh} {M : q_Mem} {N : q_MemL} {k n : Nat} {Q : q_Q} {nn idx t : Nat} {Cn : String} (hd : decode μ.2.1 pc = .ok (.anewarray idx, 3)) (hl : Cond.classLink μ.1.cls idx Cn ∈ q_W) (ht : (t = 24 ∧ Cn = RX2) ∨ (t = 25 ∧ Cn = RX5)) (hs : S.length < 900) (hn : nn ≤ 10000) (kk : AW G d μ (pc + 3) L (.ref S.length :: st) (S ++ [(t, nn, List.replicate nn .null)]) M N k n Q) : AW G d μ pc L (I nn :: st) S M N (k + 1) (n + nn) Q := by
  intro p e R s m args below meth c Z H locs ls cells slots C hR hS hL hcl hso hret
  have hc9 : (zi (nn : Int)).toNatClampNeg = nn := by rw [zi_clamp (by omega)]; omega
  have hov : va_AO Cn s := by
    obtain ⟨-, -, -, -, -, -, h7, h8⟩ := C.2.2.2.2.2.2.1
    rcases ht with ⟨-, rfl⟩ | ⟨-, rfl⟩
    · exact h7
    · exact h8
  refine W.anew C.1 C.2.1 C.2.2.2.1 (C.2.2.2.2.1 _ hl) (va_AO.use hov) rfl hd rfl (by rw [show (0 : Int32) = zi 0 from rfl, zi_lt (by omega) (by omega)]; omega) (by rw [hc9]; omega) (by omega) (by rw [hc9]; omega) fun cA kA comp f1 f2 f3 f4 => ?_
  rw [hc9]
  generalize hH1 : H.push ({ cls := cA, slots := Array.replicate nn .null, vm := .none } : Cell) = H1
  have z1 : H1.size = H.size + 1 := by rw [← hH1, Array.size_push]
  have e1 : H1[H.size]? = some (arrV cA nn (fun _ => .null)) := by rw [← hH1, Array.getElem?_push_size, ← arrV_new]
  have o1 : ∀ q : Nat, q < H.size → H1[q]? = H[q]? := fun q hq => by rw [← hH1, Array.getElem?_push, if_neg (Nat.ne_of_lt hq)]
  have hcA : cA = G.2.2.1 t := by
    rcases ht with ⟨rfl, rfl⟩ | ⟨rfl, rfl⟩
    · obtain ⟨_, _, -, -, -, h4⟩ := (C.2.2.2.2.2.1.2 4 _ rfl).2
      exact Option.some.inj (f1.symm.trans h4)
    · obtain ⟨_, _, -, -, -, h4⟩ := (C.2.2.2.2.2.1.2 5 _ rfl).2
      exact Option.some.inj (f1.symm.trans h4)
  subst hcA
  have hR1 := hR.push (e := (t, nn, List.replicate nn .null)) (H1 := H1) hs z1 o1 (by
    rw [q_ent_q (by omega)]
    show H1[G.1 + S.length]? = some (vp_cell _ _)
    rw [← hR.1, e1, vp_cell_q]
    congr 2
    funext j
    have e9 : (List.replicate nn Value.null).getD j .null = .null := by
      rw [List.getD_eq_getElem?_getD, List.getElem?_replicate]
      split <;> rfl
    rw [e9]
    rfl)
  have kw := kk p e R s m args below meth c Z H1 locs ls (cells + 1) (slots + nn) C hR1 (hS.grow z1 o1) hL (by omega) (by omega) (fun v S' M' N' H' locs' pc' ls' q1 q2 q3 q4 q5 => by
    rw [show cells + 1 + k = cells + (k + 1) by omega, show slots + nn + n = slots + (n + nn) by omega]
    exact hret v S' M' N' H' locs' pc' ls' q1 q2 q3 q4 q5)
  rw [List.map_cons, show q_cv G (.ref S.length) = .ref (G.1 + S.length) from congrArg Value.ref (q_ad_new (by omega)), ← hR.1] at kw
  exact kw

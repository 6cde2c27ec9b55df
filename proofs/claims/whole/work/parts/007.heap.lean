/-! what was there before, moved -/
theorem q_O.same {G : q_G} {u U : State} {H : Heap} (hv : U.vm = u.vm) (h : q_O G u H) : q_O G U H := by
  obtain ⟨h1, h2, h3, h4, h5, h6, h7, h8, h9⟩ := h
  have hA : u.vm.Alike U.vm := by rw [hv]; exact Vm.Alike.refl u.vm
  exact ⟨fun i w hw => vk_R.same hv (h1 i w hw), fun i hi => ⟨va_O.moved hA (h2 i hi).1, va_OF.moved hA (h2 i hi).2.1, va_OF.moved hA (h2 i hi).2.2.1, va_T.moved hA (h2 i hi).2.2.2⟩, va_X.moved hA h3, h4, va_Z.moved hA h5, fun a i x q hw => va_tabs rfl hv.symm (h6 a i x q hw), va_AO.moved hA h7, va_AO.moved hA h8, h9.imp (va_Z.moved hA) (va_Z.moved hA)⟩
theorem q_O.warm {G : q_G} {u U : State} {H : Heap} (hW : u.WarmedH U.vm) (h : q_O G u H) : q_O G U H := by
  obtain ⟨h1, h2, h3, h4, h5, h6, h7, h8, h9⟩ := h
  have hA : u.vm.Alike U.vm := hW.alike
  exact ⟨fun i w hw => vk_R.warm hW (h1 i w hw), fun i hi => ⟨va_O.moved hA (h2 i hi).1, va_OF.moved hA (h2 i hi).2.1, va_OF.moved hA (h2 i hi).2.2.1, va_T.moved hA (h2 i hi).2.2.2⟩, va_X.moved hA h3, h4, va_Z.moved hA h5, fun a i x q hw => va_Nw.warmM hW (h6 a i x q hw), va_AO.moved hA h7, va_AO.moved hA h8, h9.imp (va_Z.moved hA) (va_Z.moved hA)⟩
theorem q_O.kept {G : q_G} {U : State} {H H1 : Heap} (h : q_O G U H) (hz : G.1 ≤ H.size) (hq : ∀ a : Nat, a < H.size → ¬ q_A G a → H1[a]? = H[a]?) : q_O G U H1 := by
  obtain ⟨h1, h2, h3, h4, h5, h6, h7, h8, h9⟩ := h
  exact ⟨h1, fun i hi => ⟨(h2 i hi).1.kept hq, (h2 i hi).2.1.kept hq, (h2 i hi).2.2.1.kept hq, (h2 i hi).2.2.2.kept hq⟩, h3.kept (hq _ (Nat.lt_of_lt_of_le h4 hz) (Nat.not_le.mpr h4)), h4, h5.kept hq, h6, h7, h8, h9.imp (fun h => h.kept hq) (fun h => h.kept hq)⟩
/-! entries -/
theorem q_ent_obj {G : q_G} {M : q_Mem} {N : q_MemL} {k ci nn : Nat} {vs : List Value} (h : ci < 20) : q_ent G M N k (ci, nn, vs) = .inr (ci, vs.mapIdx (q_fv G (M k))) := if_pos h
theorem q_ent_i {G : q_G} {M : q_Mem} {N : q_MemL} {k nn : Nat} {vs : List Value} : q_ent G M N k (20, nn, vs) = .inl (G.2.2.1 20, nn, .inl (fun j => zi (M k j))) := rfl
theorem q_ent_b {G : q_G} {M : q_Mem} {N : q_MemL} {k nn : Nat} {vs : List Value} : q_ent G M N k (21, nn, vs) = .inl (G.2.2.1 21, nn, .inl (fun j => zi (M k j))) := rfl
theorem q_ent_z {G : q_G} {M : q_Mem} {N : q_MemL} {k nn : Nat} {vs : List Value} : q_ent G M N k (22, nn, vs) = .inl (G.2.2.1 22, nn, .inl (fun j => zi (M k j))) := rfl
theorem q_ent_l {G : q_G} {M : q_Mem} {N : q_MemL} {k nn : Nat} {vs : List Value} : q_ent G M N k (23, nn, vs) = .inl (G.2.2.1 23, nn, .inr (.inl (N k))) := rfl
theorem q_ent_q {G : q_G} {M : q_Mem} {N : q_MemL} {k t nn : Nat} {vs : List Value} (h : 23 < t) : q_ent G M N k (t, nn, vs) = .inl (G.2.2.1 t, nn, .inr (.inr (.inr (.inr (fun j => (q_rf (vs.getD j .null)).map (q_ad G)))))) := by
  unfold q_ent
  rw [if_neg (by simp only; omega), if_neg (by simp only; omega), if_neg (by simp only; omega)]
theorem q_fs_get {G : q_G} {f : Nat → Int} {vs : List Value} {k : Nat} {v : Value} (h : vs[k]? = some v) : (vs.mapIdx (q_fv G f))[k]? = some (q_fv G f k v) := by
  simp [List.getElem?_mapIdx, h]
theorem q_fs_set {G : q_G} {f f' : Nat → Int} {vs : List Value} {k : Nat} {v : Value} (hf : ∀ j, j ≠ k → f' j = f j) (hk : k < vs.length) : (vs.mapIdx (q_fv G f)).set k (q_fv G f' k v) = (vs.set k v).mapIdx (q_fv G f') := by
  apply List.ext_getElem?
  intro i
  by_cases hi : i = k
  · subst hi
    rw [List.getElem?_set_self (by simpa using hk), q_fs_get (List.getElem?_set_self hk)]
  · rw [List.getElem?_set_ne (Ne.symm hi)]
    simp only [List.getElem?_mapIdx, List.getElem?_set_ne (Ne.symm hi)]
    cases vs[i]? with
    | none => rfl
    | some x => cases x <;> simp [q_fv, hf i hi]
/-- memory with one place written -/
def q_up (M : q_Mem) (a i : Nat) (z : Int) : q_Mem := fun a' i' => if a' = a ∧ i' = i then z else M a' i'
def q_upL (N : q_MemL) (a i : Nat) (z : Int64) : q_MemL := fun a' i' => if a' = a ∧ i' = i then z else N a' i'
theorem q_up_ne {M : q_Mem} {a i : Nat} {z : Int} {j : Nat} (h : j ≠ a) : q_up M a i z j = M j := by funext x; simp [q_up, h]
theorem q_upL_ne {N : q_MemL} {a i : Nat} {z : Int64} {j : Nat} (h : j ≠ a) : q_upL N a i z j = N j := by funext x; simp [q_upL, h]
theorem q_up_row {M : q_Mem} {a i : Nat} {z : Int} : (fun j => zi (q_up M a i z a j)) = upd (fun j => zi (M a j)) i (zi z) := by
  funext j
  by_cases h : j = i <;> simp [q_up, upd, h]
theorem q_R.wr {G : q_G} {S : q_Sh} {M M' : q_Mem} {N N' : q_MemL} {H H1 : Heap} {a : Nat} {e e' : q_Ent} (hR : q_R G S M N H) (hSa : S[a]? = some e) (hM : ∀ j, j ≠ a → M' j = M j) (hN : ∀ j, j ≠ a → N' j = N j)
    (hat : va_at G.2.1 vwCl (G.1 + a, q_ent G M' N' a e') H1) (z : H1.size = H.size) (oq : ∀ q : Nat, q ≠ G.1 + a → H1[q]? = H[q]?) : q_R G (S.set a e') M' N' H1 := by
  refine ⟨by rw [z, List.length_set]; exact hR.1, by rw [List.length_set]; exact hR.2.1, ?_⟩
  rw [← q_ws_set hSa hM hN]
  exact hR.2.2.set q_D (q_ws_get hSa) hat oq
/-! fields -/
def q_clok (c : vw_C) : Prop := (∀ w ∈ u_ws c.1 c.2.1 c.2.2, w ∈ q_W) ∧ (∀ a, a < c.2.2 → ∀ b, b < c.2.2 → a ≠ b → (c.2.1 a).2.1 ≠ (c.2.1 b).2.1) ∧ ∃ ty : Nat → FieldType, ∀ k, k < c.2.2 → parseFieldDescriptor (c.2.1 k).2.2.1 = some (ty k)
set_option maxRecDepth 100000 in
theorem q_clok0 : q_clok (RX0, TX0, 11) := ⟨by decide +kernel, nmX0, tyX0, tyX0_ok⟩
set_option maxRecDepth 100000 in
theorem q_clok1 : q_clok (RX1, TX1, 3) := ⟨by decide +kernel, nmX1, tyX1, tyX1_ok⟩
set_option maxRecDepth 100000 in
theorem q_clok2 : q_clok (RX2, TX2, 19) := ⟨by decide +kernel, nmX2, tyX2, tyX2_ok⟩
set_option maxRecDepth 100000 in
theorem q_clok3 : q_clok (RX3, TX3, 2) := ⟨by decide +kernel, nmX3, tyX3, tyX3_ok⟩
set_option maxRecDepth 100000 in
theorem q_clok4 : q_clok (RX4, TX4, 3) := ⟨by decide +kernel, nmX4, tyX4, tyX4_ok⟩
set_option maxRecDepth 100000 in
theorem q_clok5 : q_clok (RX5, TX5, 7) := ⟨by decide +kernel, nmX5, tyX5, tyX5_ok⟩
set_option maxRecDepth 100000 in
theorem q_clok6 : q_clok (RX6, TX6, 6) := ⟨by decide +kernel, nmX6, tyX6, tyX6_ok⟩
set_option maxRecDepth 100000 in
theorem q_clok7 : q_clok (RX7, TX7, 6) := ⟨by decide +kernel, nmX7, tyX7, tyX7_ok⟩
set_option maxRecDepth 100000 in
theorem q_clok8 : q_clok (RX8, TX8, 4) := ⟨by decide +kernel, nmX8, tyX8, tyX8_ok⟩
set_option maxRecDepth 100000 in
theorem q_clok9 : q_clok (RX9, TX9, 6) := ⟨by decide +kernel, nmX9, tyX9, tyX9_ok⟩
set_option maxRecDepth 100000 in
theorem q_clok10 : q_clok (RX10, TX10, 15) := ⟨by decide +kernel, nmX10, tyX10, tyX10_ok⟩
set_option maxRecDepth 100000 in
theorem q_clok11 : q_clok (RX11, TX11, 82) := ⟨by decide +kernel, nmX11, tyX11, tyX11_ok⟩
theorem q_cls {ci : Nat} {C : String} {T : u_T} {NF : Nat} (h : vwCl[ci]? = some (C, T, NF)) : ci < 20 ∧ q_clok (C, T, NF) := by
  have hl : ci < 12 := (List.getElem?_eq_some_iff.mp h).1
  refine ⟨by omega, ?_⟩
  have key : ∀ c ∈ vwCl, q_clok c := by
    intro c hc
    simp only [vwCl, List.mem_cons, List.not_mem_nil, or_false] at hc
    rcases hc with rfl | rfl | rfl | rfl | rfl | rfl | rfl | rfl | rfl | rfl | rfl | rfl
    · exact q_clok0
    · exact q_clok1
    · exact q_clok2
    · exact q_clok3
    · exact q_clok4
    · exact q_clok5
    · exact q_clok6
    · exact q_clok7
    · exact q_clok8
    · exact q_clok9
    · exact q_clok10
    · exact q_clok11
  exact key _ (List.mem_of_getElem? h)
theorem st_getfi {G : q_G} {d : Nat} {μ : q_M} {pc : Nat} {L : List (Option Value)} {st : List Value} {S : q_Sh} {M : q_Mem} {N : q_MemL} {k n : Nat} {Q : q_Q} {z : Int32} {a idx ci x nn : Nat} {vs : List Value} (hd : decode μ.2.1 pc = .ok (.getfield idx, 3)) (hf : q_fk μ.1.cls idx ci x) (hSa : S[a]? = some (ci, nn, vs)) (hv : vs[x]? = some (.int z)) (kk : AW G d μ (pc + 3) L (I (M a x) :: st) S M N k n Q) : AW G d μ pc L (.ref a :: st) S M N k n Q := by
  refine AW.op (fun p e R s m args below meth c Z H locs ls cells slots C hR hS hL kw => ?_) kk
  obtain ⟨Cn, T, NF, hc, hk, hl⟩ := hf
  obtain ⟨hci, hin, -⟩ := q_cls hc
  have hg := q_ws_get (G := G) (M := M) (N := N) hSa
  rw [q_ent_obj hci] at hg
  show W _ _ _ _ _ _ _ _ _ _ _ _ _ _ _ (F0 m pc ls (.ref (q_ad G a) :: st.map (q_cv G)))
  rw [q_ad_new (hR.lt hSa)]
  exact va_get (D := G.2.1) C.1 C.2.1 (Ts := q_W) C.2.2.2.2.1 hin C.2.2.2.1 C.2.2.2.2.2.1 hR.2.2 a hg hc x hk (C.2.2.2.2.1 _ hl) (fun _ h => h) (q_fs_get hv) hd kw
theorem st_getfr {G : q_G} {d : Nat} {μ : q_M} {pc : Nat} {L : List (Option Value)} {st : List Value} {S : q_Sh} {M : q_Mem} {N : q_MemL} {k n : Nat} {Q : q_Q} {r : Nat} {a idx ci x nn : Nat} {vs : List Value} (hd : decode μ.2.1 pc = .ok (.getfield idx, 3)) (hf : q_fk μ.1.cls idx ci x) (hSa : S[a]? = some (ci, nn, vs)) (hv : vs[x]? = some (.ref r)) (kk : AW G d μ (pc + 3) L (.ref r :: st) S M N k n Q) : AW G d μ pc L (.ref a :: st) S M N k n Q := by
  refine AW.op (fun p e R s m args below meth c Z H locs ls cells slots C hR hS hL kw => ?_) kk
  obtain ⟨Cn, T, NF, hc, hk, hl⟩ := hf
  obtain ⟨hci, hin, -⟩ := q_cls hc
  have hg := q_ws_get (G := G) (M := M) (N := N) hSa
  rw [q_ent_obj hci] at hg
  show W _ _ _ _ _ _ _ _ _ _ _ _ _ _ _ (F0 m pc ls (.ref (q_ad G a) :: st.map (q_cv G)))
  rw [q_ad_new (hR.lt hSa)]
  exact va_get (D := G.2.1) C.1 C.2.1 (Ts := q_W) C.2.2.2.2.1 hin C.2.2.2.1 C.2.2.2.2.2.1 hR.2.2 a hg hc x hk (C.2.2.2.2.1 _ hl) (fun _ h => h) (q_fs_get hv) hd kw
theorem st_getfn {G : q_G} {d : Nat} {μ : q_M} {pc : Nat} {L : List (Option Value)} {st : List Value} {S : q_Sh} {M : q_Mem} {N : q_MemL} {k n : Nat} {Q : q_Q}  {a idx ci x nn : Nat} {vs : List Value} (hd : decode μ.2.1 pc = .ok (.getfield idx, 3)) (hf : q_fk μ.1.cls idx ci x) (hSa : S[a]? = some (ci, nn, vs)) (hv : vs[x]? = some .null) (kk : AW G d μ (pc + 3) L (.null :: st) S M N k n Q) : AW G d μ pc L (.ref a :: st) S M N k n Q := by
  refine AW.op (fun p e R s m args below meth c Z H locs ls cells slots C hR hS hL kw => ?_) kk
  obtain ⟨Cn, T, NF, hc, hk, hl⟩ := hf
  obtain ⟨hci, hin, -⟩ := q_cls hc
  have hg := q_ws_get (G := G) (M := M) (N := N) hSa
  rw [q_ent_obj hci] at hg
  show W _ _ _ _ _ _ _ _ _ _ _ _ _ _ _ (F0 m pc ls (.ref (q_ad G a) :: st.map (q_cv G)))
  rw [q_ad_new (hR.lt hSa)]
  exact va_get (D := G.2.1) C.1 C.2.1 (Ts := q_W) C.2.2.2.2.1 hin C.2.2.2.1 C.2.2.2.2.2.1 hR.2.2 a hg hc x hk (C.2.2.2.2.1 _ hl) (fun _ h => h) (q_fs_get hv) hd kw
theorem st_putfi {G : q_G} {d : Nat} {μ : q_M} {pc : Nat} {L : List (Option Value)} {st : List Value} {S : q_Sh} {M : q_Mem} {N : q_MemL} {k n : Nat} {Q : q_Q} {a idx ci x nn : Nat} {vs : List Value} {z0 : Int32} {z : Int} {ty : FieldType} (hd : decode μ.2.1 pc = .ok (.putfield idx, 3)) (hf : q_fw μ.1.cls idx ci x ty) (hSa : S[a]? = some (ci, nn, vs)) (hv : vs[x]? = some (.int z0)) (hn : narrow ty (I z) = I z) (hfit : fits ty (I z) = true) (kk : AW G d μ (pc + 3) L st S (q_up M a x z) N k n Q) : AW G d μ pc L (I z :: .ref a :: st) S M N k n Q := by
  intro p e R s m args below meth c Z H locs ls cells slots C hR hS hL hcl hso hret
  obtain ⟨Cn, T, NF, hc, hk, hl, hfin, hty⟩ := hf
  obtain ⟨hci, hin, hnm, tyN, htyN⟩ := q_cls hc
  have hg := q_ws_get (G := G) (M := M) (N := N) hSa
  rw [q_ent_obj hci] at hg
  show W _ _ _ _ _ _ _ _ _ _ _ _ _ _ _ (F0 m pc ls (I z :: .ref (q_ad G a) :: st.map (q_cv G)))
  rw [q_ad_new (hR.lt hSa)]
  obtain ⟨hS9, hfc, kC, hkC, hkind⟩ := C.2.2.2.2.2.1.1 ci _ hc
  obtain ⟨cf, kf, fi, f, hi, hsl⟩ := hS9 x hk
  have hap := va_apart (own := μ.1.cls) C.2.2.2.2.1 hin tyN htyN hnm C.2.2.2.2.2.1 hc
  obtain ⟨r, h1, cell, q1, q2, q3, q4⟩ := hR.2.2 a _ hg
  have hr : r = (Cn, T, NF) := Option.some.inj (h1.symm.trans hc)
  subst hr
  have hst := (u_facts hfc hkC (u_lays C.2.2.2.2.1 hin hk) hi).1
  have hlay := C.2.2.2.2.1 _ (hin _ (u_in_lay hk))
  unfold u_lay at hlay
  rw [if_neg (by rw [hfin]; decide)] at hlay
  have h6 := u_store hfc hkC hkind hlay hi hty hn hfit
  refine W.putK C.1 C.2.1 (f := f) ⟨C.2.2.2.1, C.2.2.2.2.1 _ hl, ⟨_, _, _, hi⟩, hst⟩ (by rw [q2]; exact h6) q1 q3 (by rw [hsl]; exact k2_hasslot (q4 x hk)) rfl rfl hd fun H1 e1 e2 e3 => ?_
  rw [hsl] at e1 ⊢
  have hxl : x < vs.length := (List.getElem?_eq_some_iff.mp hv).1
  have hR1 := hR.wr (M' := q_up M a x z) (N' := N) (e' := (ci, nn, vs)) (H1 := H1) hSa (fun j hj => q_up_ne hj) (fun _ _ => rfl) (by
    rw [q_ent_obj hci]
    refine ⟨_, hc, t_OB.to (V := updV (vp_V (vs.mapIdx (q_fv G (M a)))) x (I z)) ⟨_, e1, q2, q3, t_set q4 hap hk (I z)⟩ (fun j _ => ?_)⟩
    have e : (vs.mapIdx (q_fv G (M a))).set x (I z) = vs.mapIdx (q_fv G (q_up M a x z a)) := by
      have h := q_fs_set (G := G) (f := M a) (f' := q_up M a x z a) (vs := vs) (k := x) (v := .int z0) (fun j hj => by simp [q_up, hj]) hxl
      rw [show q_fv G (q_up M a x z a) x (.int z0) = I z by simp [q_fv, q_up]] at h
      rw [h]
      congr 1
      apply List.ext_getElem?
      intro i
      by_cases hi9 : i = x
      · subst hi9; rw [List.getElem?_set_self hxl, hv]
      · rw [List.getElem?_set_ne (Ne.symm hi9)]
    rw [← e]
    exact vp_updV_set (by simpa using hxl) _ j) e2 e3
  rw [q_set_id hSa] at hR1
  exact kk p e R s m args below meth c Z H1 _ ls cells slots C hR1 (hS.put e2 e3 (Nat.le_add_right _ _)) hL hcl hso hret
theorem st_putff {G : q_G} {d : Nat} {μ : q_M} {pc : Nat} {L : List (Option Value)} {st : List Value} {S : q_Sh} {M : q_Mem} {N : q_MemL} {k n : Nat} {Q : q_Q} {a idx ci x nn r : Nat} {vs : List Value} {v0 : Value} {ty : FieldType} (hd : decode μ.2.1 pc = .ok (.putfield idx, 3)) (hf : q_ff μ.1.cls idx ci x ty) (hin2 : μ.1.name = "<init>") (hSa : S[a]? = some (ci, nn, vs)) (hv : vs[x]? = some v0) (hn : ∀ q : Nat, narrow ty (.ref q) = .ref q) (hfit : ∀ q : Nat, fits ty (.ref q) = true) (kk : AW G d μ (pc + 3) L st (S.set a (ci, nn, vs.set x (.ref r))) M N k n Q) : AW G d μ pc L (.ref r :: .ref a :: st) S M N k n Q := by
  intro p e R s m args below meth c Z H locs ls cells slots C hR hS hL hcl hso hret
  obtain ⟨Cn, T, NF, hc, hk, hl, hfin, hty, hdecl⟩ := hf
  obtain ⟨hci, hin, hnm, tyN, htyN⟩ := q_cls hc
  have hg := q_ws_get (G := G) (M := M) (N := N) hSa
  rw [q_ent_obj hci] at hg
  show W _ _ _ _ _ _ _ _ _ _ _ _ _ _ _ (F0 m pc ls (.ref (q_ad G r) :: .ref (q_ad G a) :: st.map (q_cv G)))
  rw [q_ad_new (hR.lt hSa)]
  obtain ⟨hS9, hfc, kC, hkC, hkind⟩ := C.2.2.2.2.2.1.1 ci _ hc
  obtain ⟨cf, kf, fi, f, hi, hsl⟩ := hS9 x hk
  have hap := va_apart (own := μ.1.cls) C.2.2.2.2.1 hin tyN htyN hnm C.2.2.2.2.2.1 hc
  obtain ⟨r, h1, cell, q1, q2, q3, q4⟩ := hR.2.2 a _ hg
  have hr : r = (Cn, T, NF) := Option.some.inj (h1.symm.trans hc)
  subst hr
  have hst := (u_facts hfc hkC (u_lays C.2.2.2.2.1 hin hk) hi).1
  have hlay := C.2.2.2.2.1 _ (hin _ (u_in_lay hk))
  unfold u_lay at hlay
  rw [if_pos hfin] at hlay
  have hcf : m.cls = cf := by
    obtain ⟨_, _, c', _, _, _, -, -, hf', -, -, -, hown2, -⟩ := Cond.laysFinal_spec hlay
    have e1 : c' = cf := by have := hi.symm.trans hf'; simp at this; exact this.1.symm
    rw [hdecl] at hown2
    rw [← e1]; exact Option.some.inj (C.2.2.2.1.symm.trans hown2)
  have hSt := u_fits hfc hkC hkind (Or.inr hlay) hi hty (hn (q_ad G r)) (hfit (q_ad G r))
  refine W.putFinK C.1 C.2.1 C.2.2.2.1 (C.2.2.2.2.1 _ hl) hi hst hcf (by rw [C.2.2.2.2.2.2.2.2.2.2.1]; exact hin2) (by rw [q2]; exact hSt) q1 q3 (by rw [hsl]; exact k2_hasslot (q4 x hk)) rfl rfl hd fun H1 e1 e2 e3 => ?_
  rw [hsl] at e1 ⊢
  have hxl : x < vs.length := (List.getElem?_eq_some_iff.mp hv).1
  have hR1 := hR.wr (M' := M) (N' := N) (e' := (ci, nn, vs.set x (.ref r))) (H1 := H1) hSa (fun _ _ => rfl) (fun _ _ => rfl) (by
    rw [q_ent_obj hci]
    refine ⟨_, hc, t_OB.to (V := updV (vp_V (vs.mapIdx (q_fv G (M a)))) x (.ref (q_ad G r))) ⟨_, e1, q2, q3, t_set q4 hap hk (.ref (q_ad G r))⟩ (fun j _ => ?_)⟩
    rw [← q_fs_set (f := M a) (fun _ _ => rfl) hxl]
    exact vp_updV_set (by simpa using hxl) _ j) e2 e3
  exact kk p e R s m args below meth c Z H1 _ ls cells slots C hR1 (hS.put e2 e3 (Nat.le_add_right _ _)) hL hcl hso hret

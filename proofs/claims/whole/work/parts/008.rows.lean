/-! arrays -/
theorem q_in {j : Int} {nn : Nat} (h0 : 0 ≤ j) (h1 : j < nn) (hn : nn < 2147483648) : vp_in (zi j) nn := vp_in_iff.mpr ⟨by rw [zi_toInt (by omega)]; exact h0, by rw [zi_toInt (by omega)]; exact h1⟩
theorem q_cl {j : Int} {nn : Nat} (h0 : 0 ≤ j) (h1 : j < nn) (hn : nn < 2147483648) : (zi j).toNatClampNeg = j.toNat := zi_clamp (by omega)
theorem st_iald {G : q_G} {d : Nat} {μ : q_M} {pc : Nat} {L : List (Option Value)} {st : List Value} {S : q_Sh} {M : q_Mem} {N : q_MemL} {k n : Nat} {Q : q_Q} {a nn : Nat} {vs : List Value} {j : Int} (hd : decode μ.2.1 pc = .ok (.iaload, 1)) (hSa : S[a]? = some (20, nn, vs)) (h0 : 0 ≤ j) (h1 : j < nn) (kk : AW G d μ (pc + 1) L (I (M a j.toNat) :: st) S M N k n Q) (hn : nn < 2147483648 := by decide) : AW G d μ pc L (I j :: .ref a :: st) S M N k n Q := by
  refine AW.op (fun p e R s m args below meth c Z H locs ls cells slots C hR hS hL kw => ?_) kk
  have hg := q_ws_get (G := G) (M := M) (N := N) hSa
  rw [q_ent_i] at hg
  show W _ _ _ _ _ _ _ _ _ _ _ _ _ _ _ (F0 m pc ls (.int (zi j) :: .ref (q_ad G a) :: st.map (q_cv G)))
  rw [q_ad_new (hR.lt hSa)]
  refine va_iald C.1 C.2.1 C.2.2.2.2.2.1 hR.2.2 a 0 hg rfl (q_in h0 h1 hn) hd ?_
  rw [q_cl h0 h1 hn]
  exact kw
theorem st_bald {G : q_G} {d : Nat} {μ : q_M} {pc : Nat} {L : List (Option Value)} {st : List Value} {S : q_Sh} {M : q_Mem} {N : q_MemL} {k n : Nat} {Q : q_Q} {a nn : Nat} {vs : List Value} {j : Int} (hd : decode μ.2.1 pc = .ok (.baload, 1)) (hSa : S[a]? = some (21, nn, vs)) (h0 : 0 ≤ j) (h1 : j < nn) (kk : AW G d μ (pc + 1) L (I (M a j.toNat) :: st) S M N k n Q) (hn : nn < 2147483648 := by decide) : AW G d μ pc L (I j :: .ref a :: st) S M N k n Q := by
  refine AW.op (fun p e R s m args below meth c Z H locs ls cells slots C hR hS hL kw => ?_) kk
  have hg := q_ws_get (G := G) (M := M) (N := N) hSa
  rw [q_ent_b] at hg
  show W _ _ _ _ _ _ _ _ _ _ _ _ _ _ _ (F0 m pc ls (.int (zi j) :: .ref (q_ad G a) :: st.map (q_cv G)))
  rw [q_ad_new (hR.lt hSa)]
  refine va_bald C.1 C.2.1 C.2.2.2.2.2.1 hR.2.2 a 1 hg rfl (q_in h0 h1 hn) hd ?_
  rw [q_cl h0 h1 hn]
  exact kw
theorem st_zald {G : q_G} {d : Nat} {μ : q_M} {pc : Nat} {L : List (Option Value)} {st : List Value} {S : q_Sh} {M : q_Mem} {N : q_MemL} {k n : Nat} {Q : q_Q} {a nn : Nat} {vs : List Value} {j : Int} (hd : decode μ.2.1 pc = .ok (.baload, 1)) (hSa : S[a]? = some (22, nn, vs)) (h0 : 0 ≤ j) (h1 : j < nn) (kk : AW G d μ (pc + 1) L (I (M a j.toNat) :: st) S M N k n Q) (hn : nn < 2147483648 := by decide) : AW G d μ pc L (I j :: .ref a :: st) S M N k n Q := by
  refine AW.op (fun p e R s m args below meth c Z H locs ls cells slots C hR hS hL kw => ?_) kk
  have hg := q_ws_get (G := G) (M := M) (N := N) hSa
  rw [q_ent_z] at hg
  show W _ _ _ _ _ _ _ _ _ _ _ _ _ _ _ (F0 m pc ls (.int (zi j) :: .ref (q_ad G a) :: st.map (q_cv G)))
  rw [q_ad_new (hR.lt hSa)]
  refine va_zald C.1 C.2.1 C.2.2.2.2.2.1 hR.2.2 a 2 hg rfl (q_in h0 h1 hn) hd ?_
  rw [q_cl h0 h1 hn]
  exact kw
theorem st_lald {G : q_G} {d : Nat} {μ : q_M} {pc : Nat} {L : List (Option Value)} {st : List Value} {S : q_Sh} {M : q_Mem} {N : q_MemL} {k n : Nat} {Q : q_Q} {a nn : Nat} {vs : List Value} {j : Int} (hd : decode μ.2.1 pc = .ok (.laload, 1)) (hSa : S[a]? = some (23, nn, vs)) (h0 : 0 ≤ j) (h1 : j < nn) (kk : AW G d μ (pc + 1) L (.long (N a j.toNat) :: st) S M N k n Q) (hn : nn < 2147483648 := by decide) : AW G d μ pc L (I j :: .ref a :: st) S M N k n Q := by
  refine AW.op (fun p e R s m args below meth c Z H locs ls cells slots C hR hS hL kw => ?_) kk
  have hg := q_ws_get (G := G) (M := M) (N := N) hSa
  rw [q_ent_l] at hg
  show W _ _ _ _ _ _ _ _ _ _ _ _ _ _ _ (F0 m pc ls (.int (zi j) :: .ref (q_ad G a) :: st.map (q_cv G)))
  rw [q_ad_new (hR.lt hSa)]
  refine va_lald C.1 C.2.1 C.2.2.2.2.2.1 hR.2.2 a 3 hg rfl (q_in h0 h1 hn) hd ?_
  rw [q_cl h0 h1 hn]
  exact kw
theorem st_alen {G : q_G} {d : Nat} {μ : q_M} {pc : Nat} {L : List (Option Value)} {st : List Value} {S : q_Sh} {M : q_Mem} {N : q_MemL} {k n : Nat} {Q : q_Q} {a t nn : Nat} {vs : List Value} (hd : decode μ.2.1 pc = .ok (.arraylength, 1)) (hSa : S[a]? = some (t, nn, vs)) (ht : 20 ≤ t ∧ t ≤ 25) (kk : AW G d μ (pc + 1) L (I nn :: st) S M N k n Q) : AW G d μ pc L (.ref a :: st) S M N k n Q := by
  refine AW.op (fun p e R s m args below meth c Z H locs ls cells slots C hR hS hL kw => ?_) kk
  have hg := q_ws_get (G := G) (M := M) (N := N) hSa
  show W _ _ _ _ _ _ _ _ _ _ _ _ _ _ _ (F0 m pc ls (.ref (q_ad G a) :: st.map (q_cv G)))
  rw [q_ad_new (hR.lt hSa)]
  have hx : ∃ x : vp_A, q_ent G M N a (t, nn, vs) = .inl (G.2.2.1 t, x) ∧ x.1 = nn := by
    have h9 : t = 20 ∨ t = 21 ∨ t = 22 ∨ t = 23 ∨ t = 24 ∨ t = 25 := by omega
    rcases h9 with rfl | rfl | rfl | rfl | rfl | rfl
    · exact ⟨_, q_ent_i, rfl⟩
    · exact ⟨_, q_ent_b, rfl⟩
    · exact ⟨_, q_ent_z, rfl⟩
    · exact ⟨_, q_ent_l, rfl⟩
    · exact ⟨_, q_ent_q (by decide), rfl⟩
    · exact ⟨_, q_ent_q (by decide), rfl⟩
  obtain ⟨x, hx1, hx2⟩ := hx
  rw [hx1] at hg
  have htt : ∃ ty, (q_tys G)[t - 20]? = some (G.2.2.1 t, ty) := by
    have h9 : t = 20 ∨ t = 21 ∨ t = 22 ∨ t = 23 ∨ t = 24 ∨ t = 25 := by omega
    rcases h9 with rfl | rfl | rfl | rfl | rfl | rfl <;> exact ⟨_, rfl⟩
  obtain ⟨ty, htt⟩ := htt
  exact va_alen C.1 C.2.1 C.2.2.2.2.2.1 hR.2.2 a (t - 20) hg htt (v := zi nn) (by rw [hx2]; exact Int32.ofInt_eq_ofNat.symm) hd kw
theorem st_aald {G : q_G} {d : Nat} {μ : q_M} {pc : Nat} {L : List (Option Value)} {st : List Value} {S : q_Sh} {M : q_Mem} {N : q_MemL} {k n : Nat} {Q : q_Q} {a t nn r : Nat} {vs : List Value} {j : Int} (hd : decode μ.2.1 pc = .ok (.aaload, 1)) (hSa : S[a]? = some (t, nn, vs)) (ht : t = 24 ∨ t = 25) (h0 : 0 ≤ j) (h1 : j < nn) (hv : vs.getD j.toNat .null = .ref r) (kk : AW G d μ (pc + 1) L (.ref r :: st) S M N k n Q) (hn : nn < 2147483648 := by decide) : AW G d μ pc L (I j :: .ref a :: st) S M N k n Q := by
  refine AW.op (fun p e R s m args below meth c Z H locs ls cells slots C hR hS hL kw => ?_) kk
  have hg := q_ws_get (G := G) (M := M) (N := N) hSa
  rw [q_ent_q (by omega)] at hg
  show W _ _ _ _ _ _ _ _ _ _ _ _ _ _ _ (F0 m pc ls (.int (zi j) :: .ref (q_ad G a) :: st.map (q_cv G)))
  rw [q_ad_new (hR.lt hSa)]
  have htt : ∃ Cn, (q_tys G)[t - 20]? = some (G.2.2.1 t, .object Cn) := by
    rcases ht with rfl | rfl <;> exact ⟨_, rfl⟩
  obtain ⟨Cn, htt⟩ := htt
  refine va_aldq C.1 C.2.1 C.2.2.2.2.2.1 hR.2.2 a (t - 20) hg htt (q_in h0 h1 hn) hd ?_
  rw [q_cl h0 h1 hn, hv]
  exact kw
theorem st_iast {G : q_G} {d : Nat} {μ : q_M} {pc : Nat} {L : List (Option Value)} {st : List Value} {S : q_Sh} {M : q_Mem} {N : q_MemL} {k n : Nat} {Q : q_Q} {a nn : Nat} {vs : List Value} {j z : Int} (hd : decode μ.2.1 pc = .ok (.iastore, 1)) (hSa : S[a]? = some (20, nn, vs)) (h0 : 0 ≤ j) (h1 : j < nn) (kk : AW G d μ (pc + 1) L st S (q_up M a j.toNat z) N k n Q) (hn : nn < 2147483648 := by decide) : AW G d μ pc L (I z :: I j :: .ref a :: st) S M N k n Q := by
  intro p e R s m args below meth c Z H locs ls cells slots C hR hS hL hcl hso hret
  have hg := q_ws_get (G := G) (M := M) (N := N) hSa
  rw [q_ent_i] at hg
  show W _ _ _ _ _ _ _ _ _ _ _ _ _ _ _ (F0 m pc ls (.int (zi z) :: .int (zi j) :: .ref (q_ad G a) :: st.map (q_cv G)))
  rw [q_ad_new (hR.lt hSa)]
  refine W.iast C.1 C.2.1 (hR.2.2 a _ hg) ((C.2.2.2.2.2.1.2 0 _ rfl).1 nn (fun j => .int (zi (M a j)))) (fun q => by cases q) (by show ¬ (_ < 0 ∨ (arrV _ _ _).slots.size ≤ _); rw [arrV_size]; exact q_in h0 h1 hn) rfl rfl hd fun H1 e1 e2 e3 => ?_
  have hR1 := hR.wr (M' := q_up M a j.toNat z) (N' := N) (e' := (20, nn, vs)) (H1 := H1) hSa (fun j hj => q_up_ne hj) (fun _ _ => rfl) (by
    rw [q_ent_i]
    show H1[G.1 + a]? = some (vp_cell _ _)
    rw [e1, q_cl h0 h1 hn, vp_cell_i, vp_cell_i, arrV_store]
    congr 2
    funext q
    by_cases hq : q = j.toNat
    · subst hq; simp [updV, q_up]
    · simp [updV, q_up, hq]) e2 e3
  rw [q_set_id hSa] at hR1
  exact kk p e R s m args below meth c Z H1 _ ls cells slots C hR1 (hS.put e2 e3 (Nat.le_add_right _ _)) hL hcl hso hret
theorem st_bast {G : q_G} {d : Nat} {μ : q_M} {pc : Nat} {L : List (Option Value)} {st : List Value} {S : q_Sh} {M : q_Mem} {N : q_MemL} {k n : Nat} {Q : q_Q} {a nn : Nat} {vs : List Value} {j z : Int} (hd : decode μ.2.1 pc = .ok (.bastore, 1)) (hSa : S[a]? = some (21, nn, vs)) (h0 : 0 ≤ j) (h1 : j < nn) (hz : narrow .byte (I z) = I z) (kk : AW G d μ (pc + 1) L st S (q_up M a j.toNat z) N k n Q) (hn : nn < 2147483648 := by decide) : AW G d μ pc L (I z :: I j :: .ref a :: st) S M N k n Q := by
  intro p e R s m args below meth c Z H locs ls cells slots C hR hS hL hcl hso hret
  have hg := q_ws_get (G := G) (M := M) (N := N) hSa
  rw [q_ent_b] at hg
  show W _ _ _ _ _ _ _ _ _ _ _ _ _ _ _ (F0 m pc ls (.int (zi z) :: .int (zi j) :: .ref (q_ad G a) :: st.map (q_cv G)))
  rw [q_ad_new (hR.lt hSa)]
  refine W.bast C.1 C.2.1 (hR.2.2 a _ hg) ((C.2.2.2.2.2.1.2 1 _ rfl).1 nn (fun j => .int (zi (M a j)))) (fun q => by cases q) (by show ¬ (_ < 0 ∨ (arrV _ _ _).slots.size ≤ _); rw [arrV_size]; exact q_in h0 h1 hn) rfl rfl hd fun H1 e1 e2 e3 => ?_
  have hz9 : narrow .byte (.int (zi z)) = .int (zi z) := hz
  rw [hz9] at e1
  have hR1 := hR.wr (M' := q_up M a j.toNat z) (N' := N) (e' := (21, nn, vs)) (H1 := H1) hSa (fun j hj => q_up_ne hj) (fun _ _ => rfl) (by
    rw [q_ent_b]
    show H1[G.1 + a]? = some (vp_cell _ _)
    rw [e1, q_cl h0 h1 hn, vp_cell_i, vp_cell_i, arrV_store]
    congr 2
    funext q
    by_cases hq : q = j.toNat
    · subst hq; simp [updV, q_up]
    · simp [updV, q_up, hq]) e2 e3
  rw [q_set_id hSa] at hR1
  exact kk p e R s m args below meth c Z H1 _ ls cells slots C hR1 (hS.put e2 e3 (Nat.le_add_right _ _)) hL hcl hso hret
theorem st_zast {G : q_G} {d : Nat} {μ : q_M} {pc : Nat} {L : List (Option Value)} {st : List Value} {S : q_Sh} {M : q_Mem} {N : q_MemL} {k n : Nat} {Q : q_Q} {a nn : Nat} {vs : List Value} {j z : Int} (hd : decode μ.2.1 pc = .ok (.bastore, 1)) (hSa : S[a]? = some (22, nn, vs)) (h0 : 0 ≤ j) (h1 : j < nn) (hz : narrow .boolean (I z) = I z) (kk : AW G d μ (pc + 1) L st S (q_up M a j.toNat z) N k n Q) (hn : nn < 2147483648 := by decide) : AW G d μ pc L (I z :: I j :: .ref a :: st) S M N k n Q := by
  intro p e R s m args below meth c Z H locs ls cells slots C hR hS hL hcl hso hret
  have hg := q_ws_get (G := G) (M := M) (N := N) hSa
  rw [q_ent_z] at hg
  show W _ _ _ _ _ _ _ _ _ _ _ _ _ _ _ (F0 m pc ls (.int (zi z) :: .int (zi j) :: .ref (q_ad G a) :: st.map (q_cv G)))
  rw [q_ad_new (hR.lt hSa)]
  refine W.zast C.1 C.2.1 (hR.2.2 a _ hg) ((C.2.2.2.2.2.1.2 2 _ rfl).1 nn (fun j => .int (zi (M a j)))) (fun q => by cases q) (by show ¬ (_ < 0 ∨ (arrV _ _ _).slots.size ≤ _); rw [arrV_size]; exact q_in h0 h1 hn) rfl rfl hd fun H1 e1 e2 e3 => ?_
  have hz9 : narrow .boolean (.int (zi z)) = .int (zi z) := hz
  rw [hz9] at e1
  have hR1 := hR.wr (M' := q_up M a j.toNat z) (N' := N) (e' := (22, nn, vs)) (H1 := H1) hSa (fun j hj => q_up_ne hj) (fun _ _ => rfl) (by
    rw [q_ent_z]
    show H1[G.1 + a]? = some (vp_cell _ _)
    rw [e1, q_cl h0 h1 hn, vp_cell_i, vp_cell_i, arrV_store]
    congr 2
    funext q
    by_cases hq : q = j.toNat
    · subst hq; simp [updV, q_up]
    · simp [updV, q_up, hq]) e2 e3
  rw [q_set_id hSa] at hR1
  exact kk p e R s m args below meth c Z H1 _ ls cells slots C hR1 (hS.put e2 e3 (Nat.le_add_right _ _)) hL hcl hso hret
theorem st_last {G : q_G} {d : Nat} {μ : q_M} {pc : Nat} {L : List (Option Value)} {st : List Value} {S : q_Sh} {M : q_Mem} {N : q_MemL} {k n : Nat} {Q : q_Q} {a nn : Nat} {vs : List Value} {j : Int} {z : Int64} (hd : decode μ.2.1 pc = .ok (.lastore, 1)) (hSa : S[a]? = some (23, nn, vs)) (h0 : 0 ≤ j) (h1 : j < nn) (kk : AW G d μ (pc + 1) L st S M (q_upL N a j.toNat z) k n Q) (hn : nn < 2147483648 := by decide) : AW G d μ pc L (.long z :: I j :: .ref a :: st) S M N k n Q := by
  intro p e R s m args below meth c Z H locs ls cells slots C hR hS hL hcl hso hret
  have hg := q_ws_get (G := G) (M := M) (N := N) hSa
  rw [q_ent_l] at hg
  show W _ _ _ _ _ _ _ _ _ _ _ _ _ _ _ (F0 m pc ls (.long z :: .int (zi j) :: .ref (q_ad G a) :: st.map (q_cv G)))
  rw [q_ad_new (hR.lt hSa)]
  refine W.last C.1 C.2.1 (hR.2.2 a _ hg) ((C.2.2.2.2.2.1.2 3 _ rfl).1 nn (fun j => .long (N a j))) (fun q => by cases q) (by show ¬ (_ < 0 ∨ (arrV _ _ _).slots.size ≤ _); rw [arrV_size]; exact q_in h0 h1 hn) rfl rfl hd fun H1 e1 e2 e3 => ?_
  have hR1 := hR.wr (M' := M) (N' := q_upL N a j.toNat z) (e' := (23, nn, vs)) (H1 := H1) hSa (fun _ _ => rfl) (fun j hj => q_upL_ne hj) (by
    rw [q_ent_l]
    show H1[G.1 + a]? = some (vp_cell _ _)
    rw [e1, q_cl h0 h1 hn, vp_cell_l, vp_cell_l, arrV_store]
    congr 2
    funext q
    by_cases hq : q = j.toNat
    · subst hq; simp [updV, q_upL]
    · simp [updV, q_upL, hq]) e2 e3
  rw [q_set_id hSa] at hR1
  exact kk p e R s m args below meth c Z H1 _ ls cells slots C hR1 (hS.put e2 e3 (Nat.le_add_right _ _)) hL hcl hso hret
theorem st_aast {G : q_G} {d : Nat} {μ : q_M} {pc : Nat} {L : List (Option Value)} {st : List Value} {S : q_Sh} {M : q_Mem} {N : q_MemL} {k n : Nat} {Q : q_Q} {a t nn v ci nv : Nat} {vs vv : List Value} {j : Int} {Cn : String} {T : u_T} {NF : Nat} (hd : decode μ.2.1 pc = .ok (.aastore, 1)) (hSa : S[a]? = some (t, nn, vs)) (hSv : S[v]? = some (ci, nv, vv)) (ht : 23 < t) (htt : (q_tys G)[t - 20]? = some (G.2.2.1 t, .object Cn)) (hc : vwCl[ci]? = some (Cn, T, NF)) (h0 : 0 ≤ j) (h1 : j < nn) (hlen : vs.length = nn) (kk : AW G d μ (pc + 1) L st (S.set a (t, nn, vs.set j.toNat (.ref v))) M N k n Q) (hn : nn < 2147483648 := by decide) : AW G d μ pc L (.ref v :: I j :: .ref a :: st) S M N k n Q := by
  intro p e R s m args below meth c Z H locs ls cells slots C hR hS hL hcl hso hret
  have hg := q_ws_get (G := G) (M := M) (N := N) hSa
  rw [q_ent_q ht] at hg
  have hgv := q_ws_get (G := G) (M := M) (N := N) hSv
  rw [q_ent_obj (q_cls hc).1] at hgv
  show W _ _ _ _ _ _ _ _ _ _ _ _ _ _ _ (F0 m pc ls (.ref (q_ad G v) :: .int (zi j) :: .ref (q_ad G a) :: st.map (q_cv G)))
  rw [q_ad_new (hR.lt hSa), q_ad_new (hR.lt hSv)]
  have hin := q_in h0 h1 hn
  obtain ⟨r', hr', cellV, g1, g2, g3, -⟩ := hR.2.2 v _ hgv
  have hcls := (C.2.2.2.2.2.1.1 ci _ hc).2
  obtain ⟨kA, comp, k1, k2, k3, -⟩ := (C.2.2.2.2.2.1.2 (t - 20) _ htt).2
  have hcomp : comp = G.2.1.1 ci := Option.some.inj (k3.symm.trans hcls.1)
  subst hcomp
  obtain ⟨kC, hkC, -⟩ := hcls.2
  refine W.aast C.1 C.2.1 (hR.2.2 a _ hg) (fun q h => by cases h) (fun h => by cases h) k1 k2 rfl hkC ⟨fun q => hin (Or.inl q), by show _ < (arrV _ _ _).slots.size; rw [arrV_size]; exact Nat.not_le.mp fun q => hin (Or.inr q)⟩ g1 (fun q h => by rw [g3] at h; cases h) (by rw [g2]; exact hkC) (by rw [g2]; exact va_assign hcls) rfl rfl hd fun H1 e1 e2 e3 => ?_
  have hR1 := hR.wr (M' := M) (N' := N) (e' := (t, nn, vs.set j.toNat (.ref v))) (H1 := H1) hSa (fun _ _ => rfl) (fun _ _ => rfl) (by
    rw [q_ent_q ht]
    show H1[G.1 + a]? = some (vp_cell _ _)
    rw [e1, q_cl h0 h1 hn, vp_cell_q, vp_cell_q, arrV_store]
    congr 2
    funext q
    by_cases hq : q = j.toNat
    · subst hq
      have hl : j.toNat < vs.length := by omega
      simp [updV, List.getD_eq_getElem?_getD, List.getElem?_set_self hl, q_rf, va_rf, q_ad_new (hR.lt hSv)]
    · simp [updV, hq, List.getD_eq_getElem?_getD, List.getElem?_set_ne (Ne.symm hq)]) e2 e3
  exact kk p e R s m args below meth c Z H1 _ ls cells slots C hR1 (hS.put e2 e3 (Nat.le_add_right _ _)) hL hcl hso hret
theorem q_R.push {G : q_G} {S : q_Sh} {M : q_Mem} {N : q_MemL} {H H1 : Heap} {e : q_Ent} (hR : q_R G S M N H) (hs : S.length < 900) (z : H1.size = H.size + 1) (oq : ∀ q : Nat, q < H.size → H1[q]? = H[q]?) (hat : va_at G.2.1 vwCl (G.1 + S.length, q_ent G M N S.length e) H1) : q_R G (S ++ [e]) M N H1 := by
  refine ⟨by rw [z, hR.1, List.length_append]; simp; omega, by rw [List.length_append]; simp; omega, ?_⟩
  rw [q_ws_push]
  refine (hR.2.2.kept (fun k x hx => oq x.1 ((hR.2.2 k x hx).lt))).app (fun k x hx => ?_)
  have hz : k < 1 := (List.getElem?_eq_some_iff.mp hx).1
  rw [show k = 0 by omega] at hx
  cases hx
  exact hat
theorem va_S.grow {A : Nat → Prop} {H0 H H1 : Heap} {locs : List Loc} (hS : va_S A H0 H locs) (z : H1.size = H.size + 1) (oq : ∀ q : Nat, q < H.size → H1[q]? = H[q]?) : va_S A H0 H1 locs := ⟨Nat.le_trans hS.1 (by omega), fun x h1 h2 => (oq x (Nat.lt_of_lt_of_le h1 hS.1)).trans (hS.2.1 x h1 h2), hS.2.2⟩
theorem st_new {G : q_G} {d : Nat} {μ : q_M} {pc : Nat} {L : List (Option Value)} {st : List Value} {S : q_Sh} {M : q_Mem} {N : q_MemL} {k n : Nat} {Q : q_Q} {ci NF idx : Nat} {Cn : String} {T : u_T} {vs : List Value} (hd : decode μ.2.1 pc = .ok (.new idx, 3)) (hc : vwCl[ci]? = some (Cn, T, NF)) (hl : Cond.classLink μ.1.cls idx Cn ∈ q_W) (hi : Cond.instantiable Cn NF ∈ q_W) (hini : Cond.initialized Cn ∈ q_W) (hs : S.length < 900) (hM : ∀ j, M S.length j = 0) (ty : Nat → FieldType) (hty : ∀ k, k < NF → parseFieldDescriptor (T k).2.2.1 = some (ty k)) (hfs : ∀ j, j < NF → vs[j]? = some (defaultValue (ty j)) ∧ (defaultValue (ty j) = .null ∨ defaultValue (ty j) = .int 0)) (kk : AW G d μ (pc + 3) L (.ref S.length :: st) (S ++ [(ci, NF, vs)]) M N k n Q) : AW G d μ pc L st S M N (k + 1) (n + NF) Q := by
  intro p e R s m args below meth c Z H locs ls cells slots C hR hS hL hcl hso hret
  obtain ⟨hci, hin, hnm, -⟩ := q_cls hc
  have hKn := C.2.2.2.2.2.1.1 ci _ hc
  refine W.newcK C.1 C.2.1 C.2.2.2.1 (C.2.2.2.2.1 _ hl) (C.2.2.2.2.1 _ hi) (C.2.2.2.2.1 _ hini) rfl hd (by omega) (by omega) hKn.2.1 hR.1 fun H1 kC hkC e1 z1 o1 => ?_
  have z2 : H1.size = H.size + 1 := by rw [z1, hR.1]
  have hR1 := hR.push (e := (ci, NF, vs)) (H1 := H1) hs z2 (fun q hq => o1 q (by rw [← hR.1]; exact hq)) (by
    rw [q_ent_obj hci]
    refine ⟨_, hc, (u_born ty C.2.2.2.2.1 hin hKn hkC e1 hty).to (fun j hj => ?_)⟩
    obtain ⟨h8, h9⟩ := hfs j hj
    simp only [vp_V, List.getD_eq_getElem?_getD, q_fs_get h8]
    rcases h9 with h9 | h9 <;> rw [h9] <;> simp [q_fv, q_cv, hM, zi])
  have kw := kk p e R s m args below meth c Z H1 locs ls (cells + 1) (slots + NF) C hR1 (hS.grow z2 (fun q hq => o1 q (by rw [← hR.1]; exact hq))) hL (by omega) (by omega) (fun v S' M' N' H' locs' pc' ls' q1 q2 q3 q4 q5 => by
    rw [show cells + 1 + k = cells + (k + 1) by omega, show slots + NF + n = slots + (n + NF) by omega]
    exact hret v S' M' N' H' locs' pc' ls' q1 q2 q3 q4 q5)
  rw [List.map_cons, show q_cv G (.ref S.length) = .ref (G.1 + S.length) from congrArg Value.ref (q_ad_new (by omega))] at kw
  exact kw
theorem st_newa_i {G : q_G} {d : Nat} {μ : q_M} {pc : Nat} {L : List (Option Value)} {st : List Value} {S : q_Sh} {M : q_Mem} {N : q_MemL} {k n : Nat} {Q : q_Q} {nn : Nat} (hd : decode μ.2.1 pc = .ok (.newarray .int, 2)) (ha : Cond.arrayClass .int ∈ q_W) (hs : S.length < 900) (hM : ∀ j, M S.length j = 0) (hn : nn ≤ 10000) (kk : AW G d μ (pc + 2) L (.ref S.length :: st) (S ++ [(20, nn, [])]) M N k n Q) : AW G d μ pc L (I nn :: st) S M N (k + 1) (n + nn) Q := by
  intro p e R s m args below meth c Z H locs ls cells slots C hR hS hL hcl hso hret
  have hc9 : (zi (nn : Int)).toNatClampNeg = nn := by rw [zi_clamp (by omega)]; omega
  have h8 : componentBytes .int ≤ 8 := by decide
  have hby : nn * componentBytes .int ≤ 536870912 := Nat.le_trans (Nat.mul_le_mul hn h8) (by decide)
  refine va_newaK (atype := .int) (N := nn) C.1 C.2.1 (C.2.2.2.2.1 _ ha) rfl hd rfl (by rw [show (0 : Int32) = zi 0 from rfl, zi_lt (by omega) (by omega)]; omega) hc9 hby (by omega) (by omega) hR.1 fun H1 cA e1 z1 o1 hAr hNm => ?_
  have z2 : H1.size = H.size + 1 := by rw [z1, hR.1]
  have hK := (C.2.2.2.2.2.1.2 0 _ rfl).2
  have hcA : cA = G.2.2.1 20 := Option.some.inj (hNm.symm.trans hK)
  subst hcA
  have hR1 := hR.push (e := (20, nn, [])) (H1 := H1) hs z2 (fun q hq => o1 q (by rw [← hR.1]; exact hq)) (by
    rw [q_ent_i]
    show H1[G.1 + S.length]? = some (vp_cell _ _)
    rw [e1, vp_cell_i]
    congr 2
    funext j
    rw [hM j]
    rfl)
  have kw := kk p e R s m args below meth c Z H1 locs ls (cells + 1) (slots + nn) C hR1 (hS.grow z2 (fun q hq => o1 q (by rw [← hR.1]; exact hq))) hL (by omega) (by omega) (fun v S' M' N' H' locs' pc' ls' q1 q2 q3 q4 q5 => by
    rw [show cells + 1 + k = cells + (k + 1) by omega, show slots + nn + n = slots + (n + nn) by omega]
    exact hret v S' M' N' H' locs' pc' ls' q1 q2 q3 q4 q5)
  rw [List.map_cons, show q_cv G (.ref S.length) = .ref (G.1 + S.length) from congrArg Value.ref (q_ad_new (by omega))] at kw
  exact kw
theorem st_newa_b {G : q_G} {d : Nat} {μ : q_M} {pc : Nat} {L : List (Option Value)} {st : List Value} {S : q_Sh} {M : q_Mem} {N : q_MemL} {k n : Nat} {Q : q_Q} {nn : Nat} (hd : decode μ.2.1 pc = .ok (.newarray .byte, 2)) (ha : Cond.arrayClass .byte ∈ q_W) (hs : S.length < 900) (hM : ∀ j, M S.length j = 0) (hn : nn ≤ 10000) (kk : AW G d μ (pc + 2) L (.ref S.length :: st) (S ++ [(21, nn, [])]) M N k n Q) : AW G d μ pc L (I nn :: st) S M N (k + 1) (n + nn) Q := by
  intro p e R s m args below meth c Z H locs ls cells slots C hR hS hL hcl hso hret
  have hc9 : (zi (nn : Int)).toNatClampNeg = nn := by rw [zi_clamp (by omega)]; omega
  have h8 : componentBytes .byte ≤ 8 := by decide
  have hby : nn * componentBytes .byte ≤ 536870912 := Nat.le_trans (Nat.mul_le_mul hn h8) (by decide)
  refine va_newaK (atype := .byte) (N := nn) C.1 C.2.1 (C.2.2.2.2.1 _ ha) rfl hd rfl (by rw [show (0 : Int32) = zi 0 from rfl, zi_lt (by omega) (by omega)]; omega) hc9 hby (by omega) (by omega) hR.1 fun H1 cA e1 z1 o1 hAr hNm => ?_
  have z2 : H1.size = H.size + 1 := by rw [z1, hR.1]
  have hK := (C.2.2.2.2.2.1.2 1 _ rfl).2
  have hcA : cA = G.2.2.1 21 := Option.some.inj (hNm.symm.trans hK)
  subst hcA
  have hR1 := hR.push (e := (21, nn, [])) (H1 := H1) hs z2 (fun q hq => o1 q (by rw [← hR.1]; exact hq)) (by
    rw [q_ent_b]
    show H1[G.1 + S.length]? = some (vp_cell _ _)
    rw [e1, vp_cell_i]
    congr 2
    funext j
    rw [hM j]
    rfl)
  have kw := kk p e R s m args below meth c Z H1 locs ls (cells + 1) (slots + nn) C hR1 (hS.grow z2 (fun q hq => o1 q (by rw [← hR.1]; exact hq))) hL (by omega) (by omega) (fun v S' M' N' H' locs' pc' ls' q1 q2 q3 q4 q5 => by
    rw [show cells + 1 + k = cells + (k + 1) by omega, show slots + nn + n = slots + (n + nn) by omega]
    exact hret v S' M' N' H' locs' pc' ls' q1 q2 q3 q4 q5)
  rw [List.map_cons, show q_cv G (.ref S.length) = .ref (G.1 + S.length) from congrArg Value.ref (q_ad_new (by omega))] at kw
  exact kw
theorem st_newa_z {G : q_G} {d : Nat} {μ : q_M} {pc : Nat} {L : List (Option Value)} {st : List Value} {S : q_Sh} {M : q_Mem} {N : q_MemL} {k n : Nat} {Q : q_Q} {nn : Nat} (hd : decode μ.2.1 pc = .ok (.newarray .boolean, 2)) (ha : Cond.arrayClass .boolean ∈ q_W) (hs : S.length < 900) (hM : ∀ j, M S.length j = 0) (hn : nn ≤ 10000) (kk : AW G d μ (pc + 2) L (.ref S.length :: st) (S ++ [(22, nn, [])]) M N k n Q) : AW G d μ pc L (I nn :: st) S M N (k + 1) (n + nn) Q := by
  intro p e R s m args below meth c Z H locs ls cells slots C hR hS hL hcl hso hret
  have hc9 : (zi (nn : Int)).toNatClampNeg = nn := by rw [zi_clamp (by omega)]; omega
  have h8 : componentBytes .boolean ≤ 8 := by decide
  have hby : nn * componentBytes .boolean ≤ 536870912 := Nat.le_trans (Nat.mul_le_mul hn h8) (by decide)
  refine va_newaK (atype := .boolean) (N := nn) C.1 C.2.1 (C.2.2.2.2.1 _ ha) rfl hd rfl (by rw [show (0 : Int32) = zi 0 from rfl, zi_lt (by omega) (by omega)]; omega) hc9 hby (by omega) (by omega) hR.1 fun H1 cA e1 z1 o1 hAr hNm => ?_
  have z2 : H1.size = H.size + 1 := by rw [z1, hR.1]
  have hK := (C.2.2.2.2.2.1.2 2 _ rfl).2
  have hcA : cA = G.2.2.1 22 := Option.some.inj (hNm.symm.trans hK)
  subst hcA
  have hR1 := hR.push (e := (22, nn, [])) (H1 := H1) hs z2 (fun q hq => o1 q (by rw [← hR.1]; exact hq)) (by
    rw [q_ent_z]
    show H1[G.1 + S.length]? = some (vp_cell _ _)
    rw [e1, vp_cell_i]
    congr 2
    funext j
    rw [hM j]
    rfl)
  have kw := kk p e R s m args below meth c Z H1 locs ls (cells + 1) (slots + nn) C hR1 (hS.grow z2 (fun q hq => o1 q (by rw [← hR.1]; exact hq))) hL (by omega) (by omega) (fun v S' M' N' H' locs' pc' ls' q1 q2 q3 q4 q5 => by
    rw [show cells + 1 + k = cells + (k + 1) by omega, show slots + nn + n = slots + (n + nn) by omega]
    exact hret v S' M' N' H' locs' pc' ls' q1 q2 q3 q4 q5)
  rw [List.map_cons, show q_cv G (.ref S.length) = .ref (G.1 + S.length) from congrArg Value.ref (q_ad_new (by omega))] at kw
  exact kw
theorem st_newa_l {G : q_G} {d : Nat} {μ : q_M} {pc : Nat} {L : List (Option Value)} {st : List Value} {S : q_Sh} {M : q_Mem} {N : q_MemL} {k n : Nat} {Q : q_Q} {nn : Nat} (hd : decode μ.2.1 pc = .ok (.newarray .long, 2)) (ha : Cond.arrayClass .long ∈ q_W) (hs : S.length < 900) (hM : ∀ j, N S.length j = 0) (hn : nn ≤ 10000) (kk : AW G d μ (pc + 2) L (.ref S.length :: st) (S ++ [(23, nn, [])]) M N k n Q) : AW G d μ pc L (I nn :: st) S M N (k + 1) (n + nn) Q := by
  intro p e R s m args below meth c Z H locs ls cells slots C hR hS hL hcl hso hret
  have hc9 : (zi (nn : Int)).toNatClampNeg = nn := by rw [zi_clamp (by omega)]; omega
  have h8 : componentBytes .long ≤ 8 := by decide
  have hby : nn * componentBytes .long ≤ 536870912 := Nat.le_trans (Nat.mul_le_mul hn h8) (by decide)
  refine va_newaK (atype := .long) (N := nn) C.1 C.2.1 (C.2.2.2.2.1 _ ha) rfl hd rfl (by rw [show (0 : Int32) = zi 0 from rfl, zi_lt (by omega) (by omega)]; omega) hc9 hby (by omega) (by omega) hR.1 fun H1 cA e1 z1 o1 hAr hNm => ?_
  have z2 : H1.size = H.size + 1 := by rw [z1, hR.1]
  have hK := (C.2.2.2.2.2.1.2 3 _ rfl).2
  have hcA : cA = G.2.2.1 23 := Option.some.inj (hNm.symm.trans hK)
  subst hcA
  have hR1 := hR.push (e := (23, nn, [])) (H1 := H1) hs z2 (fun q hq => o1 q (by rw [← hR.1]; exact hq)) (by
    rw [q_ent_l]
    show H1[G.1 + S.length]? = some (vp_cell _ _)
    rw [e1, vp_cell_l]
    congr 2
    funext j
    rw [hM j]
    rfl)
  have kw := kk p e R s m args below meth c Z H1 locs ls (cells + 1) (slots + nn) C hR1 (hS.grow z2 (fun q hq => o1 q (by rw [← hR.1]; exact hq))) hL (by omega) (by omega) (fun v S' M' N' H' locs' pc' ls' q1 q2 q3 q4 q5 => by
    rw [show cells + 1 + k = cells + (k + 1) by omega, show slots + nn + n = slots + (n + nn) by omega]
    exact hret v S' M' N' H' locs' pc' ls' q1 q2 q3 q4 q5)
  rw [List.map_cons, show q_cv G (.ref S.length) = .ref (G.1 + S.length) from congrArg Value.ref (q_ad_new (by omega))] at kw
  exact kw
theorem st_anew {G : q_G} {d : Nat} {μ : q_M} {pc : Nat} {L : List (Option Value)} {st : List Value} {S : q_Sh} {M : q_Mem} {N : q_MemL} {k n : Nat} {Q : q_Q} {nn idx t : Nat} {Cn : String} (hd : decode μ.2.1 pc = .ok (.anewarray idx, 3)) (hl : Cond.classLink μ.1.cls idx Cn ∈ q_W) (ht : (t = 24 ∧ Cn = RX2) ∨ (t = 25 ∧ Cn = RX5)) (hs : S.length < 900) (hn : nn ≤ 10000) (kk : AW G d μ (pc + 3) L (.ref S.length :: st) (S ++ [(t, nn, List.replicate nn .null)]) M N k n Q) : AW G d μ pc L (I nn :: st) S M N (k + 1) (n + nn) Q := by
  intro p e R s m args below meth c Z H locs ls cells slots C hR hS hL hcl hso hret
  have hc9 : (zi (nn : Int)).toNatClampNeg = nn := by rw [zi_clamp (by omega)]; omega
  have hov : va_AO Cn s := by
    obtain ⟨-, -, -, -, -, -, h7, h8, -⟩ := C.2.2.2.2.2.2.1
    rcases ht with ⟨-, rfl⟩ | ⟨-, rfl⟩
    · exact h7
    · exact h8
  refine W.anew C.1 C.2.1 C.2.2.2.1 (C.2.2.2.2.1 _ hl) (va_AO.use hov) rfl hd rfl (by rw [show (0 : Int32) = zi 0 from rfl, zi_lt (by omega) (by omega)]; omega) (by rw [hc9]; omega) (by omega) (by rw [hc9]; omega) fun cA kA comp f1 f2 f3 f4 => ?_
  rw [hc9]
  generalize hH1 : H.push ({ cls := cA, slots := Array.replicate nn .null, vm := .none } : Cell) = H1
  have z1 : H1.size = H.size + 1 := by rw [← hH1, Array.size_push]
  have e1 : H1[H.size]? = some (arrV cA nn (fun _ => .null)) := by rw [← hH1, Array.getElem?_push_size, ← arrV_new]
  have o1 : ∀ q : Nat, q < H.size → H1[q]? = H[q]? := fun q hq => by rw [← hH1, Array.getElem?_push, if_neg (Nat.ne_of_lt hq)]
  have hcA : cA = G.2.2.1 t := by
    rcases ht with ⟨rfl, rfl⟩ | ⟨rfl, rfl⟩
    · obtain ⟨_, _, -, -, -, h4⟩ := (C.2.2.2.2.2.1.2 4 _ rfl).2
      exact Option.some.inj (f1.symm.trans h4)
    · obtain ⟨_, _, -, -, -, h4⟩ := (C.2.2.2.2.2.1.2 5 _ rfl).2
      exact Option.some.inj (f1.symm.trans h4)
  subst hcA
  have hR1 := hR.push (e := (t, nn, List.replicate nn .null)) (H1 := H1) hs z1 o1 (by
    rw [q_ent_q (by omega)]
    show H1[G.1 + S.length]? = some (vp_cell _ _)
    rw [← hR.1, e1, vp_cell_q]
    congr 2
    funext j
    have e9 : (List.replicate nn Value.null).getD j .null = .null := by
      rw [List.getD_eq_getElem?_getD, List.getElem?_replicate]
      split <;> rfl
    rw [e9]
    rfl)
  have kw := kk p e R s m args below meth c Z H1 locs ls (cells + 1) (slots + nn) C hR1 (hS.grow z1 o1) hL (by omega) (by omega) (fun v S' M' N' H' locs' pc' ls' q1 q2 q3 q4 q5 => by
    rw [show cells + 1 + k = cells + (k + 1) by omega, show slots + nn + n = slots + (n + nn) by omega]
    exact hret v S' M' N' H' locs' pc' ls' q1 q2 q3 q4 q5)
  rw [List.map_cons, show q_cv G (.ref S.length) = .ref (G.1 + S.length) from congrArg Value.ref (q_ad_new (by omega)), ← hR.1] at kw
  exact kw

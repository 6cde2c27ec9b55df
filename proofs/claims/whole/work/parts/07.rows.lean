theorem st_iast {G : q_G} {d : Nat} {μ : q_M} {pc : Nat} {L : List (Option Value)} {st : List Value} {S : q_Sh} {M : q_Mem} {N : q_MemL} {k n : Nat} {Q : q_Q} {a nn : Nat} {vs : List Value} {j z : Int} (hd : decode μ.2.1 pc = .ok (.iastore, 1)) (hSa : S[a]? = some (20, nn, vs)) (h0 : 0 ≤ j) (h1 : j < nn) (kk : AW G d μ (pc + 1) L st S (q_up M a j.toNat z) N k n Q) (hn : nn < 2147483648 := by decide) : AW G d μ pc L (I z :: I j :: .ref a :: st) S M N k n Q := by
  intro p e R s m args below meth c Z H locs ls cells slots C hR hS hL hcl hso hret
  have hg := q_ws_get (G := G) (M := M) (N := N) hSa
  rw [q_ent_i] at hg
  show W _ _ _ _ _ _ _ _ _ _ _ _ _ _ _ (F0 m pc ls (.int (zi z) :: .int (zi j) :: .ref (q_ad G a) :: st.map (q_cv G)))
  rw [q_ad_new (hR.lt hSa)]
  refine W.iast C.1 C.2.1 (hR.2.2 a _ hg) ((C.2.2.2.2.2.1.2 0 _ rfl).1 nn (fun j => .int (zi (M a j)))) (fun q => by cases q) (by show ¬ (_ < 0 ∨ (arrV _ _ _).slots.size ≤ _); rw [arrV_size]; exact q_in h0 h1 hn) rfl rfl hd fun H1 e1 e2 e3 => ?_
  have hR1 := hR.wr (M' := q_up M a j.toNat z) (N' := N) (e' := (20, nn, vs)) (H1 := H1) hSa (fun j hj => q_up_ne hj) (fun _ _ => rfl) (by
    rw [q_ent_i]
    show H1[G.1 + a]? = some (vp_cell _ _)
    rw [e1, q_cl h0 h1 hn, vp_cell_i, vp_cell_i, arrV_store]
    congr 2
    funext q
    by_cases hq : q = j.toNat
    · subst hq; simp [updV, q_up]
    · simp [updV, q_up, hq]) e2 e3
  rw [q_set_id hSa] at hR1
  exact kk p e R s m args below meth c Z H1 _ ls cells slots C hR1 (hS.put e2 e3 (Nat.le_add_right _ _)) hL hcl hso hret
theorem st_bast {G : q_G} {d : Nat} {μ : q_M} {pc : Nat} {L : List (Option Value)} {st : List Value} {S : q_Sh} {M : q_Mem} {N : q_MemL} {k n : Nat} {Q : q_Q} {a nn : Nat} {vs : List Value} {j z : Int} (hd : decode μ.2.1 pc = .ok (.bastore, 1)) (hSa : S[a]? = some (21, nn, vs)) (h0 : 0 ≤ j) (h1 : j < nn) (hz : narrow .byte (I z) = I z) (kk : AW G d μ (pc + 1) L st S (q_up M a j.toNat z) N k n Q) (hn : nn < 2147483648 := by decide) : AW G d μ pc L (I z :: I j :: .ref a :: st) S M N k n Q := by
  intro p e R s m args below meth c Z H locs ls cells slots C hR hS hL hcl hso hret
  have hg := q_ws_get (G := G) (M := M) (N := N) hSa
  rw [q_ent_b] at hg
  show W _ _ _ _ _ _ _ _ _ _ _ _ _ _ _ (F0 m pc ls (.int (zi z) :: .int (zi j) :: .ref (q_ad G a) :: st.map (q_cv G)))
  rw [q_ad_new (hR.lt hSa)]
  refine W.bast C.1 C.2.1 (hR.2.2 a _ hg) ((C.2.2.2.2.2.1.2 1 _ rfl).1 nn (fun j => .int (zi (M a j)))) (fun q => by cases q) (by show ¬ (_ < 0 ∨ (arrV _ _ _).slots.size ≤ _); rw [arrV_size]; exact q_in h0 h1 hn) rfl rfl hd fun H1 e1 e2 e3 => ?_
  have hz9 : narrow .byte (.int (zi z)) = .int (zi z) := hz
  rw [hz9] at e1
  have hR1 := hR.wr (M' := q_up M a j.toNat z) (N' := N) (e' := (21, nn, vs)) (H1 := H1) hSa (fun j hj => q_up_ne hj) (fun _ _ => rfl) (by
    rw [q_ent_b]
    show H1[G.1 + a]? = some (vp_cell _ _)
    rw [e1, q_cl h0 h1 hn, vp_cell_i, vp_cell_i, arrV_store]
    congr 2
    funext q
    by_cases hq : q = j.toNat
    · subst hq; simp [updV, q_up]
    · simp [updV, q_up, hq]) e2 e3
  rw [q_set_id hSa] at hR1
  exact kk p e R s m args below meth c Z H1 _ ls cells slots C hR1 (hS.put e2 e3 (Nat.le_add_right _ _)) hL hcl hso hret
theorem st_zast {G : q_G} {d : Nat} {μ : q_M} {pc : Nat} {L : List (Option Value)} {st : List Value} {S : q_Sh} {M : q_Mem} {N : q_MemL} {k n : Nat} {Q : q_Q} {a nn : Nat} {vs : List Value} {j z : Int} (hd : decode μ.2.1 pc = .ok (.bastore, 1)) (hSa : S[a]? = some (22, nn, vs)) (h0 : 0 ≤ j) (h1 : j < nn) (hz : narrow .boolean (I z) = I z) (kk : AW G d μ (pc + 1) L st S (q_up M a j.toNat z) N k n Q) (hn : nn < 2147483648 := by decide) : AW G d μ pc L (I z :: I j :: .ref a :: st) S M N k n Q := by
  intro p e R s m args below meth c Z H locs ls cells slots C hR hS hL hcl hso hret
  have hg := q_ws_get (G := G) (M := M) (N := N) hSa
  rw [q_ent_z] at hg
  show W _ _ _ _ _ _ _ _ _ _ _ _ _ _ _ (F0 m pc ls (.int (zi z) :: .int (zi j) :: .ref (q_ad G a) :: st.map (q_cv G)))
  rw [q_ad_new (hR.lt hSa)]
  refine W.zast C.1 C.2.1 (hR.2.2 a _ hg) ((C.2.2.2.2.2.1.2 2 _ rfl).1 nn (fun j => .int (zi (M a j)))) (fun q => by cases q) (by show ¬ (_ < 0 ∨ (arrV _ _ _).slots.size ≤ _); rw [arrV_size]; exact q_in h0 h1 hn) rfl rfl hd fun H1 e1 e2 e3 => ?_
  have hz9 : narrow .boolean (.int (zi z)) = .int (zi z) := hz
  rw [hz9] at e1
  have hR1 := hR.wr (M' := q_up M a j.toNat z) (N' := N) (e' := (22, nn, vs)) (H1 := H1) hSa (fun j hj => q_up_ne hj) (fun _ _ => rfl) (by
    rw [q_ent_z]
    show H1[G.1 + a]? = some (vp_cell _ _)
    rw [e1, q_cl h0 h1 hn, vp_cell_i, vp_cell_i, arrV_store]
    congr 2
    funext q
    by_cases hq : q = j.toNat
    · subst hq; simp [updV, q_up]
    · simp [updV, q_up, hq]) e2 e3
  rw [q_set_id hSa] at hR1
  exact kk p e R s m args below meth c Z H1 _ ls cells slots C hR1 (hS.put e2 e3 (Nat.le_add_right _ _)) hL hcl hso hret
theorem st_last {G : q_G} {d : Nat} {μ : q_M} {pc : Nat} {L : List (Option Value)} {st : List Value} {S : q_Sh} {M : q_Mem} {N : q_MemL} {k n : Nat} {Q : q_Q} {a nn : Nat} {vs : List Value} {j : Int} {z : Int64} (hd : decode μ.2.1 pc = .ok (.lastore, 1)) (hSa : S[a]? = some (23, nn, vs)) (h0 : 0 ≤ j) (h1 : j < nn) (kk : AW G d μ (pc + 1) L st S M (q_upL N a j.toNat z) k n Q) (hn : nn < 2147483648 := by decide) : AW G d μ pc L (.long z :: I j :: .ref a :: st) S M N k n Q := by
  intro p e R s m args below meth c Z H locs ls cells slots C hR hS hL hcl hso hret
  have hg := q_ws_get (G := G) (M := M) (N := N) hSa
  rw [q_ent_l] at hg
  show W _ _ _ _ _ _ _ _ _ _ _ _ _ _ _ (F0 m pc ls (.long z :: .int (zi j) :: .ref (q_ad G a) :: st.map (q_cv G)))
  rw [q_ad_new (hR.lt hSa)]
  refine W.last C.1 C.2.1 (hR.2.2 a _ hg) ((C.2.2.2.2.2.1.2 3 _ rfl).1 nn (fun j => .long (N a j))) (fun q => by cases q) (by show ¬ (_ < 0 ∨ (arrV _ _ _).slots.size ≤ _); rw [arrV_size]; exact q_in h0 h1 hn) rfl rfl hd fun H1 e1 e2 e3 => ?_
  have hR1 := hR.wr (M' := M) (N' := q_upL N a j.toNat z) (e' := (23, nn, vs)) (H1 := H1) hSa (fun _ _ => rfl) (fun j hj => q_upL_ne hj) (by
    rw [q_ent_l]
    show H1[G.1 + a]? = some (vp_cell _ _)
    rw [e1, q_cl h0 h1 hn, vp_cell_l, vp_cell_l, arrV_store]
    congr 2
    funext q
    by_cases hq : q = j.toNat
    · subst hq; simp [updV, q_upL]
    · simp [updV, q_upL, hq]) e2 e3
  rw [q_set_id hSa] at hR1
  exact kk p e R s m args below meth c Z H1 _ ls cells slots C hR1 (hS.put e2 e3 (Nat.le_add_right _ _)) hL hcl hso hret
theorem st_aast {G : q_G} {d : Nat} {μ : q_M} {pc : Nat} {L : List (Option Value)} {st : List Value} {S : q_Sh} {M : q_Mem} {N : q_MemL} {k n : Nat} {Q : q_Q} {a t nn v ci nv : Nat} {vs vv : List Value} {j : Int} {Cn : String} {T : u_T} {NF : Nat} (hd : decode μ.2.1 pc = .ok (.aastore, 1)) (hSa : S[a]? = some (t, nn, vs)) (hSv : S[v]? = some (ci, nv, vv)) (ht : 23 < t) (htt : (q_tys G)[t - 20]? = some (G.2.2.1 t, .object Cn)) (hc : vwCl[ci]? = some (Cn, T, NF)) (h0 : 0 ≤ j) (h1 : j < nn) (hlen : vs.length = nn) (kk : AW G d μ (pc + 1) L st (S.set a (t, nn, vs.set j.toNat (.ref v))) M N k n Q) (hn : nn < 2147483648 := by decide) : AW G d μ pc L (.ref v :: I j :: .ref a :: st) S M N k n Q := by
  intro p e R s m args below meth c Z H locs ls cells slots C hR hS hL hcl hso hret
  have hg := q_ws_get (G := G) (M := M) (N := N) hSa
  rw [q_ent_q ht] at hg
  have hgv := q_ws_get (G := G) (M := M) (N := N) hSv
  rw [q_ent_obj (q_cls hc).1] at hgv
  show W _ _ _ _ _ _ _ _ _ _ _ _ _ _ _ (F0 m pc ls (.ref (q_ad G v) :: .int (zi j) :: .ref (q_ad G a) :: st.map (q_cv G)))
  rw [q_ad_new (hR.lt hSa), q_ad_new (hR.lt hSv)]
  have hin := q_in h0 h1 hn
  obtain ⟨r', hr', cellV, g1, g2, g3, -⟩ := hR.2.2 v _ hgv
  have hcls := (C.2.2.2.2.2.1.1 ci _ hc).2
  obtain ⟨kA, comp, k1, k2, k3, -⟩ := (C.2.2.2.2.2.1.2 (t - 20) _ htt).2
  have hcomp : comp = G.2.1.1 ci := Option.some.inj (k3.symm.trans hcls.1)
  subst hcomp
  obtain ⟨kC, hkC, -⟩ := hcls.2
  refine W.aast C.1 C.2.1 (hR.2.2 a _ hg) (fun q h => by cases h) (fun h => by cases h) k1 k2 rfl hkC ⟨fun q => hin (Or.inl q), by show _ < (arrV _ _ _).slots.size; rw [arrV_size]; exact Nat.not_le.mp fun q => hin (Or.inr q)⟩ g1 (fun q h => by rw [g3] at h; cases h) (by rw [g2]; exact hkC) (by rw [g2]; exact va_assign hcls) rfl rfl hd fun H1 e1 e2 e3 => ?_
  have hR1 := hR.wr (M' := M) (N' := N) (e' := (t, nn, vs.set j.toNat (.ref v))) (H1 := H1) hSa (fun _ _ => rfl) (fun _ _ => rfl) (by
    rw [q_ent_q ht]
    show H1[G.1 + a]? = some (vp_cell _ _)
    rw [e1, q_cl h0 h1 hn, vp_cell_q, vp_cell_q, arrV_store]
    congr 2
    funext q
    by_cases hq : q = j.toNat
    · subst hq
      have hl : j.toNat < vs.length := by omega
      simp [updV, List.getD_eq_getElem?_getD, List.getElem?_set_self hl, q_rf, va_rf, q_ad_new (hR.lt hSv)]
    · simp [updV, hq, List.getD_eq_getElem?_getD, List.getElem?_set_ne (Ne.symm hq)]) e2 e3
  exact kk p e R s m args below meth c Z H1 _ ls cells slots C hR1 (hS.put e2 e3 (Nat.le_add_right _ _)) hL hcl hso hret

/-! arrays -/
theorem q_in {j : Int} {nn : Nat} (h0 : 0 ≤ j) (h1 : j < nn) (hn : nn < 2147483648) : vp_in (zi j) nn := vp_in_iff.mpr ⟨by rw [zi_toInt (by omega)]; exact h0, by rw [zi_toInt (by omega)]; exact h1⟩
theorem q_cl {j : Int} {nn : Nat} (h0 : 0 ≤ j) (h1 : j < nn) (hn : nn < 2147483648) : (zi j).toNatClampNeg = j.toNat := zi_clamp (by omega)
theorem st_iald {G : q_G} {d : Nat} {μ : q_M} {pc : Nat} {L : List (Option Value)} {st : List Value} {S : q_Sh} {M : q_Mem} {N : q_MemL} {k n : Nat} {Q : q_Q} {a nn : Nat} {vs : List Value} {j : Int} (hd : decode μ.2.1 pc = .ok (.iaload, 1)) (hSa : S[a]? = some (20, nn, vs)) (h0 : 0 ≤ j) (h1 : j < nn) (kk : AW G d μ (pc + 1) L (I (M a j.toNat) :: st) S M N k n Q) (hn : nn < 2147483648 := by decide) : AW G d μ pc L (I j :: .ref a :: st) S M N k n Q := by
  refine AW.op (fun p e R s m args below meth c Z H locs ls cells slots C hR hS hL kw => ?_) kk
  have hg := q_ws_get (G := G) (M := M) (N := N) hSa
  rw [q_ent_i] at hg
  show W _ _ _ _ _ _ _ _ _ _ _ _ _ _ _ (F0 m pc ls (.int (zi j) :: .ref (q_ad G a) :: st.map (q_cv G)))
  rw [q_ad_new (hR.lt hSa)]
  refine va_iald C.1 C.2.1 C.2.2.2.2.2.1 hR.2.2 a 0 hg rfl (q_in h0 h1 hn) hd ?_
  rw [q_cl h0 h1 hn]
  exact kw
theorem st_bald {G : q_G} {d : Nat} {μ : q_M} {pc : Nat} {L : List (Option Value)} {st : List Value} {S : q_Sh} {M : q_Mem} {N : q_MemL} {k n : Nat} {Q : q_Q} {a nn : Nat} {vs : List Value} {j : Int} (hd : decode μ.2.1 pc = .ok (.baload, 1)) (hSa : S[a]? = some (21, nn, vs)) (h0 : 0 ≤ j) (h1 : j < nn) (kk : AW G d μ (pc + 1) L (I (M a j.toNat) :: st) S M N k n Q) (hn : nn < 2147483648 := by decide) : AW G d μ pc L (I j :: .ref a :: st) S M N k n Q := by
  refine AW.op (fun p e R s m args below meth c Z H locs ls cells slots C hR hS hL kw => ?_) kk
  have hg := q_ws_get (G := G) (M := M) (N := N) hSa
  rw [q_ent_b] at hg
  show W _ _ _ _ _ _ _ _ _ _ _ _ _ _ _ (F0 m pc ls (.int (zi j) :: .ref (q_ad G a) :: st.map (q_cv G)))
  rw [q_ad_new (hR.lt hSa)]
  refine va_bald C.1 C.2.1 C.2.2.2.2.2.1 hR.2.2 a 1 hg rfl (q_in h0 h1 hn) hd ?_
  rw [q_cl h0 h1 hn]
  exact kw
theorem st_zald {G : q_G} {d : Nat} {μ : q_M} {pc : Nat} {L : List (Option Value)} {st : List Value} {S : q_Sh} {M : q_Mem} {N : q_MemL} {k n : Nat} {Q : q_Q} {a nn : Nat} {vs : List Value} {j : Int} (hd : decode μ.2.1 pc = .ok (.baload, 1)) (hSa : S[a]? = some (22, nn, vs)) (h0 : 0 ≤ j) (h1 : j < nn) (kk : AW G d μ (pc + 1) L (I (M a j.toNat) :: st) S M N k n Q) (hn : nn < 2147483648 := by decide) : AW G d μ pc L (I j :: .ref a :: st) S M N k n Q := by
  refine AW.op (fun p e R s m args below meth c Z H locs ls cells slots C hR hS hL kw => ?_) kk
  have hg := q_ws_get (G := G) (M := M) (N := N) hSa
  rw [q_ent_z] at hg
  show W _ _ _ _ _ _ _ _ _ _ _ _ _ _ _ (F0 m pc ls (.int (zi j) :: .ref (q_ad G a) :: st.map (q_cv G)))
  rw [q_ad_new (hR.lt hSa)]
  refine va_zald C.1 C.2.1 C.2.2.2.2.2.1 hR.2.2 a 2 hg rfl (q_in h0 h1 hn) hd ?_
  rw [q_cl h0 h1 hn]
  exact kw
theorem st_lald {G : q_G} {d : Nat} {μ : q_M} {pc : Nat} {L : List (Option Value)} {st : List Value} {S : q_Sh} {M : q_Mem} {N : q_MemL} {k n : Nat} {Q : q_Q} {a nn : Nat} {vs : List Value} {j : Int} (hd : decode μ.2.1 pc = .ok (.laload, 1)) (hSa : S[a]? = some (23, nn, vs)) (h0 : 0 ≤ j) (h1 : j < nn) (kk : AW G d μ (pc + 1) L (.long (N a j.toNat) :: st) S M N k n Q) (hn : nn < 2147483648 := by decide) : AW G d μ pc L (I j :: .ref a :: st) S M N k n Q := by
  refine AW.op (fun p e R s m args below meth c Z H locs ls cells slots C hR hS hL kw => ?_) kk
  have hg := q_ws_get (G := G) (M := M) (N := N) hSa
  rw [q_ent_l] at hg
  show W _ _ _ _ _ _ _ _ _ _ _ _ _ _ _ (F0 m pc ls (.int (zi j) :: .ref (q_ad G a) :: st.map (q_cv G)))
  rw [q_ad_new (hR.lt hSa)]
  refine va_lald C.1 C.2.1 C.2.2.2.2.2.1 hR.2.2 a 3 hg rfl (q_in h0 h1 hn) hd ?_
  rw [q_cl h0 h1 hn]
  exact kw
theorem st_alen {G : q_G} {d : Nat} {μ : q_M} {pc : Nat} {L : List (Option Value)} {st : List Value} {S : q_Sh} {M : q_Mem} {N : q_MemL} {k n : Nat} {Q : q_Q} {a t nn : Nat} {vs : List Value} (hd : decode μ.2.1 pc = .ok (.arraylength, 1)) (hSa : S[a]? = some (t, nn, vs)) (ht : 20 ≤ t ∧ t ≤ 25) (kk : AW G d μ (pc + 1) L (I nn :: st) S M N k n Q) : AW G d μ pc L (.ref a :: st) S M N k n Q := by
  refine AW.op (fun p e R s m args below meth c Z H locs ls cells slots C hR hS hL kw => ?_) kk
  have hg := q_ws_get (G := G) (M := M) (N := N) hSa
  show W _ _ _ _ _ _ _ _ _ _ _ _ _ _ _ (F0 m pc ls (.ref (q_ad G a) :: st.map (q_cv G)))
  rw [q_ad_new (hR.lt hSa)]
  have hx : ∃ x : vp_A, q_ent G M N a (t, nn, vs) = .inl (G.2.2.1 t, x) ∧ x.1 = nn := by
    have h9 : t = 20 ∨ t = 21 ∨ t = 22 ∨ t = 23 ∨ t = 24 ∨ t = 25 := by omega
    rcases h9 with rfl | rfl | rfl | rfl | rfl | rfl
    · exact ⟨_, q_ent_i, rfl⟩
    · exact ⟨_, q_ent_b, rfl⟩
    · exact ⟨_, q_ent_z, rfl⟩
    · exact ⟨_, q_ent_l, rfl⟩
    · exact ⟨_, q_ent_q (by decide), rfl⟩
    · exact ⟨_, q_ent_q (by decide), rfl⟩
  obtain ⟨x, hx1, hx2⟩ := hx
  rw [hx1] at hg
  have htt : ∃ ty, (q_tys G)[t - 20]? = some (G.2.2.1 t, ty) := by
    have h9 : t = 20 ∨ t = 21 ∨ t = 22 ∨ t = 23 ∨ t = 24 ∨ t = 25 := by omega
    rcases h9 with rfl | rfl | rfl | rfl | rfl | rfl <;> exact ⟨_, rfl⟩
  obtain ⟨ty, htt⟩ := htt
  exact va_alen C.1 C.2.1 C.2.2.2.2.2.1 hR.2.2 a (t - 20) hg htt (v := zi nn) (by rw [hx2]; exact Int32.ofInt_eq_ofNat.symm) hd kw
theorem st_aald {G : q_G} {d : Nat} {μ : q_M} {pc : Nat} {L : List (Option Value)} {st : List Value} {S : q_Sh} {M : q_Mem} {N : q_MemL} {k n : Nat} {Q : q_Q} {a t nn r : Nat} {vs : List Value} {j : Int} (hd : decode μ.2.1 pc = .ok (.aaload, 1)) (hSa : S[a]? = some (t, nn, vs)) (ht : t = 24 ∨ t = 25) (h0 : 0 ≤ j) (h1 : j < nn) (hv : vs.getD j.toNat .null = .ref r) (kk : AW G d μ (pc + 1) L (.ref r :: st) S M N k n Q) (hn : nn < 2147483648 := by decide) : AW G d μ pc L (I j :: .ref a :: st) S M N k n Q := by
  refine AW.op (fun p e R s m args below meth c Z H locs ls cells slots C hR hS hL kw => ?_) kk
  have hg := q_ws_get (G := G) (M := M) (N := N) hSa
  rw [q_ent_q (by omega)] at hg
  show W _ _ _ _ _ _ _ _ _ _ _ _ _ _ _ (F0 m pc ls (.int (zi j) :: .ref (q_ad G a) :: st.map (q_cv G)))
  rw [q_ad_new (hR.lt hSa)]
  have htt : ∃ Cn, (q_tys G)[t - 20]? = some (G.2.2.1 t, .object Cn) := by
    rcases ht with rfl | rfl <;> exact ⟨_, rfl⟩
  obtain ⟨Cn, htt⟩ := htt
  refine va_aldq C.1 C.2.1 C.2.2.2.2.2.1 hR.2.2 a (t - 20) hg htt (q_in h0 h1 hn) hd ?_
  rw [q_cl h0 h1 hn, hv]
  exact kw

/-! methods: entry -/
def q_la : List Value → List (Option Value)
  | [] => []
  | v :: vs => if v.category = 2 then some v :: none :: q_la vs else some v :: q_la vs
theorem q_la_args (G : q_G) : ∀ (vs : List Value) (i j : Nat) (v : Value), (q_la vs)[j]? = some (some v) → (i + j, q_cv G v) ∈ lv_args i (vs.map (q_cv G))
  | [], i, j, v, h => by simp [q_la] at h
  | w :: vs, i, j, v, h => by
    rw [List.map_cons, lv_args]
    unfold q_la at h
    by_cases hc : w.category = 2
    · rw [if_pos hc] at h
      rw [if_pos (by rw [q_cv_cat]; exact hc)]
      match j, h with
      | 0, h => simp at h; subst h; exact List.mem_cons_self
      | 1, h => simp at h
      | j + 2, h =>
        have h2 := q_la_args G vs (i + 2) j v (by simpa using h)
        rw [show i + 2 + j = i + (j + 2) by omega] at h2
        exact List.mem_cons_of_mem _ h2
    · rw [if_neg hc] at h
      rw [if_neg (by rw [q_cv_cat]; exact hc)]
      match j, h with
      | 0, h => simp at h; subst h; exact List.mem_cons_self
      | j + 1, h =>
        have h2 := q_la_args G vs (i + 1) j v (by simpa using h)
        rw [show i + 1 + j = i + (j + 1) by omega] at h2
        exact List.mem_cons_of_mem _ h2
theorem q_la_len (G : q_G) : ∀ vs : List Value, (lg_sl (vs.map (q_cv G))).length = (q_la vs).length
  | [] => rfl
  | w :: vs => by
    have h := q_la_len G vs
    unfold q_la
    by_cases hc : w.category = 2
    · simp only [lg_sl, List.map_cons, List.flatMap_cons, q_cv_cat, hc, if_true, List.length_append, List.length_cons] at h ⊢
      simp only [List.length_nil]; omega
    · simp only [lg_sl, List.map_cons, List.flatMap_cons, q_cv_cat, hc, if_false, List.length_append, List.length_cons] at h ⊢
      simp only [List.length_nil]; omega
theorem q_W_good : GoodIn q_W q_W := fun w hw => ⟨hw, good_of_word (List.mem_filter.mp hw).2⟩
/-- the contract out of the walk -/
theorem AC.of {G : q_G} {d : Nat} {μ : q_M} {as : List Value} {L0 : List (Option Value)} {S : q_Sh} {M : q_Mem} {N : q_MemL} {k n : Nat} {Q : q_Q} (hy : plainName μ.1.cls = true) (hlen : (q_la as).length ≤ μ.2.2.1) (hL0 : q_la as ++ List.replicate (μ.2.2.1 - (q_la as).length) none = L0)
    (h : AW G d μ 0 L0 [] S M N k n Q) : AC G d μ as S M N k n Q := by
  refine Met.ofW (cc := μ.2.1) (maxL := μ.2.2.1) (ret := μ.2.2.2) hy rfl ?_
  intro p e s m args below meth c s₁ B hml hv
  obtain ⟨rfl, hR, hK, hO, hsz⟩ := hv
  have hts := atoms_spec (ws := .code μ.1 μ.2.1 μ.2.2.1 μ.2.2.2 :: q_W) B.pre
  have hown : s.vm.findClass μ.1.cls = some m.cls := findClass_of_methodNamed B.named
  have C : q_C G d μ p { frames := d, cells := k, slots := n, locals := 60 * (d + 1) } s m (as.map (q_cv G)).toArray meth c :=
    ⟨B.exec, B.bytes, hml, hown, fun w hw => hts w (List.mem_cons_of_mem _ hw), hK, hO, hsz, B.notSynchronized, B.returns, (name_of_methodNamed B.named B.method).1, Nat.le_refl _, Nat.le_refl _⟩
  have hl := lv_entry (as.map (q_cv G)) (n := μ.2.2.1) (by rw [q_la_len]; exact hlen)
  rw [lg_entry_eq]
  have hL : q_L G μ.2.2.1 L0 ((lg_sl (as.map (q_cv G)) ++ List.replicate (μ.2.2.1 - (lg_sl (as.map (q_cv G))).length) Slot.unset).toArray) := by
    subst hL0
    refine ⟨by simp; omega, _, hl, fun j v hj => ?_⟩
    have h9 : (q_la as)[j]? = some (some v) := by
      by_cases hj2 : j < (q_la as).length
      · rwa [List.getElem?_append_left hj2] at hj
      · rw [List.getElem?_append_right (by omega), List.getElem?_replicate] at hj
        split at hj <;> cases hj
    have := q_la_args G as 0 j v h9
    rwa [Nat.zero_add] at this
  have hr := B.returns
  have hlocks := B.notSynchronized
  refine h p e _ s m _ below meth c _ s.heap [] _ 0 0 C hR va_S.rf hL (by rw [Nat.zero_add]; exact Nat.le_refl _) (by rw [Nat.zero_add]; exact Nat.le_refl _) ?_
  intro v S' M' N' H' locs' pc' ls' hq hR' hS' hok hd
  rw [Nat.zero_add, Nat.zero_add]
  have post : ∀ (w : Option Value), w = v.map (q_cv G) → ∀ t : State, t.heap = H' → s.WarmedH t.vm → (fun (_ : Array Value) (st : State) (o : Outcome) (t : State) => (∃ v S' M' N', o = .returned (v.map (q_cv G)) ∧ Q v S' M' N' ∧ q_R G S' M' N' t.heap) ∧ va_F (q_A G) st t) (as.map (q_cv G)).toArray s (.returned w) t := fun w hw t ht hW => ⟨⟨v, S', M', N', by rw [hw], hq, by rw [ht]; exact hR'⟩, hS'.F ht⟩
  rcases hok with ⟨e1, rfl⟩ | ⟨ty, x, e1, rfl, e2⟩ | ⟨x, e1, rfl⟩ | ⟨ty, e1, e2, e3⟩
  · exact W.vret B.exec B.bytes (hr.trans e1) (post _ rfl) hS'.2.2 hd
  · exact W.zret B.exec B.bytes (hr.trans e1) e2 (post _ rfl) hS'.2.2 hd
  · exact W.lret B.exec B.bytes (hr.trans e1) (post _ rfl) hS'.2.2 hd
  · rcases e3 with rfl | ⟨a, rfl⟩
    · exact W.aret B.exec B.bytes (hr.trans e1) e2 (Or.inl rfl) (post _ rfl) hS'.2.2 hd
    · exact W.aret B.exec B.bytes (hr.trans e1) e2 (Or.inr ⟨_, rfl⟩) (post _ rfl) hS'.2.2 hd
theorem AC.mono {G : q_G} {d : Nat} {μ : q_M} {as : List Value} {S : q_Sh} {M : q_Mem} {N : q_MemL} {k n : Nat} {Q Q' : q_Q} (h : ∀ v S' M' N', Q v S' M' N' → Q' v S' M' N') (hC : AC G d μ as S M N k n Q) : AC G d μ as S M N k n Q' := by
  intro p e ha hc hk s m args below hf happ hP hK
  obtain ⟨n9, o, h1, h2, h3, ⟨⟨v, S', M', N', e1, e2, e3⟩, e4⟩, e5⟩ := hC p e ha hc hk s m args below hf happ hP hK
  exact ⟨n9, o, h1, h2, h3, ⟨⟨v, S', M', N', e1, h _ _ _ _ e2, e3⟩, e4⟩, e5⟩
/-! methods: calls -/
/-- the receiver is an object of that class -/
def q_rc (S : q_Sh) (cls : String) (b : Nat) : Prop := (∃ ci nn vs T NF, S[b]? = some (ci, nn, vs) ∧ vwCl[ci]? = some (cls, T, NF)) ∨ (∃ i, i < q_nS ∧ b = 1000 + 2 * i ∧ cls = "java/lang/String")
theorem q_pre {G : q_G} {S : q_Sh} {M : q_Mem} {N : q_MemL} {s : State} {H : Heap} {as : List Value} (hR : q_R G S M N H) (hS : ∃ locs, va_S (q_A G) s.heap H locs) (hK : va_K G.2.1 vwCl (q_tys G) s) (hO : q_O G s s.heap) (hz : G.1 ≤ s.heap.size) :
    FrameBlind (va_Pc as (fun U => q_R G S M N U.heap ∧ va_K G.2.1 vwCl (q_tys G) U ∧ q_O G U U.heap ∧ G.1 ≤ U.heap.size)) ∧ ∀ U : State, U.heap = H → s.WarmedH U.vm → va_Pc as (fun U => q_R G S M N U.heap ∧ va_K G.2.1 vwCl (q_tys G) U ∧ q_O G U U.heap ∧ G.1 ≤ U.heap.size) as.toArray U := by
  obtain ⟨locs, hS⟩ := hS
  refine ⟨fun a U g mk q => ?_, fun U hU hW => ⟨rfl, by rw [hU]; exact hR, va_K.moved hW.alike hK, ?_, ?_⟩⟩
  · obtain ⟨q0, q1, q2, q3, q4⟩ := q
    exact ⟨q0, q1, va_K.moved (u := U) (U := U.calling g mk a) (Vm.Alike.refl U.vm) q2, q_O.same (u := U) (U := U.calling g mk a) rfl q3, q4⟩
  · rw [hU]
    exact q_O.warm hW (hO.kept hz hS.2.1)
  · rw [hU]
    exact Nat.le_trans hz hS.1
theorem q_recv {G : q_G} {S : q_Sh} {M : q_Mem} {N : q_MemL} {s : State} {H : Heap} {locs : List Loc} {cls : String} {b : Nat} (hb : q_rc S cls b) (hR : q_R G S M N H) (hS : va_S (q_A G) s.heap H locs) (hK : va_K G.2.1 vwCl (q_tys G) s) (hO : q_O G s s.heap) : ∃ cellB : Cell, H[q_ad G b]? = some cellB ∧ cellB.vm.isStatics = false ∧ s.vm.findClass cls = some cellB.cls := by
  rcases hb with ⟨ci, nn, vs, T, NF, h1, h2⟩ | ⟨i, h1, rfl, rfl⟩
  · rw [q_ad_new (hR.lt h1)]
    have hg := q_ws_get (G := G) (M := M) (N := N) h1
    rw [q_ent_obj (q_cls h2).1] at hg
    exact va_recv hK hR.2.2 h2 hg
  · obtain ⟨cell, g1, g2, g3, -⟩ := (hO.2.1 i h1).1.kept hS.2.1
    refine ⟨cell, ?_, g2, g3⟩
    rw [show q_ad G (1000 + 2 * i) = G.2.2.2.1 (2 * i) by unfold q_ad; rw [if_neg (by omega), Nat.add_sub_cancel_left]]
    exact g1

theorem st_callV {G : q_G} {d : Nat} {μ : q_M} {pc : Nat} {L : List (Option Value)} {S : q_Sh} {M : q_Mem} {N : q_MemL} {k n : Nat} {Q : q_Q} {idx d' kc nc : Nat} {μ' : q_M} {as rest : List Value} {Q' : q_Q} {b : Nat} (hd : decode μ.2.1 pc = .ok (.invokevirtual idx, 3)) (hl : q_lk μ.1.cls idx μ'.1) (hm : q_mk μ' as.length) (hi : q_mi μ') (hb : q_rc S μ'.1.cls b) (hd' : d' + 1 ≤ d) (hw : (rest.map fun v => v.category).sum ≤ 8) (hC : AC G d' μ' (.ref b :: as) S M N kc nc Q') (kk : ∀ v S' M' N', Q' v S' M' N' → AW G d μ (pc + 3) L (v.toList ++ rest) S' M' N' k n Q) : AW G d μ pc L (as.reverse ++ .ref b :: rest) S M N (k + kc) (n + nc) Q := by
  intro p e R s m args below meth c Z H locs ls cells slots C hR hS hL hcl hso hret
  obtain ⟨m1, m2, m3, m4, m5⟩ := hm
  have hts := C.2.2.2.2.1
  have hfr := C.2.2.2.2.2.2.2.2.2.2.2.1
  have hlo := C.2.2.2.2.2.2.2.2.2.2.2.2
  have hpre := q_pre (as := ((.ref b :: as)).map (q_cv G)) hR ⟨locs, hS⟩ C.2.2.2.2.2.1 C.2.2.2.2.2.2.1 C.2.2.2.2.2.2.2.1
  have hlen : ∀ sig, parseMethodDescriptor μ'.1.desc = some sig → as.length = sig.parameters.length := fun sig h => by
    rw [h] at m4
    exact (Option.some.inj m4).symm
  have hG : GoodIn q_W (.code μ'.1 μ'.2.1 μ'.2.2.1 μ'.2.2.2 :: q_W) := fun w hw => by
    rcases List.mem_cons.mp hw with rfl | h
    · exact q_W_good _ m1
    · exact q_W_good _ h
  have hsz : (F0 m pc ls ((as.reverse ++ .ref b :: rest).map (q_cv G))).locals.size = μ.2.2.1 := hL.size
  have hwc : 2 * (F0 m pc ls ((as.reverse ++ .ref b :: rest).map (q_cv G))).monitorRoom + ((rest.map (q_cv G)).map fun v => v.category).sum ≤ 8 := by
    have e : (rest.map (q_cv G)).map (fun v => v.category) = rest.map (fun v => v.category) := by rw [List.map_map]; exact List.map_congr_left fun v _ => q_cv_cat G v
    rw [e]
    show 2 * 0 + _ ≤ 8
    omega
  have hrun : va_Run p G.2.2.2.2.1 e R s m args below meth c H locs cells slots kc nc (F0 m pc ls ((as.reverse ++ .ref b :: rest).map (q_cv G))) (rest.map (q_cv G)) ((fun (_ : Array Value) (st : State) (o : Outcome) (t : State) => (∃ v S' M' N', o = .returned (v.map (q_cv G)) ∧ Q' v S' M' N' ∧ q_R G S' M' N' t.heap) ∧ va_F (q_A G) st t) (((.ref b :: as)).map (q_cv G)).toArray) (q_A G) := by
    rcases hl with hl | ⟨host, hl⟩
    · exact va_runV (Ts := q_W) (As := as.map (q_cv G)) ⟨C.1, C.2.1, C.2.2.1, C.2.2.2.1, hts⟩ hC ⟨⟨rfl, rfl, (by show d' + 1 ≤ R.frames; omega), (by show 8 + (μ'.2.2.1 + 11) + 60 * (d' + 1) ≤ R.locals; omega), pay_in hts hG, List.mem_cons_self, hts _ m1, hts _ m2, m3, hlen, hts _ hl⟩, hts _ hi.1, hts _ hi.2⟩ ⟨hpre.1, q_recv hb hR hS C.2.2.2.2.2.1 C.2.2.2.2.2.2.1, hpre.2⟩ rfl (List.length_map ..) hsz (by simp [q_cv]) hwc hd ⟨by omega, by omega⟩
    · have hl9 := C.2.2.2.2.2.2.1.2.2.2.2.2.1 _ _ _ _ hl
      exact va_runVN (Ts := q_W) (As := as.map (q_cv G)) ⟨C.1, C.2.1, C.2.2.1, C.2.2.2.1, hts⟩ hC ⟨⟨⟨rfl, rfl, (by show d' + 1 ≤ R.frames; omega), (by show 8 + (μ'.2.2.1 + 11) + 60 * (d' + 1) ≤ R.locals; omega), pay_in hts hG, List.mem_cons_self⟩, hts _ m1, hts _ m2, m3, hlen, va_Nw.use rfl hl9⟩, hts _ hi.1, hts _ hi.2⟩ ⟨hpre.1, q_recv hb hR hS C.2.2.2.2.2.1 C.2.2.2.2.2.2.1, hpre.2⟩ rfl (List.length_map ..) hsz (by simp [q_cv]) hwc hd ⟨by omega, by omega⟩
  intro T hT X
  obtain ⟨v, st₀, t, T', L9, h0, X', hL9, e1, e2, ⟨⟨v', S', M', N', hv, hq, hR'⟩, hz, hk9⟩, stp⟩ := hrun T hT X
  have hv9 : v = v'.map (q_cv G) := Outcome.returned.inj hv
  subst hv9
  rw [h0] at hz hk9
  have kw := kk v' S' M' N' hq p e R s m args below meth c Z T'.heap (locs ++ L9) ls (cells + kc) (slots + nc) C (by rw [e1]; exact hR')
    ⟨Nat.le_trans hS.1 (by rw [e1]; exact hz), fun q h1 h2 => by rw [e1, hk9 q (Nat.lt_of_lt_of_le h1 hS.1) h2]; exact hS.2.1 q h1 h2, fun q hq => by
      rcases List.mem_append.mp hq with h | h
      · exact hS.2.2 q h
      · exact hL9 q h⟩ hL (by omega) (by omega) (fun v S' M' N' H' locs' pc' ls' q1 q2 q3 q4 q5 => by
    rw [show cells + kc + k = cells + (k + kc) by omega, show slots + nc + n = slots + (n + nc) by omega]
    exact hret v S' M' N' H' locs' pc' ls' q1 q2 q3 q4 q5)
  have hst : (v'.toList ++ rest).map (q_cv G) = (v'.map (q_cv G)).toList ++ rest.map (q_cv G) := by cases v' <;> simp
  rw [hst] at kw
  obtain ⟨t2, a1, b1⟩ := kw T' rfl X'
  exact ⟨t2, stp t2 a1, b1⟩
theorem st_callS {G : q_G} {d : Nat} {μ : q_M} {pc : Nat} {L : List (Option Value)} {S : q_Sh} {M : q_Mem} {N : q_MemL} {k n : Nat} {Q : q_Q} {idx d' kc nc : Nat} {μ' : q_M} {as rest : List Value} {Q' : q_Q} (hd : decode μ.2.1 pc = .ok (.invokestatic idx, 3)) (hl : q_lk μ.1.cls idx μ'.1) (hm : q_mk μ' as.length) (hi : Cond.static μ'.1 ∈ q_W) (hd' : d' + 1 ≤ d) (hw : (rest.map fun v => v.category).sum ≤ 8) (hC : AC G d' μ' as S M N kc nc Q') (kk : ∀ v S' M' N', Q' v S' M' N' → AW G d μ (pc + 3) L (v.toList ++ rest) S' M' N' k n Q) : AW G d μ pc L (as.reverse ++ rest) S M N (k + kc) (n + nc) Q := by
  intro p e R s m args below meth c Z H locs ls cells slots C hR hS hL hcl hso hret
  obtain ⟨m1, m2, m3, m4, m5⟩ := hm
  have hts := C.2.2.2.2.1
  have hfr := C.2.2.2.2.2.2.2.2.2.2.2.1
  have hlo := C.2.2.2.2.2.2.2.2.2.2.2.2
  have hpre := q_pre (as := (as).map (q_cv G)) hR ⟨locs, hS⟩ C.2.2.2.2.2.1 C.2.2.2.2.2.2.1 C.2.2.2.2.2.2.2.1
  have hlen : ∀ sig, parseMethodDescriptor μ'.1.desc = some sig → as.length = sig.parameters.length := fun sig h => by
    rw [h] at m4
    exact (Option.some.inj m4).symm
  have hG : GoodIn q_W (.code μ'.1 μ'.2.1 μ'.2.2.1 μ'.2.2.2 :: q_W) := fun w hw => by
    rcases List.mem_cons.mp hw with rfl | h
    · exact q_W_good _ m1
    · exact q_W_good _ h
  have hsz : (F0 m pc ls ((as.reverse ++ rest).map (q_cv G))).locals.size = μ.2.2.1 := hL.size
  have hwc : 2 * (F0 m pc ls ((as.reverse ++ rest).map (q_cv G))).monitorRoom + ((rest.map (q_cv G)).map fun v => v.category).sum ≤ 8 := by
    have e : (rest.map (q_cv G)).map (fun v => v.category) = rest.map (fun v => v.category) := by rw [List.map_map]; exact List.map_congr_left fun v _ => q_cv_cat G v
    rw [e]
    show 2 * 0 + _ ≤ 8
    omega
  have hrun : va_Run p G.2.2.2.2.1 e R s m args below meth c H locs cells slots kc nc (F0 m pc ls ((as.reverse ++ rest).map (q_cv G))) (rest.map (q_cv G)) ((fun (_ : Array Value) (st : State) (o : Outcome) (t : State) => (∃ v S' M' N', o = .returned (v.map (q_cv G)) ∧ Q' v S' M' N' ∧ q_R G S' M' N' t.heap) ∧ va_F (q_A G) st t) ((as).map (q_cv G)).toArray) (q_A G) := by
    rcases hl with hl | ⟨host, hl⟩
    · exact va_runS (Ts := q_W) (As := as.map (q_cv G)) ⟨C.1, C.2.1, C.2.2.1, C.2.2.2.1, hts⟩ hC ⟨⟨rfl, rfl, (by show d' + 1 ≤ R.frames; omega), (by show 8 + (μ'.2.2.1 + 11) + 60 * (d' + 1) ≤ R.locals; omega), pay_in hts hG, List.mem_cons_self, hts _ m1, hts _ m2, m3, hlen, hts _ hl⟩, hts _ hi⟩ hpre rfl (List.length_map ..) hsz (by simp [q_cv]) hwc hd ⟨by omega, by omega⟩
    · have hl9 := C.2.2.2.2.2.2.1.2.2.2.2.2.1 _ _ _ _ hl
      exact va_runSN (Ts := q_W) (As := as.map (q_cv G)) ⟨C.1, C.2.1, C.2.2.1, C.2.2.2.1, hts⟩ hC ⟨⟨⟨rfl, rfl, (by show d' + 1 ≤ R.frames; omega), (by show 8 + (μ'.2.2.1 + 11) + 60 * (d' + 1) ≤ R.locals; omega), pay_in hts hG, List.mem_cons_self⟩, hts _ m1, hts _ m2, m3, hlen, va_Nw.use rfl hl9⟩, hts _ hi, trivial⟩ hpre rfl (List.length_map ..) hsz (by simp [q_cv]) hwc hd ⟨by omega, by omega⟩
  intro T hT X
  obtain ⟨v, st₀, t, T', L9, h0, X', hL9, e1, e2, ⟨⟨v', S', M', N', hv, hq, hR'⟩, hz, hk9⟩, stp⟩ := hrun T hT X
  have hv9 : v = v'.map (q_cv G) := Outcome.returned.inj hv
  subst hv9
  rw [h0] at hz hk9
  have kw := kk v' S' M' N' hq p e R s m args below meth c Z T'.heap (locs ++ L9) ls (cells + kc) (slots + nc) C (by rw [e1]; exact hR')
    ⟨Nat.le_trans hS.1 (by rw [e1]; exact hz), fun q h1 h2 => by rw [e1, hk9 q (Nat.lt_of_lt_of_le h1 hS.1) h2]; exact hS.2.1 q h1 h2, fun q hq => by
      rcases List.mem_append.mp hq with h | h
      · exact hS.2.2 q h
      · exact hL9 q h⟩ hL (by omega) (by omega) (fun v S' M' N' H' locs' pc' ls' q1 q2 q3 q4 q5 => by
    rw [show cells + kc + k = cells + (k + kc) by omega, show slots + nc + n = slots + (n + nc) by omega]
    exact hret v S' M' N' H' locs' pc' ls' q1 q2 q3 q4 q5)
  have hst : (v'.toList ++ rest).map (q_cv G) = (v'.map (q_cv G)).toList ++ rest.map (q_cv G) := by cases v' <;> simp
  rw [hst] at kw
  obtain ⟨t2, a1, b1⟩ := kw T' rfl X'
  exact ⟨t2, stp t2 a1, b1⟩
theorem st_callI {G : q_G} {d : Nat} {μ : q_M} {pc : Nat} {L : List (Option Value)} {S : q_Sh} {M : q_Mem} {N : q_MemL} {k n : Nat} {Q : q_Q} {idx d' kc nc : Nat} {μ' : q_M} {as rest : List Value} {Q' : q_Q} {b : Nat} (hd : decode μ.2.1 pc = .ok (.invokespecial idx, 3)) (hl : q_lk μ.1.cls idx μ'.1) (hm : q_mk μ' as.length) (hi : Cond.instanceMethod μ'.1 ∈ q_W) (hnm : μ'.1.name = "<init>") (hrt : μ'.2.2.2 = none) (hd' : d' + 1 ≤ d) (hw : (rest.map fun v => v.category).sum ≤ 8) (hC : AC G d' μ' (.ref b :: as) S M N kc nc Q') (kk : ∀ v S' M' N', Q' v S' M' N' → AW G d μ (pc + 3) L (v.toList ++ rest) S' M' N' k n Q) : AW G d μ pc L (as.reverse ++ .ref b :: rest) S M N (k + kc) (n + nc) Q := by
  intro p e R s m args below meth c Z H locs ls cells slots C hR hS hL hcl hso hret
  obtain ⟨y9, cc9, ml9, ret9⟩ := μ'
  cases hrt
  obtain ⟨m1, m2, m3, m4, m5⟩ := hm
  have m5 : ml9 ≤ 41 := m5
  have hts := C.2.2.2.2.1
  have hfr := C.2.2.2.2.2.2.2.2.2.2.2.1
  have hlo := C.2.2.2.2.2.2.2.2.2.2.2.2
  have hpre := q_pre (as := ((.ref b :: as)).map (q_cv G)) hR ⟨locs, hS⟩ C.2.2.2.2.2.1 C.2.2.2.2.2.2.1 C.2.2.2.2.2.2.2.1
  have hlen : ∀ sig, parseMethodDescriptor y9.desc = some sig → as.length = sig.parameters.length := fun sig h => by
    rw [h] at m4
    exact (Option.some.inj m4).symm
  have hG : GoodIn q_W (.code y9 cc9 ml9 none :: q_W) := fun w hw => by
    rcases List.mem_cons.mp hw with rfl | h
    · exact q_W_good _ m1
    · exact q_W_good _ h
  have hsz : (F0 m pc ls ((as.reverse ++ .ref b :: rest).map (q_cv G))).locals.size = μ.2.2.1 := hL.size
  have hwc : 2 * (F0 m pc ls ((as.reverse ++ .ref b :: rest).map (q_cv G))).monitorRoom + ((rest.map (q_cv G)).map fun v => v.category).sum ≤ 8 := by
    have e : (rest.map (q_cv G)).map (fun v => v.category) = rest.map (fun v => v.category) := by rw [List.map_map]; exact List.map_congr_left fun v _ => q_cv_cat G v
    rw [e]
    show 2 * 0 + _ ≤ 8
    omega
  have hrun : va_Run p G.2.2.2.2.1 e R s m args below meth c H locs cells slots kc nc (F0 m pc ls ((as.reverse ++ .ref b :: rest).map (q_cv G))) (rest.map (q_cv G)) ((fun (_ : Array Value) (st : State) (o : Outcome) (t : State) => (∃ v S' M' N', o = .returned (v.map (q_cv G)) ∧ Q' v S' M' N' ∧ q_R G S' M' N' t.heap) ∧ va_F (q_A G) st t) (((.ref b :: as)).map (q_cv G)).toArray) (q_A G) := by
    rcases hl with hl | ⟨host, hl⟩
    · exact va_runI (Ts := q_W) (As := as.map (q_cv G)) ⟨C.1, C.2.1, C.2.2.1, C.2.2.2.1, hts⟩ hC ⟨⟨rfl, rfl, (by show d' + 1 ≤ R.frames; omega), (by show 8 + (ml9 + 11) + 60 * (d' + 1) ≤ R.locals; omega), pay_in hts hG, List.mem_cons_self, hts _ m1, hts _ m2, m3, hlen, hts _ hl⟩, hnm, hts _ hi⟩ hpre rfl (List.length_map ..) hsz (by simp [q_cv]) hwc hd ⟨by omega, by omega⟩
    · have hl9 := C.2.2.2.2.2.2.1.2.2.2.2.2.1 _ _ _ _ hl
      exact va_runIN (Ts := q_W) (As := as.map (q_cv G)) ⟨C.1, C.2.1, C.2.2.1, C.2.2.2.1, hts⟩ hC ⟨⟨⟨rfl, rfl, (by show d' + 1 ≤ R.frames; omega), (by show 8 + (ml9 + 11) + 60 * (d' + 1) ≤ R.locals; omega), pay_in hts hG, List.mem_cons_self⟩, hts _ m1, hts _ m2, m3, hlen, va_Nw.use rfl hl9⟩, hnm, hts _ hi⟩ hpre rfl (List.length_map ..) hsz (by simp [q_cv]) hwc hd ⟨by omega, by omega⟩
  intro T hT X
  obtain ⟨v, st₀, t, T', L9, h0, X', hL9, e1, e2, ⟨⟨v', S', M', N', hv, hq, hR'⟩, hz, hk9⟩, stp⟩ := hrun T hT X
  have hv9 : v = v'.map (q_cv G) := Outcome.returned.inj hv
  subst hv9
  rw [h0] at hz hk9
  have kw := kk v' S' M' N' hq p e R s m args below meth c Z T'.heap (locs ++ L9) ls (cells + kc) (slots + nc) C (by rw [e1]; exact hR')
    ⟨Nat.le_trans hS.1 (by rw [e1]; exact hz), fun q h1 h2 => by rw [e1, hk9 q (Nat.lt_of_lt_of_le h1 hS.1) h2]; exact hS.2.1 q h1 h2, fun q hq => by
      rcases List.mem_append.mp hq with h | h
      · exact hS.2.2 q h
      · exact hL9 q h⟩ hL (by omega) (by omega) (fun v S' M' N' H' locs' pc' ls' q1 q2 q3 q4 q5 => by
    rw [show cells + kc + k = cells + (k + kc) by omega, show slots + nc + n = slots + (n + nc) by omega]
    exact hret v S' M' N' H' locs' pc' ls' q1 q2 q3 q4 q5)
  have hst : (v'.toList ++ rest).map (q_cv G) = (v'.map (q_cv G)).toList ++ rest.map (q_cv G) := by cases v' <;> simp
  rw [hst] at kw
  obtain ⟨t2, a1, b1⟩ := kw T' rfl X'
  exact ⟨t2, stp t2 a1, b1⟩
theorem st_objInit {G : q_G} {d : Nat} {μ : q_M} {pc : Nat} {L : List (Option Value)} {st : List Value} {S : q_Sh} {M : q_Mem} {N : q_MemL} {k n : Nat} {Q : q_Q} {a idx : Nat} (hd : decode μ.2.1 pc = .ok (.invokespecial idx, 3)) (hl : Cond.methodLink μ.1.cls idx Lib.objectInit ∈ q_W) (hi : Cond.instanceMethod Lib.objectInit ∈ q_W) (hc : Cond.code Lib.objectInit ⟨#[0xb1]⟩ 1 none ∈ q_W) (hd' : 1 ≤ d) (hw : (st.map fun v => v.category).sum ≤ 8) (kk : AW G d μ (pc + 3) L st S M N k n Q) : AW G d μ pc L (.ref a :: st) S M N k n Q := by
  refine AW.op (fun p e R s m args below meth c Z H locs ls cells slots C hR hS hL kw => ?_) kk
  refine W.objInit C.1 C.2.1 C.2.2.2.1 (C.2.2.2.2.1 _ hl) (C.2.2.2.2.1 _ hi) (C.2.2.2.2.1 _ hc) rfl (hL.size.trans C.2.2.1.symm) rfl hd ?_ ?_ kw
  · have := C.2.2.2.2.2.2.2.2.2.2.2.1
    omega
  · have h1 := C.2.2.2.2.2.2.2.2.2.2.2.2
    have e : (st.map (q_cv G)).map (fun v => v.category) = st.map (fun v => v.category) := by rw [List.map_map]; exact List.map_congr_left fun v _ => q_cv_cat G v
    rw [e]
    show 2 * 0 + _ + 12 ≤ R.locals
    omega
/-! what was there before: string constants, the script -/
theorem q_ad_old {G : q_G} (i : Nat) : q_ad G (1000 + i) = G.2.2.2.1 i := by unfold q_ad; rw [if_neg (by omega), Nat.add_sub_cancel_left]
theorem va_ldcwT {p : Program} {l : Launch} {e : Env} {R : Room} {s : State} {m : MethodId} {args : Array Value} {below : List Frame} {meth : Method} {c : Code} {T : State} {locs : List Loc} {cells slots : Nat}
    (X : Stand p l e R s m args below meth c T locs cells slots) (hexec : p.tables.exec = Jvm.exec) {own text : String} {index : Nat} {a : Addr} (hown : s.vm.findClass own = some m.cls)
    (hconst : (Cond.stringRef own index text).before args s = true) (hev : (Term.string own index).eval args s none [] s = some (.ref a)) {g : JFrame} (hg : g.method = m) (hdg : decode c.code g.pc = .ok (.ldc_w index, 3)) :
    ∀ target, Steps p.tables e below (T.setTop { g with pc := g.pc + 3, stack := .ref a :: g.stack }) target → Steps p.tables e below (T.setTop g) target := by
  obtain ⟨k, cf, i, a', hk, hcf, hcp, -, hr, hev'⟩ := Cond.stringRef_spec hown hconst
  cases hev.symm.trans hev'
  obtain ⟨k', hk', he⟩ := X.warmed.alike.2.2 _ _ hk
  have hr' : k'.resolved[index]? = some (some (.string a)) := by
    rcases X.warmed.entry hk hk' index with h | ⟨h, -⟩
    · rw [h]; exact hr
    · rw [hr] at h; cases h
  intro target hrest
  subst hg
  jvm_step X.here [hexec, hdg, ldc_w.wp_string (e := e) (s := T) (f := g) X.here.top hk' (by rw [he]; exact hcf) hcp hr']
  exact hrest
theorem vk_R.at {own tx : String} {k a : Nat} {A : Array Value} {s : State} (h : vk_R own k tx a s) : (Cond.stringRef own k tx).before A s = true ∧ (Term.string own k).eval A s none [] s = some (.ref a) := by
  exact ⟨h.1, h.2⟩
theorem st_ldcS {G : q_G} {d : Nat} {μ : q_M} {pc : Nat} {L : List (Option Value)} {st : List Value} {S : q_Sh} {M : q_Mem} {N : q_MemL} {k n : Nat} {Q : q_Q} {i idx : Nat} {tx : String} (hd : decode μ.2.1 pc = .ok (.ldc idx, 2)) (hw : q_str[i]? = some (μ.1.cls, idx, tx)) (kk : AW G d μ (pc + 2) L (.ref (1000 + 2 * i) :: st) S M N k n Q) : AW G d μ pc L st S M N k n Q := by
  refine AW.op (fun p e R s m args below meth c Z H locs ls cells slots C hR hS hL kw => ?_) kk
  rw [List.map_cons, show q_cv G (.ref (1000 + 2 * i)) = .ref (G.2.2.2.1 (2 * i)) from congrArg Value.ref (q_ad_old _)] at kw
  exact va_ldcS C.1 C.2.1 C.2.2.2.1 (C.2.2.2.2.2.2.1.1 i _ hw) hd kw
theorem st_ldcwS {G : q_G} {d : Nat} {μ : q_M} {pc : Nat} {L : List (Option Value)} {st : List Value} {S : q_Sh} {M : q_Mem} {N : q_MemL} {k n : Nat} {Q : q_Q} {i idx : Nat} {tx : String} (hd : decode μ.2.1 pc = .ok (.ldc_w idx, 3)) (hw : q_str[i]? = some (μ.1.cls, idx, tx)) (kk : AW G d μ (pc + 3) L (.ref (1000 + 2 * i) :: st) S M N k n Q) : AW G d μ pc L st S M N k n Q := by
  refine AW.op (fun p e R s m args below meth c Z H locs ls cells slots C hR hS hL kw => ?_) kk
  rw [List.map_cons, show q_cv G (.ref (1000 + 2 * i)) = .ref (G.2.2.2.1 (2 * i)) from congrArg Value.ref (q_ad_old _)] at kw
  obtain ⟨h1, h2⟩ := (C.2.2.2.2.2.2.1.1 i _ hw).at (A := args)
  intro T hT X
  obtain ⟨t, a1, b1⟩ := kw T hT X
  exact ⟨t, va_ldcwT X C.1 C.2.2.2.1 h1 h2 (g := F0 m pc ls (st.map (q_cv G))) rfl (by rw [C.2.1]; exact hd) t a1, b1⟩
theorem st_str_value {G : q_G} {d : Nat} {μ : q_M} {pc : Nat} {L : List (Option Value)} {st : List Value} {S : q_Sh} {M : q_Mem} {N : q_MemL} {k n : Nat} {Q : q_Q} {i idx : Nat} (hd : decode μ.2.1 pc = .ok (.getfield idx, 3)) (hi : i < q_nS) (hl : Cond.fieldLink μ.1.cls idx "java/lang/String" "value" "[B" ∈ q_W) (kk : AW G d μ (pc + 3) L (.ref (1000 + (2 * i + 1)) :: st) S M N k n Q) : AW G d μ pc L (.ref (1000 + 2 * i) :: st) S M N k n Q := by
  refine AW.op (fun p e R s m args below meth c Z H locs ls cells slots C hR hS hL kw => ?_) kk
  rw [List.map_cons, show q_cv G (.ref (1000 + (2 * i + 1))) = .ref (G.2.2.2.1 (2 * i + 1)) from congrArg Value.ref (q_ad_old _)] at kw
  rw [List.map_cons, show q_cv G (.ref (1000 + 2 * i)) = .ref (G.2.2.2.1 (2 * i)) from congrArg Value.ref (q_ad_old _)]
  exact vk_getf C.1 C.2.1 (C.2.2.2.2.2.2.1.2.1 i hi).2.2.1 hS C.2.2.2.1 (C.2.2.2.2.1 _ hl) (fun _ h => h) hd kw
theorem st_str_coder {G : q_G} {d : Nat} {μ : q_M} {pc : Nat} {L : List (Option Value)} {st : List Value} {S : q_Sh} {M : q_Mem} {N : q_MemL} {k n : Nat} {Q : q_Q} {i idx : Nat} (hd : decode μ.2.1 pc = .ok (.getfield idx, 3)) (hi : i < q_nS) (hl : Cond.fieldLink μ.1.cls idx "java/lang/String" "coder" "B" ∈ q_W) (kk : AW G d μ (pc + 3) L (I 0 :: st) S M N k n Q) : AW G d μ pc L (.ref (1000 + 2 * i) :: st) S M N k n Q := by
  refine AW.op (fun p e R s m args below meth c Z H locs ls cells slots C hR hS hL kw => ?_) kk
  rw [List.map_cons, show q_cv G (.ref (1000 + 2 * i)) = .ref (G.2.2.2.1 (2 * i)) from congrArg Value.ref (q_ad_old _)]
  exact vk_getf C.1 C.2.1 (C.2.2.2.2.2.2.1.2.1 i hi).2.1 hS C.2.2.2.1 (C.2.2.2.2.1 _ hl) (fun _ h => h) hd kw
theorem st_compact {G : q_G} {d : Nat} {μ : q_M} {pc : Nat} {L : List (Option Value)} {st : List Value} {S : q_Sh} {M : q_Mem} {N : q_MemL} {k n : Nat} {Q : q_Q} {idx : Nat} (hd : decode μ.2.1 pc = .ok (.getstatic idx, 3)) (hl : Cond.fieldLink μ.1.cls idx "java/lang/String" "COMPACT_STRINGS" "Z" ∈ q_W) (kk : AW G d μ (pc + 3) L (I 1 :: st) S M N k n Q) : AW G d μ pc L st S M N k n Q := by
  refine AW.op (fun p e R s m args below meth c Z H locs ls cells slots C hR hS hL kw => ?_) kk
  exact va_gets (v := .int 1) C.1 C.2.1 C.2.2.2.2.2.2.1.2.2.2.2.1 hS C.2.2.2.1 (C.2.2.2.2.1 _ hl) (fun _ h => h) hd kw
theorem st_str_alen {G : q_G} {d : Nat} {μ : q_M} {pc : Nat} {L : List (Option Value)} {st : List Value} {S : q_Sh} {M : q_Mem} {N : q_MemL} {k n : Nat} {Q : q_Q} {i : Nat} (hd : decode μ.2.1 pc = .ok (.arraylength, 1)) (hi : i < q_nS) (kk : AW G d μ (pc + 1) L (I (q_len.getD i 0 : Nat) :: st) S M N k n Q) : AW G d μ pc L (.ref (1000 + (2 * i + 1)) :: st) S M N k n Q := by
  refine AW.op (fun p e R s m args below meth c Z H locs ls cells slots C hR hS hL kw => ?_) kk
  rw [List.map_cons, show q_cv G (.ref (1000 + (2 * i + 1))) = .ref (G.2.2.2.1 (2 * i + 1)) from congrArg Value.ref (q_ad_old _)]
  exact va_tlen C.1 C.2.1 (C.2.2.2.2.2.2.1.2.1 i hi).2.2.2 hS (v := zi (q_len.getD i 0 : Nat)) Int32.ofInt_eq_ofNat.symm hd kw
theorem st_str_bald {G : q_G} {d : Nat} {μ : q_M} {pc : Nat} {L : List (Option Value)} {st : List Value} {S : q_Sh} {M : q_Mem} {N : q_MemL} {k n : Nat} {Q : q_Q} {i : Nat} {j : Int} (hd : decode μ.2.1 pc = .ok (.baload, 1)) (hi : i < q_nS) (h0 : 0 ≤ j) (h1 : j < (q_len.getD i 0 : Nat)) (hn : q_len.getD i 0 < 2147483648) (kk : AW G d μ (pc + 1) L (.int ((q_byt.getD i []).getD j.toNat 0) :: st) S M N k n Q) : AW G d μ pc L (I j :: .ref (1000 + (2 * i + 1)) :: st) S M N k n Q := by
  refine AW.op (fun p e R s m args below meth c Z H locs ls cells slots C hR hS hL kw => ?_) kk
  show W _ _ _ _ _ _ _ _ _ _ _ _ _ _ _ (F0 m pc ls (.int (zi j) :: .ref (q_ad G (1000 + (2 * i + 1))) :: st.map (q_cv G)))
  rw [q_ad_old]
  exact va_tb C.1 C.2.1 (C.2.2.2.2.2.2.1.2.1 i hi).2.2.2 hS (q_in h0 h1 hn) (v := .int ((q_byt.getD i []).getD j.toNat 0)) (by rw [q_cl h0 h1 hn]) hd kw
theorem st_slen {G : q_G} {d : Nat} {μ : q_M} {pc : Nat} {L : List (Option Value)} {st : List Value} {S : q_Sh} {M : q_Mem} {N : q_MemL} {k n : Nat} {Q : q_Q} (hd : decode μ.2.1 pc = .ok (.arraylength, 1)) (kk : AW G d μ (pc + 1) L (I G.2.2.2.2.2.1 :: st) S M N k n Q) : AW G d μ pc L (.ref 1999 :: st) S M N k n Q := by
  refine AW.op (fun p e R s m args below meth c Z H locs ls cells slots C hR hS hL kw => ?_) kk
  rw [List.map_cons, show q_cv G (.ref 1999) = .ref (G.2.2.2.1 999) from congrArg Value.ref (q_ad_old (G := G) 999)]
  have hO := C.2.2.2.2.2.2.1
  have kw : W p G.2.2.2.2.1 e R s m args below meth c H locs cells slots Z (F0 m (pc + 1) ls (.int (Int32.ofNat G.2.2.2.2.2.1) :: st.map (q_cv G))) := by
    rw [← Int32.ofInt_eq_ofNat]; exact kw
  exact va_slen C.1 C.2.1 hO.2.2.1 (Nat.lt_of_lt_of_le hO.2.2.2.1 C.2.2.2.2.2.2.2.1) (Nat.not_le.mpr hO.2.2.2.1) hS hd kw
theorem st_sld {G : q_G} {d : Nat} {μ : q_M} {pc : Nat} {L : List (Option Value)} {st : List Value} {S : q_Sh} {M : q_Mem} {N : q_MemL} {k n : Nat} {Q : q_Q} {j : Int} (hd : decode μ.2.1 pc = .ok (.iaload, 1)) (h0 : 0 ≤ j) (h1 : j < G.2.2.2.2.2.1) (hn : G.2.2.2.2.2.1 < 2147483648) (kk : AW G d μ (pc + 1) L (I (G.2.2.2.2.2.2 j.toNat).toInt :: st) S M N k n Q) : AW G d μ pc L (I j :: .ref 1999 :: st) S M N k n Q := by
  refine AW.op (fun p e R s m args below meth c Z H locs ls cells slots C hR hS hL kw => ?_) kk
  show W _ _ _ _ _ _ _ _ _ _ _ _ _ _ _ (F0 m pc ls (.int (zi j) :: .ref (q_ad G (1000 + 999)) :: st.map (q_cv G)))
  rw [q_ad_old]
  have hO := C.2.2.2.2.2.2.1
  refine va_sld C.1 C.2.1 hO.2.2.1 (Nat.lt_of_lt_of_le hO.2.2.2.1 C.2.2.2.2.2.2.2.1) (Nat.not_le.mpr hO.2.2.2.1) hS (q_in h0 h1 hn) hd ?_
  rw [q_cl h0 h1 hn, ← Int32.ofInt_toInt (G.2.2.2.2.2.2 j.toNat)]
  exact kw
/-- memory behind System.arraycopy of ints -/
def q_cp (M : q_Mem) (a0 a sp dp nn : Nat) : q_Mem := fun a' j => if a' = a then (if dp ≤ j ∧ j < dp + nn then M a0 (sp + (j - dp)) else M a j) else M a' j
theorem st_acopy {G : q_G} {d : Nat} {μ : q_M} {pc : Nat} {L : List (Option Value)} {st : List Value} {S : q_Sh} {M : q_Mem} {N : q_MemL} {k n : Nat} {Q : q_Q} {a0 a n0 n1 idx : Nat} {v0 v1 : List Value} {sp dp nn : Int} (hd : decode μ.2.1 pc = .ok (.invokestatic idx, 3)) (hl : Cond.methodLink μ.1.cls idx arraycopyName ∈ q_W) (w1 : Cond.native arraycopyName ∈ q_W) (w2 : Cond.static arraycopyName ∈ q_W) (w3 : Cond.initialized "java/lang/System" ∈ q_W)
    (hS0 : S[a0]? = some (20, n0, v0)) (hS1 : S[a]? = some (20, n1, v1)) (h1 : 0 ≤ sp) (h2 : 0 ≤ dp) (h3 : 0 ≤ nn) (h4 : sp + nn ≤ n0) (h5 : dp + nn ≤ n1) (hn0 : n0 < 100000) (hn1 : n1 < 100000) (hd' : 1 ≤ d) (hw : (st.map fun v => v.category).sum ≤ 8) (kk : AW G d μ (pc + 3) L st S (q_cp M a0 a sp.toNat dp.toNat nn.toNat) N k n Q) : AW G d μ pc L (I nn :: I dp :: .ref a :: I sp :: .ref a0 :: st) S M N k n Q := by
  intro p e R s m args below meth c Z H locs ls cells slots C hR hS hL hcl hso hret
  have ha0 := q_ws_get (G := G) (M := M) (N := N) hS0
  rw [q_ent_i] at ha0
  have ha1 := q_ws_get (G := G) (M := M) (N := N) hS1
  rw [q_ent_i] at ha1
  show W _ _ _ _ _ _ _ _ _ _ _ _ _ _ _ (F0 m pc ls (.int (zi nn) :: .int (zi dp) :: .ref (q_ad G a) :: .int (zi sp) :: .ref (q_ad G a0) :: st.map (q_cv G)))
  rw [q_ad_new (hR.lt hS0), q_ad_new (hR.lt hS1)]
  have c0 := zi_clamp (x := sp) (by omega)
  have c1 := zi_clamp (x := dp) (by omega)
  have c2 := zi_clamp (x := nn) (by omega)
  have t0 := zi_toInt (x := sp) (by omega)
  have t1 := zi_toInt (x := dp) (by omega)
  have t2 := zi_toInt (x := nn) (by omega)
  intro T hT X
  have hc0 : H[G.1 + a0]? = some (vp_cell (G.2.2.1 20) (n0, .inl (fun j => zi (M a0 j)))) := hR.2.2 a0 _ ha0
  have hc1 : H[G.1 + a]? = some (vp_cell (G.2.2.1 20) (n1, .inl (fun j => zi (M a j)))) := hR.2.2 a _ ha1
  have hts := C.2.2.2.2.1
  obtain ⟨-, k0, hk0, cm0, hkk0⟩ := (C.2.2.2.2.2.1.2 0 _ rfl).1 n0 (fun j => .int (zi (M a0 j)))
  obtain ⟨-, k1, hk1, cm1, hkk1⟩ := (C.2.2.2.2.2.1.2 0 _ rfl).1 n1 (fun j => .int (zi (M a j)))
  have nf : nativeFrameWords "java/lang/System" "arraycopy" 5 ≤ 40 := by decide
  have hlo := C.2.2.2.2.2.2.2.2.2.2.2.2
  have hfr := C.2.2.2.2.2.2.2.2.2.2.2.1
  have ecat : ((st.map (q_cv G)).map fun v => v.category).sum ≤ 8 := by
    have e : (st.map (q_cv G)).map (fun v => v.category) = st.map (fun v => v.category) := by rw [List.map_map]; exact List.map_congr_left fun v _ => q_cv_cat G v
    rw [e]; exact hw
  obtain ⟨vm', X', step⟩ := X.arraycopy C.1 C.2.2.2.1 (hts _ hl) (hts _ w1) (hts _ w2) (hts _ w3) (src := G.1 + a0) (dst := G.1 + a) (cs := vp_cell (G.2.2.1 20) (n0, .inl (fun j => zi (M a0 j)))) (cd := vp_cell (G.2.2.1 20) (n1, .inl (fun j => zi (M a j)))) (srcPos := zi sp) (destPos := zi dp) (n := zi nn) (by rw [hT]; exact hc0) (by rw [hT]; exact hc1)
    (fun _ h => by cases h) (fun _ h => by cases h) (fun h => by cases h) (fun h => by cases h) hk0 hk1 hkk0 hkk1 (by simp [refKind]) (by rw [zi_lt0 (by omega)]; omega) (by rw [zi_lt0 (by omega)]; omega) (by rw [zi_lt0 (by omega)]; omega)
    (by rw [t0, t2]; show ¬ _ > ((arrV _ n0 _).slots.size : Int); rw [arrV_size]; omega)
    (by rw [t1, t2]; show ¬ _ > ((arrV _ n1 _).slots.size : Int); rw [arrV_size]; omega)
    (fun vm₁ _ i hi => by
      have e : (vp_cell (G.2.2.1 20) (n0, .inl (fun j => zi (M a0 j)))).slots.getD ((zi sp).toNatClampNeg + i) .null = .int (zi (M a0 ((zi sp).toNatClampNeg + i))) := by
        show (arrV (G.2.2.1 20) n0 (fun j => .int (zi (M a0 j)))).slots.getD _ _ = _
        rw [Array.getD_eq_getD_getElem?, arrV_read _ _ (by rw [c0]; rw [c2] at hi; omega)]
        rfl
      refine ⟨?_, ?_⟩
      · rw [e]
        rfl
      · rw [e]
        exact trivial)
    (g := F0 m pc ls (.int (zi nn) :: .int (zi dp) :: .ref (G.1 + a) :: .int (zi sp) :: .ref (G.1 + a0) :: st.map (q_cv G))) rfl (hL.size.trans C.2.2.1.symm) (rest := st.map (q_cv G)) rfl (by rw [C.2.1]; exact hd) (by omega) (by show 2 * 0 + _ + _ ≤ _; omega)
  have e1 : copied (vp_cell (G.2.2.1 20) (n0, .inl (fun j => zi (M a0 j)))) (vp_cell (G.2.2.1 20) (n1, .inl (fun j => zi (M a j)))) (zi sp) (zi dp) (zi nn) = vp_cell (G.2.2.1 20) (n1, .inl (va_cpy (fun j => zi (M a0 j)) (fun j => zi (M a j)) (zi sp).toNatClampNeg (zi dp).toNatClampNeg (zi nn).toNatClampNeg)) := va_copied (n0 := n0) (n1 := n1) (sp := (zi sp).toNatClampNeg) (dp := (zi dp).toNatClampNeg) (n := (zi nn).toNatClampNeg) (fun z => Value.int z) (G.2.2.1 20) (G.2.2.1 20) (fun j => zi (M a0 j)) (fun j => zi (M a j)) (by rw [c0, c2]; omega)
  rw [e1] at X' step
  rw [c0, c1, c2] at X' step
  have hl9 : G.1 + a < H.size := (Array.getElem?_eq_some_iff.mp hc1).1
  generalize hcell : vp_cell (G.2.2.1 20) (n1, .inl (va_cpy (fun j => zi (M a0 j)) (fun j => zi (M a j)) sp.toNat dp.toNat nn.toNat)) = cl9 at X' step
  have hheap : ((T.setVm vm').setCell (G.1 + a) cl9).heap = H.setIfInBounds (G.1 + a) cl9 := by rw [← hT]; rfl
  have oq : ∀ q : Nat, q ≠ G.1 + a → (H.setIfInBounds (G.1 + a) cl9)[q]? = H[q]? := fun q hq => by simp [Array.getElem?_setIfInBounds, Ne.symm hq]
  have hR1 := hR.wr (M' := q_cp M a0 a sp.toNat dp.toNat nn.toNat) (N' := N) (e' := (20, n1, v1)) (H1 := H.setIfInBounds (G.1 + a) cl9) hS1 (fun j hj => by funext x; simp [q_cp, hj]) (fun _ _ => rfl) (by
    rw [q_ent_i]
    show (H.setIfInBounds (G.1 + a) cl9)[G.1 + a]? = some (vp_cell _ _)
    rw [← hcell]
    simp only [Array.getElem?_setIfInBounds, hl9, if_true]
    congr 4
    funext j
    simp only [va_cpy, q_cp, if_true]
    split <;> rfl) (by simp) oq
  rw [q_set_id hS1] at hR1
  obtain ⟨t, a1, b1⟩ := kk p e R s m args below meth c Z (H.setIfInBounds (G.1 + a) cl9) _ ls cells slots C hR1 ⟨by simp; exact hS.1, fun q g1 g2 => by
      rw [oq q (fun e => g2 (by rw [e]; exact Nat.le_add_right _ _))]
      exact hS.2.1 q g1 g2, fun q hq => by
      rcases List.mem_append.mp hq with h | h
      · exact hS.2.2 q h
      · obtain ⟨z, -, hz⟩ := List.mem_map.mp h
        rw [← hz]
        exact Nat.le_add_right _ _⟩ hL hcl hso hret _ hheap X'
  exact ⟨t, step t a1, b1⟩
theorem st_sioobe {G : q_G} {d : Nat} {μ : q_M} {pc : Nat} {L : List (Option Value)} {st : List Value} {S : q_Sh} {M : q_Mem} {N : q_MemL} {k n : Nat} {Q : q_Q} {idx : Nat} (hd : decode μ.2.1 pc = .ok (.getstatic idx, 3)) (hl : Cond.fieldLink μ.1.cls idx "jdk/internal/util/Preconditions" "SIOOBE_FORMATTER" "Ljava/util/function/BiFunction;" ∈ q_W) (kk : ∀ v, v = .null ∨ v = .ref 1998 → AW G d μ (pc + 3) L (v :: st) S M N k n Q) : AW G d μ pc L st S M N k n Q := by
  intro p e R s m args below meth c Z H locs ls cells slots C hR hS hL hcl hso hret
  rcases C.2.2.2.2.2.2.1.2.2.2.2.2.2.2.2 with hZ | hZ
  · exact va_gets (v := .null) C.1 C.2.1 hZ hS C.2.2.2.1 (C.2.2.2.2.1 _ hl) (fun _ h => h) hd (kk .null (Or.inl rfl) p e R s m args below meth c Z H locs ls cells slots C hR hS hL hcl hso hret)
  · have kw := kk (.ref 1998) (Or.inr rfl) p e R s m args below meth c Z H locs ls cells slots C hR hS hL hcl hso hret
    rw [List.map_cons, show q_cv G (.ref 1998) = .ref (G.2.2.2.1 998) from congrArg Value.ref (q_ad_old (G := G) 998)] at kw
    exact va_gets (v := .ref (G.2.2.2.1 998)) C.1 C.2.1 hZ hS C.2.2.2.1 (C.2.2.2.2.1 _ hl) (fun _ h => h) hd kw
/-- a parameter that may be null or not, moved about -/
theorem st_aload_nV {G : q_G} {d : Nat} {μ : q_M} {pc : Nat} {L : List (Option Value)} {st : List Value} {S : q_Sh} {M : q_Mem} {N : q_MemL} {k n : Nat} {Q : q_Q} {v : Value} {j : Fin 4} (hd : decode μ.2.1 pc = .ok (.aload_n j, 1)) (hv : L[(j : Nat)]? = some (some v)) (hr : v = .null ∨ ∃ a, v = .ref a) (kk : AW G d μ (pc + 1) L (v :: st) S M N k n Q) : AW G d μ pc L st S M N k n Q := by
  rcases hr with rfl | ⟨a, rfl⟩
  · exact st_aload_nN hd hv kk
  · exact st_aload_n hd hv kk

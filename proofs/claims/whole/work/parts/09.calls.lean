/-! methods: entry -/
def q_la : List Value → List (Option Value)
  | [] => []
  | v :: vs => if v.category = 2 then some v :: none :: q_la vs else some v :: q_la vs
theorem q_la_args (G : q_G) : ∀ (vs : List Value) (i j : Nat) (v : Value), (q_la vs)[j]? = some (some v) → (i + j, q_cv G v) ∈ lv_args i (vs.map (q_cv G))
  | [], i, j, v, h => by simp [q_la] at h
  | w :: vs, i, j, v, h => by
    rw [List.map_cons, lv_args]
    unfold q_la at h
    by_cases hc : w.category = 2
    · rw [if_pos hc] at h
      rw [if_pos (by rw [q_cv_cat]; exact hc)]
      match j, h with
      | 0, h => simp at h; subst h; exact List.mem_cons_self
      | 1, h => simp at h
      | j + 2, h =>
        have h2 := q_la_args G vs (i + 2) j v (by simpa using h)
        rw [show i + 2 + j = i + (j + 2) by omega] at h2
        exact List.mem_cons_of_mem _ h2
    · rw [if_neg hc] at h
      rw [if_neg (by rw [q_cv_cat]; exact hc)]
      match j, h with
      | 0, h => simp at h; subst h; exact List.mem_cons_self
      | j + 1, h =>
        have h2 := q_la_args G vs (i + 1) j v (by simpa using h)
        rw [show i + 1 + j = i + (j + 1) by omega] at h2
        exact List.mem_cons_of_mem _ h2
theorem q_la_len (G : q_G) : ∀ vs : List Value, (lg_sl (vs.map (q_cv G))).length = (q_la vs).length
  | [] => rfl
  | w :: vs => by
    have h := q_la_len G vs
    unfold q_la
    by_cases hc : w.category = 2
    · simp only [lg_sl, List.map_cons, List.flatMap_cons, q_cv_cat, hc, if_true, List.length_append, List.length_cons] at h ⊢
      simp only [List.length_nil]; omega
    · simp only [lg_sl, List.map_cons, List.flatMap_cons, q_cv_cat, hc, if_false, List.length_append, List.length_cons] at h ⊢
      simp only [List.length_nil]; omega
theorem q_W_good : GoodIn q_W q_W := fun w hw => ⟨hw, good_of_word (List.mem_filter.mp hw).2⟩
/-- the contract out of the walk -/
theorem AC.of {G : q_G} {d : Nat} {μ : q_M} {as : List Value} {L0 : List (Option Value)} {S : q_Sh} {M : q_Mem} {N : q_MemL} {k n : Nat} {Q : q_Q} (hy : plainName μ.1.cls = true) (hlen : (q_la as).length ≤ μ.2.2.1) (hL0 : q_la as ++ List.replicate (μ.2.2.1 - (q_la as).length) none = L0)
    (h : AW G d μ 0 L0 [] S M N k n Q) : AC G d μ as S M N k n Q := by
  refine Met.ofW (cc := μ.2.1) (maxL := μ.2.2.1) (ret := μ.2.2.2) hy rfl ?_
  intro p e s m args below meth c s₁ B hml hv
  obtain ⟨rfl, hR, hK, hO, hsz⟩ := hv
  have hts := atoms_spec (ws := .code μ.1 μ.2.1 μ.2.2.1 μ.2.2.2 :: q_W) B.pre
  have hown : s.vm.findClass μ.1.cls = some m.cls := findClass_of_methodNamed B.named
  have C : q_C G d μ p { frames := d, cells := k, slots := n, locals := 60 * (d + 1) } s m (as.map (q_cv G)).toArray meth c :=
    ⟨B.exec, B.bytes, hml, hown, fun w hw => hts w (List.mem_cons_of_mem _ hw), hK, hO, hsz, B.notSynchronized, B.returns, (name_of_methodNamed B.named B.method).1, Nat.le_refl _, Nat.le_refl _⟩
  have hl := lv_entry (as.map (q_cv G)) (n := μ.2.2.1) (by rw [q_la_len]; exact hlen)
  rw [lg_entry_eq]
  have hL : q_L G μ.2.2.1 L0 ((lg_sl (as.map (q_cv G)) ++ List.replicate (μ.2.2.1 - (lg_sl (as.map (q_cv G))).length) Slot.unset).toArray) := by
    subst hL0
    refine ⟨by simp; omega, _, hl, fun j v hj => ?_⟩
    have h9 : (q_la as)[j]? = some (some v) := by
      by_cases hj2 : j < (q_la as).length
      · rwa [List.getElem?_append_left hj2] at hj
      · rw [List.getElem?_append_right (by omega), List.getElem?_replicate] at hj
        split at hj <;> cases hj
    have := q_la_args G as 0 j v h9
    rwa [Nat.zero_add] at this
  have hr := B.returns
  have hlocks := B.notSynchronized
  refine h p e _ s m _ below meth c _ s.heap [] _ 0 0 C hR va_S.rf hL (by rw [Nat.zero_add]; exact Nat.le_refl _) (by rw [Nat.zero_add]; exact Nat.le_refl _) ?_
  intro v S' M' N' H' locs' pc' ls' hq hR' hS' hok hd
  rw [Nat.zero_add, Nat.zero_add]
  have post : ∀ (w : Option Value), w = v.map (q_cv G) → ∀ t : State, t.heap = H' → s.WarmedH t.vm → (fun (_ : Array Value) (st : State) (o : Outcome) (t : State) => (∃ v S' M' N', o = .returned (v.map (q_cv G)) ∧ Q v S' M' N' ∧ q_R G S' M' N' t.heap) ∧ va_F (q_A G) st t) (as.map (q_cv G)).toArray s (.returned w) t := fun w hw t ht hW => ⟨⟨v, S', M', N', by rw [hw], hq, by rw [ht]; exact hR'⟩, hS'.F ht⟩
  rcases hok with ⟨e1, rfl⟩ | ⟨ty, x, e1, rfl, e2⟩ | ⟨x, e1, rfl⟩ | ⟨ty, e1, e2, e3⟩
  · exact W.vret B.exec B.bytes (hr.trans e1) (post _ rfl) hS'.2.2 hd
  · exact W.zret B.exec B.bytes (hr.trans e1) e2 (post _ rfl) hS'.2.2 hd
  · exact W.lret B.exec B.bytes (hr.trans e1) (post _ rfl) hS'.2.2 hd
  · rcases e3 with rfl | ⟨a, rfl⟩
    · exact W.aret B.exec B.bytes (hr.trans e1) e2 (Or.inl rfl) (post _ rfl) hS'.2.2 hd
    · exact W.aret B.exec B.bytes (hr.trans e1) e2 (Or.inr ⟨_, rfl⟩) (post _ rfl) hS'.2.2 hd
/-! methods: calls -/
def q_lk (own : String) (idx : Nat) (y : MethodName) : Prop := Cond.methodLink own idx y ∈ q_W ∨ ∃ h, Cond.methodLinkNest own idx y h ∈ lw_tbl
def q_mk (μ : q_M) (na : Nat) : Prop := Cond.code μ.1 μ.2.1 μ.2.2.1 μ.2.2.2 ∈ q_W ∧ Cond.initialized μ.1.cls ∈ q_W ∧ (μ.1.cls ≠ "java/lang/invoke/MethodHandle" ∧ μ.1.cls ≠ "java/lang/invoke/VarHandle") ∧ (parseMethodDescriptor μ.1.desc).map (fun d => d.parameters.length) = some na ∧ μ.2.2.1 ≤ 41
def q_mi (μ : q_M) : Prop := Cond.instanceMethod μ.1 ∈ q_W ∧ Cond.selects μ.1.cls μ.1 μ.1 ∈ q_W
/-- the receiver is an object of that class -/
def q_rc (S : q_Sh) (cls : String) (b : Nat) : Prop := (∃ ci nn vs T NF, S[b]? = some (ci, nn, vs) ∧ vwCl[ci]? = some (cls, T, NF)) ∨ (∃ i, i < q_nS ∧ b = 1000 + 2 * i ∧ cls = "java/lang/String")
theorem q_pre {G : q_G} {S : q_Sh} {M : q_Mem} {N : q_MemL} {s : State} {H : Heap} {as : List Value} (hR : q_R G S M N H) (hS : ∃ locs, va_S (q_A G) s.heap H locs) (hK : va_K G.2.1 vwCl (q_tys G) s) (hO : q_O G s s.heap) (hz : G.1 ≤ s.heap.size) :
    FrameBlind (va_Pc as (fun U => q_R G S M N U.heap ∧ va_K G.2.1 vwCl (q_tys G) U ∧ q_O G U U.heap ∧ G.1 ≤ U.heap.size)) ∧ ∀ U : State, U.heap = H → s.WarmedH U.vm → va_Pc as (fun U => q_R G S M N U.heap ∧ va_K G.2.1 vwCl (q_tys G) U ∧ q_O G U U.heap ∧ G.1 ≤ U.heap.size) as.toArray U := by
  obtain ⟨locs, hS⟩ := hS
  refine ⟨fun a U g mk q => ?_, fun U hU hW => ⟨rfl, by rw [hU]; exact hR, va_K.moved hW.alike hK, ?_, ?_⟩⟩
  · obtain ⟨q0, q1, q2, q3, q4⟩ := q
    exact ⟨q0, q1, va_K.moved (u := U) (U := U.calling g mk a) (Vm.Alike.refl U.vm) q2, q_O.same (u := U) (U := U.calling g mk a) rfl q3, q4⟩
  · rw [hU]
    exact q_O.warm hW (hO.kept hz hS.2.1)
  · rw [hU]
    exact Nat.le_trans hz hS.1
theorem q_recv {G : q_G} {S : q_Sh} {M : q_Mem} {N : q_MemL} {s : State} {H : Heap} {locs : List Loc} {cls : String} {b : Nat} (hb : q_rc S cls b) (hR : q_R G S M N H) (hS : va_S (q_A G) s.heap H locs) (hK : va_K G.2.1 vwCl (q_tys G) s) (hO : q_O G s s.heap) : ∃ cellB : Cell, H[q_ad G b]? = some cellB ∧ cellB.vm.isStatics = false ∧ s.vm.findClass cls = some cellB.cls := by
  rcases hb with ⟨ci, nn, vs, T, NF, h1, h2⟩ | ⟨i, h1, rfl, rfl⟩
  · rw [q_ad_new (hR.lt h1)]
    have hg := q_ws_get (G := G) (M := M) (N := N) h1
    rw [q_ent_obj (q_cls h2).1] at hg
    exact va_recv hK hR.2.2 h2 hg
  · obtain ⟨cell, g1, g2, g3, -⟩ := (hO.2.1 i h1).1.kept hS.2.1
    refine ⟨cell, ?_, g2, g3⟩
    rw [show q_ad G (1000 + 2 * i) = G.2.2.2.1 (2 * i) by unfold q_ad; rw [if_neg (by omega), Nat.add_sub_cancel_left]]
    exact g1

theorem st_callV {G : q_G} {d : Nat} {μ : q_M} {pc : Nat} {L : List (Option Value)} {st : List Value} {S : q_Sh} {M : q_Mem} {N : q_MemL} {k n : Nat} {Q : q_Q} {idx d' kc nc : Nat} {μ' : q_M} {as rest : List Value} {Q' : q_Q} {b : Nat} (hd : decode μ.2.1 pc = .ok (.invokevirtual idx, 3)) (hl : q_lk μ.1.cls idx μ'.1) (hm : q_mk μ' as.length) (hi : q_mi μ') (hb : q_rc S μ'.1.cls b) (hd' : d' + 1 ≤ d) (hw : (rest.map fun v => v.category).sum ≤ 8) (hC : AC G d' μ' (.ref b :: as) S M N kc nc Q') (kk : ∀ v S' M' N', Q' v S' M' N' → AW G d μ (pc + 3) L (v.toList ++ rest) S' M' N' k n Q) : AW G d μ pc L (as.reverse ++ .ref b :: rest) S M N (k + kc) (n + nc) Q := by
  intro p e R s m args below meth c Z H locs ls cells slots C hR hS hL hcl hso hret
  obtain ⟨m1, m2, m3, m4, m5⟩ := hm
  have hts := C.2.2.2.2.1
  have hfr := C.2.2.2.2.2.2.2.2.2.2.2.1
  have hlo := C.2.2.2.2.2.2.2.2.2.2.2.2
  have hpre := q_pre (as := ((.ref b :: as)).map (q_cv G)) hR ⟨locs, hS⟩ C.2.2.2.2.2.1 C.2.2.2.2.2.2.1 C.2.2.2.2.2.2.2.1
  have hlen : ∀ sig, parseMethodDescriptor μ'.1.desc = some sig → as.length = sig.parameters.length := fun sig h => by
    rw [h] at m4
    exact (Option.some.inj m4).symm
  have hG : GoodIn q_W (.code μ'.1 μ'.2.1 μ'.2.2.1 μ'.2.2.2 :: q_W) := fun w hw => by
    rcases List.mem_cons.mp hw with rfl | h
    · exact q_W_good _ m1
    · exact q_W_good _ h
  have hsz : (F0 m pc ls ((as.reverse ++ .ref b :: rest).map (q_cv G))).locals.size = μ.2.2.1 := hL.size
  have hwc : 2 * (F0 m pc ls ((as.reverse ++ .ref b :: rest).map (q_cv G))).monitorRoom + ((rest.map (q_cv G)).map fun v => v.category).sum ≤ 8 := by
    have e : (rest.map (q_cv G)).map (fun v => v.category) = rest.map (fun v => v.category) := by rw [List.map_map]; exact List.map_congr_left fun v _ => q_cv_cat G v
    rw [e]
    show 2 * 0 + _ ≤ 8
    omega
  have hrun : va_Run p G.2.2.2.2.1 e R s m args below meth c H locs cells slots kc nc (F0 m pc ls ((as.reverse ++ .ref b :: rest).map (q_cv G))) (rest.map (q_cv G)) ((fun (_ : Array Value) (st : State) (o : Outcome) (t : State) => (∃ v S' M' N', o = .returned (v.map (q_cv G)) ∧ Q' v S' M' N' ∧ q_R G S' M' N' t.heap) ∧ va_F (q_A G) st t) (((.ref b :: as)).map (q_cv G)).toArray) (q_A G) := by
    rcases hl with hl | ⟨host, hl⟩
    · exact va_runV (Ts := q_W) (As := as.map (q_cv G)) ⟨C.1, C.2.1, C.2.2.1, C.2.2.2.1, hts⟩ hC ⟨⟨rfl, rfl, (by show d' + 1 ≤ R.frames; omega), (by show 8 + (μ'.2.2.1 + 11) + 60 * (d' + 1) ≤ R.locals; omega), pay_in hts hG, List.mem_cons_self, hts _ m1, hts _ m2, m3, hlen, hts _ hl⟩, hts _ hi.1, hts _ hi.2⟩ ⟨hpre.1, q_recv hb hR hS C.2.2.2.2.2.1 C.2.2.2.2.2.2.1, hpre.2⟩ rfl (List.length_map ..) hsz (by simp [q_cv]) hwc hd ⟨by omega, by omega⟩
    · have hl9 := C.2.2.2.2.2.2.1.2.2.2.2.2.1 _ _ _ _ hl
      exact va_runVN (Ts := q_W) (As := as.map (q_cv G)) ⟨C.1, C.2.1, C.2.2.1, C.2.2.2.1, hts⟩ hC ⟨⟨⟨rfl, rfl, (by show d' + 1 ≤ R.frames; omega), (by show 8 + (μ'.2.2.1 + 11) + 60 * (d' + 1) ≤ R.locals; omega), pay_in hts hG, List.mem_cons_self⟩, hts _ m1, hts _ m2, m3, hlen, va_Nw.use rfl hl9⟩, hts _ hi.1, hts _ hi.2⟩ ⟨hpre.1, q_recv hb hR hS C.2.2.2.2.2.1 C.2.2.2.2.2.2.1, hpre.2⟩ rfl (List.length_map ..) hsz (by simp [q_cv]) hwc hd ⟨by omega, by omega⟩
  intro T hT X
  obtain ⟨v, st₀, t, T', L9, h0, X', hL9, e1, e2, ⟨⟨v', S', M', N', hv, hq, hR'⟩, hz, hk9⟩, stp⟩ := hrun T hT X
  have hv9 : v = v'.map (q_cv G) := Outcome.returned.inj hv
  subst hv9
  rw [h0] at hz hk9
  have kw := kk v' S' M' N' hq p e R s m args below meth c Z T'.heap (locs ++ L9) ls (cells + kc) (slots + nc) C (by rw [e1]; exact hR')
    ⟨Nat.le_trans hS.1 (by rw [e1]; exact hz), fun q h1 h2 => by rw [e1, hk9 q (Nat.lt_of_lt_of_le h1 hS.1) h2]; exact hS.2.1 q h1 h2, fun q hq => by
      rcases List.mem_append.mp hq with h | h
      · exact hS.2.2 q h
      · exact hL9 q h⟩ hL (by omega) (by omega) (fun v S' M' N' H' locs' pc' ls' q1 q2 q3 q4 q5 => by
    rw [show cells + kc + k = cells + (k + kc) by omega, show slots + nc + n = slots + (n + nc) by omega]
    exact hret v S' M' N' H' locs' pc' ls' q1 q2 q3 q4 q5)
  have hst : (v'.toList ++ rest).map (q_cv G) = (v'.map (q_cv G)).toList ++ rest.map (q_cv G) := by cases v' <;> simp
  rw [hst] at kw
  obtain ⟨t2, a1, b1⟩ := kw T' rfl X'
  exact ⟨t2, stp t2 a1, b1⟩
theorem st_callS {G : q_G} {d : Nat} {μ : q_M} {pc : Nat} {L : List (Option Value)} {st : List Value} {S : q_Sh} {M : q_Mem} {N : q_MemL} {k n : Nat} {Q : q_Q} {idx d' kc nc : Nat} {μ' : q_M} {as rest : List Value} {Q' : q_Q} (hd : decode μ.2.1 pc = .ok (.invokestatic idx, 3)) (hl : q_lk μ.1.cls idx μ'.1) (hm : q_mk μ' as.length) (hi : Cond.static μ'.1 ∈ q_W) (hd' : d' + 1 ≤ d) (hw : (rest.map fun v => v.category).sum ≤ 8) (hC : AC G d' μ' as S M N kc nc Q') (kk : ∀ v S' M' N', Q' v S' M' N' → AW G d μ (pc + 3) L (v.toList ++ rest) S' M' N' k n Q) : AW G d μ pc L (as.reverse ++ rest) S M N (k + kc) (n + nc) Q := by
  intro p e R s m args below meth c Z H locs ls cells slots C hR hS hL hcl hso hret
  obtain ⟨m1, m2, m3, m4, m5⟩ := hm
  have hts := C.2.2.2.2.1
  have hfr := C.2.2.2.2.2.2.2.2.2.2.2.1
  have hlo := C.2.2.2.2.2.2.2.2.2.2.2.2
  have hpre := q_pre (as := (as).map (q_cv G)) hR ⟨locs, hS⟩ C.2.2.2.2.2.1 C.2.2.2.2.2.2.1 C.2.2.2.2.2.2.2.1
  have hlen : ∀ sig, parseMethodDescriptor μ'.1.desc = some sig → as.length = sig.parameters.length := fun sig h => by
    rw [h] at m4
    exact (Option.some.inj m4).symm
  have hG : GoodIn q_W (.code μ'.1 μ'.2.1 μ'.2.2.1 μ'.2.2.2 :: q_W) := fun w hw => by
    rcases List.mem_cons.mp hw with rfl | h
    · exact q_W_good _ m1
    · exact q_W_good _ h
  have hsz : (F0 m pc ls ((as.reverse ++ rest).map (q_cv G))).locals.size = μ.2.2.1 := hL.size
  have hwc : 2 * (F0 m pc ls ((as.reverse ++ rest).map (q_cv G))).monitorRoom + ((rest.map (q_cv G)).map fun v => v.category).sum ≤ 8 := by
    have e : (rest.map (q_cv G)).map (fun v => v.category) = rest.map (fun v => v.category) := by rw [List.map_map]; exact List.map_congr_left fun v _ => q_cv_cat G v
    rw [e]
    show 2 * 0 + _ ≤ 8
    omega
  have hrun : va_Run p G.2.2.2.2.1 e R s m args below meth c H locs cells slots kc nc (F0 m pc ls ((as.reverse ++ rest).map (q_cv G))) (rest.map (q_cv G)) ((fun (_ : Array Value) (st : State) (o : Outcome) (t : State) => (∃ v S' M' N', o = .returned (v.map (q_cv G)) ∧ Q' v S' M' N' ∧ q_R G S' M' N' t.heap) ∧ va_F (q_A G) st t) ((as).map (q_cv G)).toArray) (q_A G) := by
    rcases hl with hl | ⟨host, hl⟩
    · exact va_runS (Ts := q_W) (As := as.map (q_cv G)) ⟨C.1, C.2.1, C.2.2.1, C.2.2.2.1, hts⟩ hC ⟨⟨rfl, rfl, (by show d' + 1 ≤ R.frames; omega), (by show 8 + (μ'.2.2.1 + 11) + 60 * (d' + 1) ≤ R.locals; omega), pay_in hts hG, List.mem_cons_self, hts _ m1, hts _ m2, m3, hlen, hts _ hl⟩, hts _ hi⟩ hpre rfl (List.length_map ..) hsz (by simp [q_cv]) hwc hd ⟨by omega, by omega⟩
    · have hl9 := C.2.2.2.2.2.2.1.2.2.2.2.2.1 _ _ _ _ hl
      exact va_runSN (Ts := q_W) (As := as.map (q_cv G)) ⟨C.1, C.2.1, C.2.2.1, C.2.2.2.1, hts⟩ hC ⟨⟨⟨rfl, rfl, (by show d' + 1 ≤ R.frames; omega), (by show 8 + (μ'.2.2.1 + 11) + 60 * (d' + 1) ≤ R.locals; omega), pay_in hts hG, List.mem_cons_self⟩, hts _ m1, hts _ m2, m3, hlen, va_Nw.use rfl hl9⟩, hts _ hi, trivial⟩ hpre rfl (List.length_map ..) hsz (by simp [q_cv]) hwc hd ⟨by omega, by omega⟩
  intro T hT X
  obtain ⟨v, st₀, t, T', L9, h0, X', hL9, e1, e2, ⟨⟨v', S', M', N', hv, hq, hR'⟩, hz, hk9⟩, stp⟩ := hrun T hT X
  have hv9 : v = v'.map (q_cv G) := Outcome.returned.inj hv
  subst hv9
  rw [h0] at hz hk9
  have kw := kk v' S' M' N' hq p e R s m args below meth c Z T'.heap (locs ++ L9) ls (cells + kc) (slots + nc) C (by rw [e1]; exact hR')
    ⟨Nat.le_trans hS.1 (by rw [e1]; exact hz), fun q h1 h2 => by rw [e1, hk9 q (Nat.lt_of_lt_of_le h1 hS.1) h2]; exact hS.2.1 q h1 h2, fun q hq => by
      rcases List.mem_append.mp hq with h | h
      · exact hS.2.2 q h
      · exact hL9 q h⟩ hL (by omega) (by omega) (fun v S' M' N' H' locs' pc' ls' q1 q2 q3 q4 q5 => by
    rw [show cells + kc + k = cells + (k + kc) by omega, show slots + nc + n = slots + (n + nc) by omega]
    exact hret v S' M' N' H' locs' pc' ls' q1 q2 q3 q4 q5)
  have hst : (v'.toList ++ rest).map (q_cv G) = (v'.map (q_cv G)).toList ++ rest.map (q_cv G) := by cases v' <;> simp
  rw [hst] at kw
  obtain ⟨t2, a1, b1⟩ := kw T' rfl X'
  exact ⟨t2, stp t2 a1, b1⟩
theorem st_callI {G : q_G} {d : Nat} {μ : q_M} {pc : Nat} {L : List (Option Value)} {st : List Value} {S : q_Sh} {M : q_Mem} {N : q_MemL} {k n : Nat} {Q : q_Q} {idx d' kc nc : Nat} {μ' : q_M} {as rest : List Value} {Q' : q_Q} {b : Nat} (hd : decode μ.2.1 pc = .ok (.invokespecial idx, 3)) (hl : q_lk μ.1.cls idx μ'.1) (hm : q_mk μ' as.length) (hi : Cond.instanceMethod μ'.1 ∈ q_W) (hnm : μ'.1.name = "<init>") (hrt : μ'.2.2.2 = none) (hd' : d' + 1 ≤ d) (hw : (rest.map fun v => v.category).sum ≤ 8) (hC : AC G d' μ' (.ref b :: as) S M N kc nc Q') (kk : ∀ v S' M' N', Q' v S' M' N' → AW G d μ (pc + 3) L (v.toList ++ rest) S' M' N' k n Q) : AW G d μ pc L (as.reverse ++ .ref b :: rest) S M N (k + kc) (n + nc) Q := by
  intro p e R s m args below meth c Z H locs ls cells slots C hR hS hL hcl hso hret
  obtain ⟨y9, cc9, ml9, ret9⟩ := μ'
  cases hrt
  obtain ⟨m1, m2, m3, m4, m5⟩ := hm
  have m5 : ml9 ≤ 41 := m5
  have hts := C.2.2.2.2.1
  have hfr := C.2.2.2.2.2.2.2.2.2.2.2.1
  have hlo := C.2.2.2.2.2.2.2.2.2.2.2.2
  have hpre := q_pre (as := ((.ref b :: as)).map (q_cv G)) hR ⟨locs, hS⟩ C.2.2.2.2.2.1 C.2.2.2.2.2.2.1 C.2.2.2.2.2.2.2.1
  have hlen : ∀ sig, parseMethodDescriptor y9.desc = some sig → as.length = sig.parameters.length := fun sig h => by
    rw [h] at m4
    exact (Option.some.inj m4).symm
  have hG : GoodIn q_W (.code y9 cc9 ml9 none :: q_W) := fun w hw => by
    rcases List.mem_cons.mp hw with rfl | h
    · exact q_W_good _ m1
    · exact q_W_good _ h
  have hsz : (F0 m pc ls ((as.reverse ++ .ref b :: rest).map (q_cv G))).locals.size = μ.2.2.1 := hL.size
  have hwc : 2 * (F0 m pc ls ((as.reverse ++ .ref b :: rest).map (q_cv G))).monitorRoom + ((rest.map (q_cv G)).map fun v => v.category).sum ≤ 8 := by
    have e : (rest.map (q_cv G)).map (fun v => v.category) = rest.map (fun v => v.category) := by rw [List.map_map]; exact List.map_congr_left fun v _ => q_cv_cat G v
    rw [e]
    show 2 * 0 + _ ≤ 8
    omega
  have hrun : va_Run p G.2.2.2.2.1 e R s m args below meth c H locs cells slots kc nc (F0 m pc ls ((as.reverse ++ .ref b :: rest).map (q_cv G))) (rest.map (q_cv G)) ((fun (_ : Array Value) (st : State) (o : Outcome) (t : State) => (∃ v S' M' N', o = .returned (v.map (q_cv G)) ∧ Q' v S' M' N' ∧ q_R G S' M' N' t.heap) ∧ va_F (q_A G) st t) (((.ref b :: as)).map (q_cv G)).toArray) (q_A G) := by
    rcases hl with hl | ⟨host, hl⟩
    · exact va_runI (Ts := q_W) (As := as.map (q_cv G)) ⟨C.1, C.2.1, C.2.2.1, C.2.2.2.1, hts⟩ hC ⟨⟨rfl, rfl, (by show d' + 1 ≤ R.frames; omega), (by show 8 + (ml9 + 11) + 60 * (d' + 1) ≤ R.locals; omega), pay_in hts hG, List.mem_cons_self, hts _ m1, hts _ m2, m3, hlen, hts _ hl⟩, hnm, hts _ hi⟩ hpre rfl (List.length_map ..) hsz (by simp [q_cv]) hwc hd ⟨by omega, by omega⟩
    · have hl9 := C.2.2.2.2.2.2.1.2.2.2.2.2.1 _ _ _ _ hl
      exact va_runIN (Ts := q_W) (As := as.map (q_cv G)) ⟨C.1, C.2.1, C.2.2.1, C.2.2.2.1, hts⟩ hC ⟨⟨⟨rfl, rfl, (by show d' + 1 ≤ R.frames; omega), (by show 8 + (ml9 + 11) + 60 * (d' + 1) ≤ R.locals; omega), pay_in hts hG, List.mem_cons_self⟩, hts _ m1, hts _ m2, m3, hlen, va_Nw.use rfl hl9⟩, hnm, hts _ hi⟩ hpre rfl (List.length_map ..) hsz (by simp [q_cv]) hwc hd ⟨by omega, by omega⟩
  intro T hT X
  obtain ⟨v, st₀, t, T', L9, h0, X', hL9, e1, e2, ⟨⟨v', S', M', N', hv, hq, hR'⟩, hz, hk9⟩, stp⟩ := hrun T hT X
  have hv9 : v = v'.map (q_cv G) := Outcome.returned.inj hv
  subst hv9
  rw [h0] at hz hk9
  have kw := kk v' S' M' N' hq p e R s m args below meth c Z T'.heap (locs ++ L9) ls (cells + kc) (slots + nc) C (by rw [e1]; exact hR')
    ⟨Nat.le_trans hS.1 (by rw [e1]; exact hz), fun q h1 h2 => by rw [e1, hk9 q (Nat.lt_of_lt_of_le h1 hS.1) h2]; exact hS.2.1 q h1 h2, fun q hq => by
      rcases List.mem_append.mp hq with h | h
      · exact hS.2.2 q h
      · exact hL9 q h⟩ hL (by omega) (by omega) (fun v S' M' N' H' locs' pc' ls' q1 q2 q3 q4 q5 => by
    rw [show cells + kc + k = cells + (k + kc) by omega, show slots + nc + n = slots + (n + nc) by omega]
    exact hret v S' M' N' H' locs' pc' ls' q1 q2 q3 q4 q5)
  have hst : (v'.toList ++ rest).map (q_cv G) = (v'.map (q_cv G)).toList ++ rest.map (q_cv G) := by cases v' <;> simp
  rw [hst] at kw
  obtain ⟨t2, a1, b1⟩ := kw T' rfl X'
  exact ⟨t2, stp t2 a1, b1⟩
theorem st_objInit {G : q_G} {d : Nat} {μ : q_M} {pc : Nat} {L : List (Option Value)} {st : List Value} {S : q_Sh} {M : q_Mem} {N : q_MemL} {k n : Nat} {Q : q_Q} {a idx : Nat} (hd : decode μ.2.1 pc = .ok (.invokespecial idx, 3)) (hl : Cond.methodLink μ.1.cls idx Lib.objectInit ∈ q_W) (hi : Cond.instanceMethod Lib.objectInit ∈ q_W) (hc : Cond.code Lib.objectInit ⟨#[0xb1]⟩ 1 none ∈ q_W) (hd' : 1 ≤ d) (hw : (st.map fun v => v.category).sum ≤ 8) (kk : AW G d μ (pc + 3) L st S M N k n Q) : AW G d μ pc L (.ref a :: st) S M N k n Q := by
  refine AW.op (fun p e R s m args below meth c Z H locs ls cells slots C hR hS hL kw => ?_) kk
  refine W.objInit C.1 C.2.1 C.2.2.2.1 (C.2.2.2.2.1 _ hl) (C.2.2.2.2.1 _ hi) (C.2.2.2.2.1 _ hc) rfl (hL.size.trans C.2.2.1.symm) rfl hd ?_ ?_ kw
  · have := C.2.2.2.2.2.2.2.2.2.2.2.1
    omega
  · have h1 := C.2.2.2.2.2.2.2.2.2.2.2.2
    have e : (st.map (q_cv G)).map (fun v => v.category) = st.map (fun v => v.category) := by rw [List.map_map]; exact List.map_congr_left fun v _ => q_cv_cat G v
    rw [e]
    show 2 * 0 + _ + 12 ≤ R.locals
    omega

/-! the law's start: both sides made, nothing in them -/
theorem AW.wid {G : q_G} {d : Nat} {μ : q_M} {pc : Nat} {L : List (Option Value)} {st : List Value} {S : q_Sh} {M : q_Mem} {N : q_MemL} {k n k' n' : Nat} {Q : q_Q} (hk : k ≤ k') (hn : n ≤ n') (k0 : AW G d μ pc L st S M N k n Q) : AW G d μ pc L st S M N k' n' Q := by
  intro p e R s m args below meth c Z H locs ls cells slots C hR hS hL hc hs hr
  refine k0 p e R s m args below meth c Z H locs ls cells slots C hR hS hL (by omega) (by omega) (fun v S' M' N' H' locs' pc' ls' q a1 a2 a3 a4 => ?_)
  exact W.widen (k := cells + k') (n := slots + n') (by omega) (by omega) (hr v S' M' N' H' locs' pc' ls' q a1 a2 a3 a4)
theorem WI_zero {M : q_Mem} (e : ∀ a j, ¬ a = 112 → M a j = 0) (f : ∀ j, ¬ j = 29 → M 112 j = 0) (g : M 112 29 = 11) : WI M := by
  have hz : ∀ a, a ≤ 46 → Hz M a := fun a ha => ⟨fun j _ => e _ _ (by omega), fun j _ => e _ _ (by omega), fun j _ => e _ _ (by omega), fun j _ => e _ _ (by omega), fun j _ => e _ _ (by omega), fun j _ => e _ _ (by omega), fun j _ => e _ _ (by omega)⟩
  have hok : NowOk M := by
    unfold NowOk Hok
    simp [e]
  have z15 : (M 3 15).toNat = 0 := by rw [e 3 15 (by decide)]; rfl
  have z4 : (M 3 4).toNat = 0 := by rw [e 3 4 (by decide)]; rfl
  have z5 : (M 3 5).toNat = 0 := by rw [e 3 5 (by decide)]; rfl
  have z17 : (M 3 17).toNat = 0 := by rw [e 3 17 (by decide)]; rfl
  have hRT : RT M M := by
    refine ⟨?_, fun s hs => ?_, fun q hq => ?_, fun q hq => ?_, fun q hq => ?_⟩
    · simp [e]
      decide
    · rw [e 4 s (by decide)]
      exact hsum_0 (fun q _ => e 114 q (by decide))
    · rw [z4] at hq; omega
    · rw [z5] at hq; omega
    · rw [z17] at hq; omega
  have hP : RP M M (M 3 13) := ⟨fun q hq => by rw [z4] at hq; omega, fun t ht => by rw [z5] at ht; omega⟩
  have hRW : RW M M (M 3 12) := ⟨fun q hq => by rw [z4] at hq; omega, fun t ht => by rw [z5] at ht; omega⟩
  refine ⟨⟨⟨hok, hRT, hP, hRW, by simp [e]⟩, by simp [e], fun k _ _ => ?_, fun h => ?_, fun k hk => ?_, ?_, fun _ _ => 0, fun j _ => ?_, fun k hk => ?_, fun k hk => ?_⟩, hz 3 (by omega), ⟨hz 10 (by omega), fun k hk => hz _ (by omega)⟩, ⟨0, e 1 1 (by decide), by omega, f 20 (by decide), fun j hj => absurd hj (by omega)⟩, ⟨?_, ?_, fun k hk => ?_⟩, ⟨?_, fun k hk => ?_⟩, fun j => e 15 j (by decide), fun j => e 16 j (by decide), g, fun j => ?_⟩
  · rw [e 3 12 (by decide)]; exact g8_zero k
  · rw [e 3 3 (by decide)] at h; omega
  · rw [z15] at hk; omega
  · rw [f 45 (by decide), e 3 15 (by decide)]
  · rw [e 7 j (by decide)]
  · rw [z15] at hk; omega
  · rw [z15] at hk; omega
  · rw [e 0 6 (by decide)]; omega
  · rw [f 24 (by decide), e 0 6 (by decide)]
  · rw [e 0 6 (by decide)] at hk; omega
  · rw [e 0 4 (by decide)]; omega
  · rw [e 166 k (by decide), e (18 + 7 * k) 0 (by omega), e 0 4 (by decide)]
    refine ⟨Or.inl rfl, ?_, Or.inl rfl, fun h => absurd h (by decide)⟩
    simp
  · rw [e 85 j (by decide)]; omega
set_option maxRecDepth 100000 in
set_option maxHeartbeats 40000000 in
theorem law_all (G : q_G) (hL : G.2.2.2.2.2.1 ≤ 3072) : AW G 60 m_law 0 [some (.ref 1999), none, none, none] [] [] (fun _ _ => 0) (fun _ _ => 0) 600000 7302250 (fun v _ _ _ => v = some (I 1)) := by
  refine k_obj (ci := 10) (r := 0) (k := 599999) (n := 7302235) (vs := [.null, .null, .null, .null, .int 0, .null, .int 0, .null, .null, .null, .null, .null, .null, .null, .null]) (by decide +kernel) dL_law_0 rfl l_L_7 in_X10 k_X10_init.2.1 (by omega) (fun _ => rfl) tyX10 tyX10_ok (by decide +kernel) ?_
  refine st_dup dL_law_3 rfl ?_
  refine AW.to (S' := [(10, 15, [.null, .null, .null, .null, .int 0, .null, .int 0, .null, .null, .null, .null, .null, .null, .null, .null])]) ?_ (h6 := by rfl)
  refine st_callI (d' := 59) (as := []) (b := 0) (k := 599888) (n := 7288633) dL_law_4 l_L_9 k_X10_init n_X10_init rfl rfl (by omega) (Nat.le_of_ble_eq_true rfl) (N_X10 (by omega) (fun _ _ _ => rfl) (fun _ _ _ => rfl)) (fun v S1 M1 N1 hx => ?_)
  obtain ⟨rfl, rfl, e1, e2⟩ := hx
  rw [e1, e2]
  refine AW.to (st' := [.ref 0]) (S' := S0.take 112) ?_ (h3 := by rfl)
  refine st_astore_n (L' := [_, _, _, _]) dL_law_7 (by decide) rfl rfl ?_
  refine k_obj (ci := 11) (r := 112) (k := 599887) (n := 7288551) (vs := [.int 0, .null, .null, .null, .null, .null, .null, .null, .null, .null, .null, .null, .null, .null, .null, .null, .null, .null, .null, .null, .int 0, .int 0, .int 0, .int 0, .int 0, .int 0, .int 0, .int 0, .int 0, .int 0, .null, .null, .null, .null, .null, .null, .null, .null, .null, .null, .null, .null, .null, .null, .null, .int 0, .int 0, .int 0, .null, .null, .null, .int 0, .int 0, .null, .null, .int 0, .int 0, .int 0, .null, .null, .null, .int 0, .int 0, .int 0, .null, .int 0, .null, .null, .null, .null, .int 0, .null, .null, .int 0, .null, .null, .int 0, .null, .null, .null, .int 0, .int 0]) (by decide +kernel) dL_law_8 rfl l_L_10 in_X11 k_X11_init.2.1 (by omega) (fun _ => rfl) tyX11 tyX11_ok (by decide +kernel) ?_
  refine st_dup dL_law_11 rfl ?_
  refine st_callI (d' := 59) (as := []) (b := 112) (k := 599833) (n := 7265810) dL_law_12 l_L_12 k_X11_init n_X11_init rfl rfl (by omega) (Nat.le_of_ble_eq_true rfl) (N_X11 (P := S0.take 112) (by omega) (by decide +kernel) (fun _ _ _ => rfl) (fun _ _ _ => rfl)) (fun v S1 M1 N1 hx => ?_)
  obtain ⟨rfl, rfl, e1, e2⟩ := hx
  rw [e1, e2]
  refine AW.to (st' := [.ref 112]) (S' := S0) ?_ (h3 := by rfl) (h6 := List.take_append_drop 112 S0)
  refine st_astore_n (L' := [_, _, _, _]) dL_law_15 (by decide) rfl rfl ?_
  refine st_iconst dL_law_16 ?_
  refine st_istore_n (L' := [_, _, _, _]) dL_law_17 (by decide) rfl rfl ?_
  refine AW.wid (k := 0) (n := 0) (Nat.zero_le _) (Nat.zero_le _) ?_
  refine AW.mono (Q := q_up0 lawQ) (fun v S' M' N' q => ?_) (AW.to (LW_loop (by omega) hL (G.2.2.2.2.2.1 + 1) 0 _ _ (by omega) (by omega) (WI_zero (M := q_up (fun _ _ => 0) 112 29 11) (fun a j h => if_neg (by omega)) (fun j h => if_neg (by omega)) (if_pos ⟨rfl, rfl⟩))))
  obtain ⟨-, x, hx, hx2⟩ := q
  rw [hx, hx2]


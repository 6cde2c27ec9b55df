/-! the reference: the search by which a thing is carried -/
/-- those that came, in their order: by beats, then by who sang first -/
def LI (B : q_Mem) (L : caT) : Prop := (∀ i, i < L.length → CrW B (cg L i).1 ∧ (0 ≤ (cg L i).2.1 ∧ (cg L i).2.1 ≤ i) ∧ (0 ≤ (cg L i).2.2 ∧ (cg L i).2.2 < 128) ∧ ((cg L i).2.1 = 0 ↔ i = 0)) ∧ ∀ i j, i < j → j < L.length → (cg L i).2.1 ≤ (cg L j).2.1 ∧ ((cg L i).2.1 = (cg L j).2.1 → (cg L i).2.2 ≤ (cg L j).2.2)
/-- none is more than a beat behind this one, and those a beat behind came by no later singers -/
def LK (L : caT) (k : Nat) (f : Int) : Prop := ∀ i, i < L.length → (cg L i).2.1 ≤ (cg L k).2.1 + 1 ∧ ((cg L i).2.1 = (cg L k).2.1 + 1 → (cg L i).2.2 ≤ f)
theorem LK.mono {L : caT} {k : Nat} {f f' : Int} (h : LK L k f) (hf : f ≤ f') : LK L k f' := fun i hi => ⟨(h i hi).1, fun e => Int.le_trans ((h i hi).2 e) hf⟩
theorem LI.app {B : q_Mem} {L : caT} {k : Nat} {w b f : Int} (h : LI B L) (hk : k < L.length) (hb : b = (cg L k).2.1 + 1) (hK : LK L k f) (hw : CrW B w) (hf : 0 ≤ f ∧ f < 128) : LI B (L ++ [(w, b, f)]) := by
  obtain ⟨h1, h2⟩ := h
  have hkk := h1 k hk
  refine ⟨fun i hi => ?_, fun i j hij hj => ?_⟩
  · rw [List.length_append, List.length_singleton] at hi
    by_cases e : i = L.length
    · rw [e, cg_eq]
      refine ⟨hw, ?_, hf, ?_⟩
      · show 0 ≤ b ∧ b ≤ (L.length : Nat)
        omega
      · show b = 0 ↔ L.length = 0
        omega
    · rw [cg_lt (by omega)]
      exact h1 i (by omega)
  · rw [List.length_append, List.length_singleton] at hj
    by_cases e : j = L.length
    · rw [e, cg_eq, cg_lt (by omega)]
      have := hK i (by omega)
      refine ⟨?_, fun q => ?_⟩
      · show (cg L i).2.1 ≤ b
        omega
      · have q : (cg L i).2.1 = b := q
        show (cg L i).2.2 ≤ f
        exact this.2 (by omega)
    · rw [cg_lt (show i < L.length by omega), cg_lt (show j < L.length by omega)]
      exact h2 i j hij (by omega)
theorem LK.app {L : caT} {k : Nat} {w b f : Int} (hk : k < L.length) (hb : b = (cg L k).2.1 + 1) (h : LK L k f) : LK (L ++ [(w, b, f)]) k f := by
  intro i hi
  rw [List.length_append, List.length_singleton] at hi
  rw [cg_lt hk]
  by_cases e : i = L.length
  · rw [e, cg_eq]
    exact ⟨by show b ≤ _; omega, fun _ => Int.le_refl f⟩
  · rw [cg_lt (show i < L.length by omega)]
    exact h i (by omega)
abbrev crX : List Nat := [112, 113, 116, 120, 143, 144, 152, 153]
/-- what the search leaves of the state as it was -/
def CrS (Ma M : q_Mem) : Prop := Exc crX Ma M ∧ (∀ j, ¬ j = 61 → ¬ j = 62 → ¬ j = 63 → M 112 j = Ma 112 j) ∧ ∀ j, ¬ j = 6 → M 113 j = Ma 113 j
theorem CrS.rt {B Ma M : q_Mem} (hN : RN B Ma) (h : CrS Ma M) : RT B M ∧ RP B M (B 3 13) := ⟨hN.2.1.exc h.1 (fun j j6 _ => h.2.2 j j6) (by decide), hN.2.2.1.exc h.1 (by decide) (by decide)⟩
def CrP (M : q_Mem) (R : Int × Int) : Value → q_Mem → q_MemL → Prop := fun v M' _ => Qk M M' ∧ v = I (if R.1 < 0 then R.1 else 0) ∧ (0 ≤ R.1 → M' 112 62 = R.1 ∧ M' 112 63 = R.2)
theorem C_findsCarrying {G : q_G} {d : Nat} {B M : q_Mem} {N : q_MemL} {t : Nat} {s : Int} (hd : 4 ≤ d) (hN : RN B M) (hz : Zd (B 3 4).toNat (B 3 5).toNat (B 3 12)) (ht : t < (B 3 5).toNat) (hs : i32 s) (hne : ¬ g8 (B 3 12) (7 + t) = s) : AC0 G d m_X11_findsCarrying [.ref 112, I t, I s] M N (CV (CrP M (A_search B t s))) := by
  unfold i32 at hs
  obtain ⟨hB, -, -, -, -⟩ := id hN
  obtain ⟨h0, h1, h2, h3, h4, h5, h6, h11, h12, -⟩ := id hB
  have hpw : pw (B 3 4).toNat = ((2 ^ (B 3 4).toNat : Nat) : Int) := rfl
  have hP7 : 2 ^ (B 3 4).toNat ≤ 2 ^ 7 := Nat.pow_le_pow_right (by omega) (by omega)
  have h128 : (2 : Nat) ^ 7 = 128 := rfl
  have hnW : ∀ w k, CrW B (nxt B 3 w (setV k)) := fun w k => ⟨nxt_rng h3, fun j hj hc => by
    rw [nxt_g8 h3 hj]
    unfold homeAft aftD
    rw [if_neg (fun y => hc (Or.inl y)), if_neg (fun y => hc (Or.inr y))]⟩
  rw [show A_search B t s = bfO B (goalC t s) 600 0 [(B 3 12, 0, 0)] from if_neg hne]
  refine AC.of (L0 := [_, _, _, none, none, none, none]) pn_X11 (Nat.le_of_ble_eq_true rfl) rfl ?_
  refine st_aload_n dX11_findsCarrying_0 rfl ?_
  refine c_V0v (d' := d - 1) dX11_findsCarrying_1 l_X11_485 k_X11_keepsAll i_X11_keepsAll (Or.inl ⟨_, _, _, _, _, (by first | with_reducible assumption | rfl), by rfl⟩) (by omega) (Nat.le_of_ble_eq_true rfl) (C_keepsAll (by omega)) (fun Ma Na hx => ?_)
  obtain ⟨rfl, hF⟩ := hx
  have hNa := hN.exc hF.1 (by decide)
  refine st_aload_n dX11_findsCarrying_4 rfl ?_
  refine st_iconst dX11_findsCarrying_5 ?_
  refine st_putfi dX11_findsCarrying_6 w_X11_533 (by first | with_reducible assumption | rfl) (by rfl) rfl rfl ?_
  refine st_aload_n dX11_findsCarrying_9 rfl ?_
  refine st_iconst dX11_findsCarrying_10 ?_
  refine st_putfi dX11_findsCarrying_11 w_X11_543 (by first | with_reducible assumption | rfl) (by rfl) rfl rfl ?_
  refine st_aload_n dX11_findsCarrying_14 rfl ?_
  refine st_iconst dX11_findsCarrying_15 ?_
  refine st_iconst dX11_findsCarrying_16 ?_
  -- the end
  have fin : ∀ (R : Int × Int) (x : Int) (M1 : q_Mem) (N1 : q_MemL) (l4 l5 l6 : Option Value), CrS Ma M1 → ((M1 112 62 = -1 ∧ x = 0 ∧ R = (-3, -3)) ∨ (M1 112 62 = -1 ∧ x = 1 ∧ R = (-4, -4)) ∨ ((0 ≤ R.1 ∧ R.1 < 100000) ∧ M1 112 62 = R.1 ∧ M1 112 63 = R.2)) → AW0 G d m_X11_findsCarrying 210 [some (.ref 112), some (I t), some (I s), some (I x), l4, l5, l6] [] M1 N1 (CV (CrP M R)) := by
    intro R x M1 N1 l4 l5 l6 hS hR
    refine st_aload_n dX11_findsCarrying_210 rfl ?_
    refine c_V0v (d' := d - 1) dX11_findsCarrying_211 l_X11_488 k_X11_laysBack i_X11_laysBack (Or.inl ⟨_, _, _, _, _, (by first | with_reducible assumption | rfl), by rfl⟩) (by omega) (Nat.le_of_ble_eq_true rfl) (C_laysBack (by omega)) (fun M2 N2 hx2 => ?_)
    obtain ⟨rfl, hb⟩ := hx2
    have hq := hF.back hS.1 hb (by decide) (by decide) (fun j hj => by
      simp only [List.mem_cons, List.not_mem_nil, or_false] at hj
      exact hS.2.1 j (by omega) (by omega) (by omega))
    have e62 : M2 112 62 = M1 112 62 := hb.2.2.1 62 (by decide) (by decide) (by decide)
    have e63 : M2 112 63 = M1 112 63 := hb.2.2.1 63 (by decide) (by decide) (by decide)
    refine st_aload_n dX11_findsCarrying_214 rfl ?_
    refine st_getfi dX11_findsCarrying_215 f_X11_543 (by first | with_reducible assumption | rfl) (by rfl) ?_
    refine st_iconst dX11_findsCarrying_218 ?_
    rw [e62]
    rcases hR with ⟨r1, r2, r3⟩ | ⟨r1, r2, r3⟩ | ⟨r1, r2, r3⟩
    · rw [r1]
      refine st_icmp_eq (tgt := 226) dX11_findsCarrying_219 (by omega) (by omega) rfl (fun h => ?_) (fun h => ?_)
      · refine st_iload_n dX11_findsCarrying_226 rfl ?_
        subst r2
        refine st_if_eq (tgt := 235) dX11_findsCarrying_227 (by omega) rfl (fun h9 => ?_) (fun h9 => ?_)
        · refine st_bipush dX11_findsCarrying_235 (by decide) ?_
          rw [r3]
          refine r_i dX11_findsCarrying_237 rfl ⟨hq, rfl, fun z => absurd z (by decide)⟩
        · skip
          omega
      · skip
        omega
    · rw [r1]
      refine st_icmp_eq (tgt := 226) dX11_findsCarrying_219 (by omega) (by omega) rfl (fun h => ?_) (fun h => ?_)
      · refine st_iload_n dX11_findsCarrying_226 rfl ?_
        subst r2
        refine st_if_eq (tgt := 235) dX11_findsCarrying_227 (by omega) rfl (fun h9 => ?_) (fun h9 => ?_)
        · skip
          omega
        · refine st_bipush dX11_findsCarrying_230 (by decide) ?_
          refine st_goto (tgt := 237) dX11_findsCarrying_232 rfl ?_
          rw [r3]
          refine r_i dX11_findsCarrying_237 rfl ⟨hq, rfl, fun z => absurd z (by decide)⟩
      · skip
        omega
    · rw [r2]
      refine st_icmp_eq (tgt := 226) dX11_findsCarrying_219 (by omega) (by omega) rfl (fun h => ?_) (fun h => ?_)
      · skip
        omega
      · refine st_iconst dX11_findsCarrying_222 ?_
        refine st_goto (tgt := 237) dX11_findsCarrying_223 rfl ?_
        refine r_i dX11_findsCarrying_237 rfl ⟨hq, by rw [if_neg (by omega)], fun _ => ⟨by rw [e62]; exact r2, by rw [e63]; exact r3⟩⟩
  -- one way to sing
  have st1 : ∀ (Q : q_Q0) (L : caT) (k who : Nat) (M1 : q_Mem) (N1 : q_MemL) (l6 : Option Value), CrS Ma M1 → CrR B M1 N1 L → LI B L → k < L.length → who < 2 ^ (B 3 4).toNat → (∀ (M2 : q_Mem), CrS Ma M2 → CrR B M2 N1 L → M2 112 = M1 112 → RW B M2 (nxt B 3 (cg L k).1 (setV who)) → AW0 G d m_X11_findsCarrying 126 [some (.ref 112), some (I t), some (I s), some (I 0), some (I k), some (I who), some (I (frF k (cg L k).2.2 who))] [] M2 N1 Q) →
      AW0 G d m_X11_findsCarrying 81 [some (.ref 112), some (I t), some (I s), some (I 0), some (I k), some (I who), l6] [] M1 N1 Q := by
    intro Q L k who M1 N1 l6 hS hR hL hk hw kk
    obtain ⟨r1, r2, r3⟩ := id hR
    have lk := hL.1 k hk
    have rt := hS.rt hNa
    refine st_aload_n dX11_findsCarrying_81 rfl ?_
    refine st_aload_n dX11_findsCarrying_82 rfl ?_
    refine st_getfr dX11_findsCarrying_83 f_X11_140 (by first | with_reducible assumption | rfl) (by rfl) ?_
    refine st_iload dX11_findsCarrying_86 rfl ?_
    refine st_laldK (k' := k) dX11_findsCarrying_88 (by first | with_reducible assumption | rfl) rfl (by omega) (hn := by decide) ?_
    rw [(r3 k hk).1]
    refine c_V1v (d' := d - 1) dX11_findsCarrying_89 l_X11_549 k_X11_laysStoreys i_X11_laysStoreys (Or.inl ⟨_, _, _, _, _, (by first | with_reducible assumption | rfl), by rfl⟩) (by omega) (Nat.le_of_ble_eq_true rfl) (C_laysStoreys hB rt.1) (fun M2 N2 hx2 => ?_)
    obtain ⟨rfl, hE2, hW2⟩ := hx2
    have hT2 : RT B M2 := rt.1.exc hE2 (fun j _ _ => by rw [hE2 113 (by decide)]) (by decide)
    refine st_aload_n dX11_findsCarrying_92 rfl ?_
    refine st_iload dX11_findsCarrying_93 rfl ?_
    refine c_V1v (d' := d - 1) dX11_findsCarrying_95 l_X11_553 k_X11_sings i_X11_sings (Or.inl ⟨_, _, _, _, _, (by first | with_reducible assumption | rfl), by rfl⟩) (by omega) (Nat.le_of_ble_eq_true rfl) (C_sings hB hT2 (by omega)) (fun M3 N3 hx3 => ?_)
    obtain ⟨rfl, hE3, hv3⟩ := hx3
    have hT3 : RT B M3 := hT2.exc hE3 (fun j _ _ => by rw [hE3 113 (by decide)]) (by decide)
    have hS3 : RS B M3 (cg L k).1 (M3 113 6) := ⟨hT3, (rt.2.exc hE2 (by decide) (by decide)).exc hE3 (by decide) (by decide), hW2.exc hE3 (by decide) (by decide), rfl⟩
    refine st_aload_n dX11_findsCarrying_98 rfl ?_
    refine c_V0v (d' := d - 1) dX11_findsCarrying_99 l_X11_453 k_X11_beats i_X11_beats (Or.inl ⟨_, _, _, _, _, (by first | with_reducible assumption | rfl), by rfl⟩) (by omega) (Nat.le_of_ble_eq_true rfl) (C_rBeats (by omega) hB hS3 (fun q hq => by rw [hv3 q hq]; exact setV_rng who q)) (fun M4 N4 hx4 => ?_)
    obtain ⟨rfl, hE4, hj4, -, -, hS4⟩ := hx4
    rw [nxt_congr (v' := setV who) rfl rfl rfl hv3] at hS4
    have e112 : M4 112 = M1 112 := by rw [hE4 112 (by decide), hE3 112 (by decide), hE2 112 (by decide)]
    have hS5 : CrS Ma M4 := ⟨((hS.1.tr (hE2.sub (by decide))).tr (hE3.sub (by decide))).tr (hE4.sub (by decide)), fun j a b c => by rw [e112]; exact hS.2.1 j a b c, fun j j6 => by rw [hj4 j j6, hE3 113 (by decide), hE2 113 (by decide)]; exact hS.2.2 j j6⟩
    have hR5 : CrR B M4 N4 L := ⟨by rw [e112]; exact r1, r2, fun i hi => ⟨(r3 i hi).1, by rw [hE4 152 (by decide), hE3 152 (by decide), hE2 152 (by decide)]; exact (r3 i hi).2.1, by rw [hE4 153 (by decide), hE3 153 (by decide), hE2 153 (by decide)]; exact (r3 i hi).2.2⟩⟩
    refine st_aload_n dX11_findsCarrying_102 rfl ?_
    refine st_getfr dX11_findsCarrying_103 f_X11_134 (by first | with_reducible assumption | rfl) (by rfl) ?_
    refine st_iload dX11_findsCarrying_106 rfl ?_
    first | refine st_ialdK (k' := _) dX11_findsCarrying_108 (by first | with_reducible assumption | rfl) rfl (by omega) (hn := by first | decide | omega) ?_ | refine st_iald dX11_findsCarrying_108 (by first | with_reducible assumption | rfl) (by omega) (by omega) (hn := by first | decide | omega) ?_
    rw [(hR5.2.2 k hk).2.1]
    refine st_if_ne (tgt := 117) dX11_findsCarrying_109 (by omega) rfl (fun h => ?_) (fun h => ?_)
    · refine st_aload_n dX11_findsCarrying_117 rfl ?_
      refine st_getfr dX11_findsCarrying_118 f_X11_137 (by first | with_reducible assumption | rfl) (by rfl) ?_
      refine st_iload dX11_findsCarrying_121 rfl ?_
      first | refine st_ialdK (k' := _) dX11_findsCarrying_123 (by first | with_reducible assumption | rfl) rfl (by omega) (hn := by first | decide | omega) ?_ | refine st_iald dX11_findsCarrying_123 (by first | with_reducible assumption | rfl) (by omega) (by omega) (hn := by first | decide | omega) ?_
      rw [(hR5.2.2 k hk).2.2]
      refine st_istore (L' := [_, _, _, _, _, _, _]) dX11_findsCarrying_124 (by decide) rfl rfl ?_
      have hk0 : ¬ k = 0 := fun z => h (lk.2.2.2.2 z)
      exact AW.to (kk M4 hS5 hR5 e112 hS4.2.2.1) (h2 := by rw [show frF k (cg L k).2.2 who = (cg L k).2.2 from if_neg hk0])
    · refine st_iload dX11_findsCarrying_112 rfl ?_
      refine st_goto (tgt := 124) dX11_findsCarrying_114 rfl ?_
      refine st_istore (L' := [_, _, _, _, _, _, _]) dX11_findsCarrying_124 (by decide) rfl rfl ?_
      have hk0 : k = 0 := lk.2.2.2.1 h
      exact AW.to (kk M4 hS5 hR5 e112 hS4.2.2.1) (h2 := by rw [show frF k (cg L k).2.2 who = (who : Int) from if_pos hk0])
  have by_rng : ∀ (L : caT) (k who : Nat), LI B L → k < L.length → who < 2 ^ (B 3 4).toNat → 0 ≤ frF k (cg L k).2.2 who ∧ frF k (cg L k).2.2 who < 128 := by
    intro L k who hL hk hw
    have := (hL.1 k hk).2.2.1
    unfold frF
    split <;> omega
  have by_mono : ∀ (L : caT) (k who : Nat), frF k (cg L k).2.2 who ≤ frF k (cg L k).2.2 (who + 1) := by
    intro L k who
    unfold frF
    split <;> omega
  have stp : ∀ (L : caT) (hL : LI B L) (hl : L.length ≤ 600) (i : Nat), i < L.length → (0 ≤ (cg L i).2.1 ∧ (cg L i).2.1 < 100000) ∧ 0 ≤ (cg L i).2.2 ∧ (cg L i).2.2 < 128 := fun L hL hl i hi => by
    have := hL.1 i hi
    omega
  -- behind a find: the ways of one situation
  have fI : ∀ (Q : q_Q0) (L : caT) (k : Nat) (fb ff : Int), LI B L → k < L.length → (cg L k).2.1 + 1 = fb → fb < 100000 → 0 ≤ ff → (∀ (M2 : q_Mem) (N2 : q_MemL) (l5 l6 : Option Value), CrS Ma M2 → CrR B M2 N2 L → M2 112 62 = fb → M2 112 63 = ff → AW0 G d m_X11_findsCarrying 204 [some (.ref 112), some (I t), some (I s), some (I 0), some (I k), l5, l6] [] M2 N2 Q) →
      ∀ (q who : Nat) (M1 : q_Mem) (N1 : q_MemL) (l6 : Option Value), who + q = 2 ^ (B 3 4).toNat → CrS Ma M1 → CrR B M1 N1 L → M1 112 62 = fb → M1 112 63 = ff → ff ≤ frF k (cg L k).2.2 who → LK L k (frF k (cg L k).2.2 who) → AW0 G d m_X11_findsCarrying 64 [some (.ref 112), some (I t), some (I s), some (I 0), some (I k), some (I who), l6] [] M1 N1 Q := by
    intro Q L k fb ff hL hk hfb hfr hf0 kk q
    induction q with
    | zero =>
      intro who M1 N1 l6 hq hS hR e62 e63 hff hK
      have rt := hS.rt hNa
      refine st_iload dX11_findsCarrying_64 rfl ?_
      refine st_iconst dX11_findsCarrying_66 ?_
      refine st_aload_n dX11_findsCarrying_67 rfl ?_
      refine st_getfr dX11_findsCarrying_68 f_X11_9 (by first | with_reducible assumption | rfl) (by rfl) ?_
      refine st_iconst dX11_findsCarrying_71 ?_
      refine st_ialdK (k' := 3) dX11_findsCarrying_72 (by first | with_reducible assumption | rfl) rfl (by omega) (hn := by first | decide | omega) ?_
      rw [rt.1.1.2.2.2.1, show B 3 4 = (((B 3 4).toNat : Nat) : Int) by omega]
      refine st_ishl dX11_findsCarrying_73 ?_
      refine AW.top (z_pw (by omega)) ?_
      rw [hpw]
      refine st_icmp_ge (tgt := 204) dX11_findsCarrying_74 (by omega) (by omega) rfl (fun h => ?_) (fun h => ?_)
      · skip
        exact kk M1 N1 _ _ hS hR e62 e63
      · skip
        omega
    | succ q ih =>
      intro who M1 N1 l6 hq hS hR e62 e63 hff hK
      have rt := hS.rt hNa
      have hwl : who < 2 ^ (B 3 4).toNat := by omega
      have rby := by_rng L k who hL hk hwl
      have hl6 := hR.2.1
      refine st_iload dX11_findsCarrying_64 rfl ?_
      refine st_iconst dX11_findsCarrying_66 ?_
      refine st_aload_n dX11_findsCarrying_67 rfl ?_
      refine st_getfr dX11_findsCarrying_68 f_X11_9 (by first | with_reducible assumption | rfl) (by rfl) ?_
      refine st_iconst dX11_findsCarrying_71 ?_
      refine st_ialdK (k' := 3) dX11_findsCarrying_72 (by first | with_reducible assumption | rfl) rfl (by omega) (hn := by first | decide | omega) ?_
      rw [rt.1.1.2.2.2.1, show B 3 4 = (((B 3 4).toNat : Nat) : Int) by omega]
      refine st_ishl dX11_findsCarrying_73 ?_
      refine AW.top (z_pw (by omega)) ?_
      rw [hpw]
      refine st_icmp_ge (tgt := 204) dX11_findsCarrying_74 (by omega) (by omega) rfl (fun h => ?_) (fun h => ?_)
      · skip
        omega
      · refine st_iload_n dX11_findsCarrying_77 rfl ?_
        refine st_if_ne (tgt := 204) dX11_findsCarrying_78 (by omega) rfl (fun h2 => ?_) (fun h2 => ?_)
        · skip
          omega
        · skip
          refine st1 Q L k who M1 N1 l6 hS hR hL hk hwl (fun M2 hS2 hR2 e112 hW2 => ?_)
          have f62 : M2 112 62 = fb := by rw [e112]; exact e62
          have f63 : M2 112 63 = ff := by rw [e112]; exact e63
          have rt2 := hS2.rt hNa
          have lk := stp L hL hR.2.1 k hk
          have gg := g8_lt (nxt B 3 (cg L k).1 (setV who)) (7 + t)
          have on : ∀ (M3 : q_Mem) (x : Int), M3 = M2 → x = 0 → AW0 G d m_X11_findsCarrying 198 [some (.ref 112), some (I t), some (I s), some (I x), some (I k), some (I who), some (I (frF k (cg L k).2.2 who))] [] M3 N1 Q := by
            intro M3 x e3 ex
            subst e3
            subst ex
            refine st_iinc (L' := [_, _, _, _, _, _, _]) dX11_findsCarrying_198 rfl (by decide) rfl rfl ?_
            refine st_goto (tgt := 64) dX11_findsCarrying_201 rfl ?_
            exact AW.to (ih (who + 1) M3 N1 (some (I (frF k (cg L k).2.2 who))) (by omega) hS2 hR2 f62 f63 (Int.le_trans hff (by_mono L k who)) (hK.mono (by_mono L k who))) (h2 := by simp)
          refine st_aload_n dX11_findsCarrying_126 rfl ?_
          refine st_getfr dX11_findsCarrying_127 f_X11_31 (by first | with_reducible assumption | rfl) (by rfl) ?_
          refine st_iload_n dX11_findsCarrying_130 rfl ?_
          first | refine st_ialdK (k' := _) dX11_findsCarrying_131 (by first | with_reducible assumption | rfl) rfl (by omega) (hn := by first | decide | omega) ?_ | refine st_iald dX11_findsCarrying_131 (by first | with_reducible assumption | rfl) (by omega) (by omega) (hn := by first | decide | omega) ?_
          rw [hW2.2 t ht]
          refine st_iload_n dX11_findsCarrying_132 rfl ?_
          refine st_icmp_ne (tgt := 182) dX11_findsCarrying_133 (by omega) (by omega) rfl (fun h3 => ?_) (fun h3 => ?_)
          · refine st_aload_n dX11_findsCarrying_182 rfl ?_
            refine st_aload_n dX11_findsCarrying_183 rfl ?_
            refine st_getfr dX11_findsCarrying_184 f_X11_134 (by first | with_reducible assumption | rfl) (by rfl) ?_
            refine st_iload dX11_findsCarrying_187 rfl ?_
            first | refine st_ialdK (k' := _) dX11_findsCarrying_189 (by first | with_reducible assumption | rfl) rfl (by omega) (hn := by first | decide | omega) ?_ | refine st_iald dX11_findsCarrying_189 (by first | with_reducible assumption | rfl) (by omega) (by omega) (hn := by first | decide | omega) ?_
            rw [(hR2.2.2 k hk).2.1]
            refine st_iconst dX11_findsCarrying_190 ?_
            refine st_iadd dX11_findsCarrying_191 ?_
            refine st_iload dX11_findsCarrying_192 rfl ?_
            refine c_V2i (d' := d - 1) dX11_findsCarrying_194 l_X11_546 k_X11_comes i_X11_comes (Or.inl ⟨_, _, _, _, _, (by first | with_reducible assumption | rfl), by rfl⟩) (by omega) (Nat.le_of_ble_eq_true rfl) (C_comes (L := L) (w := nxt B 3 (cg L k).1 (setV who)) (by omega) hB rt2.1 hW2 hR2 (fun i hi => (hL.1 i hi).1) (hnW _ _) (by omega) rby (stp L hL hR.2.1) (fun i hi e => (hK i hi).2 e) (by omega)) (fun v M3 N3 hx3 => ?_)
            rcases hx3 with ⟨-, rfl, rfl, rfl⟩ | ⟨-, -, rfl, rfl, rfl⟩ | ⟨-, z, -⟩ | ⟨-, z, -⟩
            · refine st_istore_n (L' := [_, _, _, _, _, _, _]) dX11_findsCarrying_197 (by decide) rfl rfl ?_
              exact on M3 0 rfl rfl
            · refine st_istore_n (L' := [_, _, _, _, _, _, _]) dX11_findsCarrying_197 (by decide) rfl rfl ?_
              exact on M3 0 rfl rfl
            · exact absurd z (by omega)
            · exact absurd z (by omega)
          · refine st_aload_n dX11_findsCarrying_136 rfl ?_
            refine st_aload_n dX11_findsCarrying_137 rfl ?_
            refine st_getfi dX11_findsCarrying_138 f_X11_543 (by first | with_reducible assumption | rfl) (by rfl) ?_
            refine st_iconst dX11_findsCarrying_141 ?_
            rw [f62]
            refine st_icmp_eq (tgt := 154) dX11_findsCarrying_142 (by omega) (by omega) rfl (fun h4 => ?_) (fun h4 => ?_)
            · skip
              omega
            · refine st_iload dX11_findsCarrying_145 rfl ?_
              refine st_aload_n dX11_findsCarrying_147 rfl ?_
              refine st_getfi dX11_findsCarrying_148 f_X11_556 (by first | with_reducible assumption | rfl) (by rfl) ?_
              rw [f63]
              refine st_icmp_ge (tgt := 159) dX11_findsCarrying_151 (by omega) (by omega) rfl (fun h5 => ?_) (fun h5 => ?_)
              · refine st_aload_n dX11_findsCarrying_159 rfl ?_
                refine st_getfi dX11_findsCarrying_160 f_X11_556 (by first | with_reducible assumption | rfl) (by rfl) ?_
                rw [f63]
                refine st_putfi dX11_findsCarrying_163 w_X11_556 (by first | with_reducible assumption | rfl) (by rfl) rfl rfl ?_
                have u1 : q_up M2 112 63 ff = M2 := q_up_id f63.symm
                rw [u1]
                refine st_aload_n dX11_findsCarrying_166 rfl ?_
                refine st_aload_n dX11_findsCarrying_167 rfl ?_
                refine st_getfr dX11_findsCarrying_168 f_X11_134 (by first | with_reducible assumption | rfl) (by rfl) ?_
                refine st_iload dX11_findsCarrying_171 rfl ?_
                first | refine st_ialdK (k' := _) dX11_findsCarrying_173 (by first | with_reducible assumption | rfl) rfl (by omega) (hn := by first | decide | omega) ?_ | refine st_iald dX11_findsCarrying_173 (by first | with_reducible assumption | rfl) (by omega) (by omega) (hn := by first | decide | omega) ?_
                rw [(hR2.2.2 k hk).2.1]
                refine st_iconst dX11_findsCarrying_174 ?_
                refine st_iadd dX11_findsCarrying_175 ?_
                refine st_putfi dX11_findsCarrying_176 w_X11_543 (by first | with_reducible assumption | rfl) (by rfl) rfl rfl ?_
                rw [hfb]
                have u2 : q_up M2 112 62 fb = M2 := q_up_id f62.symm
                rw [u2]
                refine st_goto (tgt := 198) dX11_findsCarrying_179 rfl ?_
                exact on M2 0 rfl rfl
              · skip
                omega
  -- behind a find: all others
  have fO2 : ∀ (L : caT) (fb ff : Int), LI B L → L.length ≤ 600 → 0 ≤ fb ∧ fb < 100000 → 0 ≤ ff → ∀ (p k : Nat) (M1 : q_Mem) (N1 : q_MemL) (l5 l6 : Option Value), k + p = 601 → CrS Ma M1 → CrR B M1 N1 L → M1 112 62 = fb → M1 112 63 = ff → (∀ i, k ≤ i → i < L.length → (cg L i).2.1 < fb → (cg L i).2.1 + 1 = fb ∧ ff ≤ (cg L i).2.2 ∧ 1 ≤ i ∧ LK L i (cg L i).2.2) → AW0 G d m_X11_findsCarrying 26 [some (.ref 112), some (I t), some (I s), some (I 0), some (I k), l5, l6] [] M1 N1 (CV (CrP M (fb, ff))) := by
    intro L fb ff hL hl hfr hf0 p
    induction p with
    | zero =>
      intro k M1 N1 l5 l6 hk hS hR e62 e63 hH
      refine st_iload dX11_findsCarrying_26 rfl ?_
      refine st_aload_n dX11_findsCarrying_28 rfl ?_
      refine st_getfi dX11_findsCarrying_29 f_X11_533 (by first | with_reducible assumption | rfl) (by rfl) ?_
      rw [hR.1]
      refine st_icmp_ge (tgt := 210) dX11_findsCarrying_32 (by omega) (by omega) rfl (fun h => ?_) (fun h => ?_)
      · skip
        exact fin (fb, ff) 0 M1 N1 _ _ _ hS (Or.inr (Or.inr ⟨hfr, e62, e63⟩))
      · skip
        omega
    | succ p ih =>
      intro k M1 N1 l5 l6 hk hS hR e62 e63 hH
      refine st_iload dX11_findsCarrying_26 rfl ?_
      refine st_aload_n dX11_findsCarrying_28 rfl ?_
      refine st_getfi dX11_findsCarrying_29 f_X11_533 (by first | with_reducible assumption | rfl) (by rfl) ?_
      rw [hR.1]
      refine st_icmp_ge (tgt := 210) dX11_findsCarrying_32 (by omega) (by omega) rfl (fun h => ?_) (fun h => ?_)
      · skip
        exact fin (fb, ff) 0 M1 N1 _ _ _ hS (Or.inr (Or.inr ⟨hfr, e62, e63⟩))
      · refine st_iload_n dX11_findsCarrying_35 rfl ?_
        have hkl : k < L.length := by omega
        have lk := stp L hL hl k hkl
        refine st_if_ne (tgt := 210) dX11_findsCarrying_36 (by omega) rfl (fun h2 => ?_) (fun h2 => ?_)
        · skip
          omega
        · refine st_aload_n dX11_findsCarrying_39 rfl ?_
          refine st_getfi dX11_findsCarrying_40 f_X11_543 (by first | with_reducible assumption | rfl) (by rfl) ?_
          refine st_iconst dX11_findsCarrying_43 ?_
          rw [e62]
          refine st_icmp_eq (tgt := 61) dX11_findsCarrying_44 (by omega) (by omega) rfl (fun h3 => ?_) (fun h3 => ?_)
          · skip
            omega
          · refine st_aload_n dX11_findsCarrying_47 rfl ?_
            refine st_getfr dX11_findsCarrying_48 f_X11_134 (by first | with_reducible assumption | rfl) (by rfl) ?_
            refine st_iload dX11_findsCarrying_51 rfl ?_
            first | refine st_ialdK (k' := _) dX11_findsCarrying_53 (by first | with_reducible assumption | rfl) rfl (by omega) (hn := by first | decide | omega) ?_ | refine st_iald dX11_findsCarrying_53 (by first | with_reducible assumption | rfl) (by omega) (by omega) (hn := by first | decide | omega) ?_
            rw [(hR.2.2 k hkl).2.1]
            refine st_aload_n dX11_findsCarrying_54 rfl ?_
            refine st_getfi dX11_findsCarrying_55 f_X11_543 (by first | with_reducible assumption | rfl) (by rfl) ?_
            rw [e62]
            refine st_icmp_ge (tgt := 210) dX11_findsCarrying_58 (by omega) (by omega) rfl (fun h4 => ?_) (fun h4 => ?_)
            · skip
              exact fin (fb, ff) 0 M1 N1 _ _ _ hS (Or.inr (Or.inr ⟨hfr, e62, e63⟩))
            · refine st_iconst dX11_findsCarrying_61 ?_
              refine st_istore (L' := [_, _, _, _, _, _, _]) dX11_findsCarrying_62 (by decide) rfl rfl ?_
              have hH1 := hH k (Nat.le_refl _) hkl (by omega)
              have ef : frF k (cg L k).2.2 0 = (cg L k).2.2 := if_neg (by omega)
              refine fI _ L k fb ff hL hkl hH1.1 hfr.2 hf0 (fun M2 N2 l5 l6 g1 g2 g3 g4 => ?_) (2 ^ (B 3 4).toNat) 0 M1 N1 l6 (Nat.zero_add _) hS hR e62 e63 (by rw [ef]; exact hH1.2.1) (by rw [ef]; exact hH1.2.2.2)
              refine st_iinc (L' := [_, _, _, _, _, _, _]) dX11_findsCarrying_204 rfl (by decide) rfl rfl ?_
              refine st_goto (tgt := 26) dX11_findsCarrying_207 rfl ?_
              exact AW.to (ih (k + 1) M2 N2 l5 l6 (by omega) g1 g2 g3 g4 (fun i hi hi2 hi3 => hH i (by omega) hi2 hi3)) (h2 := by simp)
  -- too many
  have ovr : ∀ (L : caT) (k who : Nat) (M1 : q_Mem) (N1 : q_MemL) (l6 : Option Value), CrS Ma M1 → CrR B M1 N1 L → M1 112 62 = -1 → who < 2 ^ (B 3 4).toNat → k < L.length → AW0 G d m_X11_findsCarrying 198 [some (.ref 112), some (I t), some (I s), some (I 1), some (I k), some (I who), l6] [] M1 N1 (CV (CrP M (-4, -4))) := by
    intro L k who M1 N1 l6 hS hR e62 hw hk
    have rt := hS.rt hNa
    have hl := hR.2.1
    have e26 : ∀ (l5 : Option Value), AW0 G d m_X11_findsCarrying 204 [some (.ref 112), some (I t), some (I s), some (I 1), some (I k), l5, l6] [] M1 N1 (CV (CrP M (-4, -4))) := by
      intro l5
      refine st_iinc (L' := [_, _, _, _, _, _, _]) dX11_findsCarrying_204 rfl (by decide) rfl rfl ?_
      refine st_goto (tgt := 26) dX11_findsCarrying_207 rfl ?_
      refine st_iload dX11_findsCarrying_26 rfl ?_
      refine st_aload_n dX11_findsCarrying_28 rfl ?_
      refine st_getfi dX11_findsCarrying_29 f_X11_533 (by first | with_reducible assumption | rfl) (by rfl) ?_
      rw [hR.1]
      refine st_icmp_ge (tgt := 210) dX11_findsCarrying_32 (by omega) (by omega) rfl (fun h => ?_) (fun h => ?_)
      · skip
        exact fin (-4, -4) 1 M1 N1 _ _ _ hS (Or.inr (Or.inl ⟨e62, rfl, rfl⟩))
      · refine st_iload_n dX11_findsCarrying_35 rfl ?_
        refine st_if_ne (tgt := 210) dX11_findsCarrying_36 (by omega) rfl (fun h2 => ?_) (fun h2 => ?_)
        · skip
          exact fin (-4, -4) 1 M1 N1 _ _ _ hS (Or.inr (Or.inl ⟨e62, rfl, rfl⟩))
        · skip
          omega
    refine st_iinc (L' := [_, _, _, _, _, _, _]) dX11_findsCarrying_198 rfl (by decide) rfl rfl ?_
    refine st_goto (tgt := 64) dX11_findsCarrying_201 rfl ?_
    refine st_iload dX11_findsCarrying_64 rfl ?_
    refine st_iconst dX11_findsCarrying_66 ?_
    refine st_aload_n dX11_findsCarrying_67 rfl ?_
    refine st_getfr dX11_findsCarrying_68 f_X11_9 (by first | with_reducible assumption | rfl) (by rfl) ?_
    refine st_iconst dX11_findsCarrying_71 ?_
    refine st_ialdK (k' := 3) dX11_findsCarrying_72 (by first | with_reducible assumption | rfl) rfl (by omega) (hn := by first | decide | omega) ?_
    rw [rt.1.1.2.2.2.1, show B 3 4 = (((B 3 4).toNat : Nat) : Int) by omega]
    refine st_ishl dX11_findsCarrying_73 ?_
    refine AW.top (z_pw (by omega)) ?_
    rw [hpw]
    refine st_icmp_ge (tgt := 204) dX11_findsCarrying_74 (by omega) (by omega) rfl (fun h => ?_) (fun h => ?_)
    · skip
      exact e26 _
    · refine st_iload_n dX11_findsCarrying_77 rfl ?_
      refine st_if_ne (tgt := 204) dX11_findsCarrying_78 (by omega) rfl (fun h2 => ?_) (fun h2 => ?_)
      · skip
        exact e26 _
      · skip
        omega
  -- the ways of one situation, nothing found yet
  have mI : ∀ (m k : Nat) (b f w : Int), (∀ (M2 : q_Mem) (N2 : q_MemL) (L2 : caT) (l5 l6 : Option Value), CrS Ma M2 → CrR B M2 N2 L2 → LI B L2 → k < L2.length → cg L2 k = (w, b, f) → M2 112 62 = -1 → LK L2 k (frF k f (2 ^ (B 3 4).toNat)) → AW0 G d m_X11_findsCarrying 204 [some (.ref 112), some (I t), some (I s), some (I 0), some (I k), l5, l6] [] M2 N2 (CV (CrP M (bfO B (goalC t s) m (k + 1) L2)))) →
      ∀ (q who : Nat) (L : caT) (M1 : q_Mem) (N1 : q_MemL) (l6 : Option Value), who + q = 2 ^ (B 3 4).toNat → CrS Ma M1 → CrR B M1 N1 L → LI B L → k < L.length → cg L k = (w, b, f) → M1 112 62 = -1 → LK L k (frF k f who) → AW0 G d m_X11_findsCarrying 64 [some (.ref 112), some (I t), some (I s), some (I 0), some (I k), some (I who), l6] [] M1 N1 (CV (CrP M (bfM B (goalC t s) m k (bfI (fun j => nxt B 3 w (setV j)) (goalC t s) b (frF k f) q who L)))) := by
    intro m k b f w kk q
    induction q with
    | zero =>
      intro who L M1 N1 l6 hq hS hR hL hk hcg e62 hK
      have rt := hS.rt hNa
      refine st_iload dX11_findsCarrying_64 rfl ?_
      refine st_iconst dX11_findsCarrying_66 ?_
      refine st_aload_n dX11_findsCarrying_67 rfl ?_
      refine st_getfr dX11_findsCarrying_68 f_X11_9 (by first | with_reducible assumption | rfl) (by rfl) ?_
      refine st_iconst dX11_findsCarrying_71 ?_
      refine st_ialdK (k' := 3) dX11_findsCarrying_72 (by first | with_reducible assumption | rfl) rfl (by omega) (hn := by first | decide | omega) ?_
      rw [rt.1.1.2.2.2.1, show B 3 4 = (((B 3 4).toNat : Nat) : Int) by omega]
      refine st_ishl dX11_findsCarrying_73 ?_
      refine AW.top (z_pw (by omega)) ?_
      rw [hpw]
      refine st_icmp_ge (tgt := 204) dX11_findsCarrying_74 (by omega) (by omega) rfl (fun h => ?_) (fun h => ?_)
      · skip
        exact AW.to (kk M1 N1 L _ _ hS hR hL hk hcg e62 (by rw [show 2 ^ (B 3 4).toNat = who by omega]; exact hK))
      · skip
        omega
    | succ q ih =>
      intro who L M1 N1 l6 hq hS hR hL hk hcg e62 hK
      have rt := hS.rt hNa
      have hwl : who < 2 ^ (B 3 4).toNat := by omega
      have rby := by_rng L k who hL hk hwl
      have bmo := by_mono L k who
      have hK1 := hK
      rw [hcg] at rby bmo
      have ecg : (cg L k).1 = w ∧ (cg L k).2.1 = b ∧ (cg L k).2.2 = f := by rw [hcg]; exact ⟨rfl, rfl, rfl⟩
      have rby : 0 ≤ frF k f who ∧ frF k f who < 128 := rby
      have bmo : frF k f who ≤ frF k f (who + 1) := bmo
      unfold bfI
      refine st_iload dX11_findsCarrying_64 rfl ?_
      refine st_iconst dX11_findsCarrying_66 ?_
      refine st_aload_n dX11_findsCarrying_67 rfl ?_
      refine st_getfr dX11_findsCarrying_68 f_X11_9 (by first | with_reducible assumption | rfl) (by rfl) ?_
      refine st_iconst dX11_findsCarrying_71 ?_
      refine st_ialdK (k' := 3) dX11_findsCarrying_72 (by first | with_reducible assumption | rfl) rfl (by omega) (hn := by first | decide | omega) ?_
      rw [rt.1.1.2.2.2.1, show B 3 4 = (((B 3 4).toNat : Nat) : Int) by omega]
      refine st_ishl dX11_findsCarrying_73 ?_
      refine AW.top (z_pw (by omega)) ?_
      rw [hpw]
      refine st_icmp_ge (tgt := 204) dX11_findsCarrying_74 (by omega) (by omega) rfl (fun h => ?_) (fun h => ?_)
      · skip
        omega
      · refine st_iload_n dX11_findsCarrying_77 rfl ?_
        refine st_if_ne (tgt := 204) dX11_findsCarrying_78 (by omega) rfl (fun h2 => ?_) (fun h2 => ?_)
        · skip
          omega
        · skip
          refine st1 _ L k who M1 N1 l6 hS hR hL hk hwl (fun M2 hS2 hR2 e112 hW2 => ?_)
          rw [ecg.2.2]
          rw [ecg.1] at hW2
          have f62 : M2 112 62 = -1 := by rw [e112]; exact e62
          have rt2 := hS2.rt hNa
          have lk := stp L hL hR.2.1 k hk
          rw [ecg.2.1] at lk
          have gg := g8_lt (nxt B 3 w (setV who)) (7 + t)
          have lki := hL.1 k hk
          have hl6 := hR.2.1
          rw [ecg.2.1] at lki
          refine st_aload_n dX11_findsCarrying_126 rfl ?_
          refine st_getfr dX11_findsCarrying_127 f_X11_31 (by first | with_reducible assumption | rfl) (by rfl) ?_
          refine st_iload_n dX11_findsCarrying_130 rfl ?_
          first | refine st_ialdK (k' := _) dX11_findsCarrying_131 (by first | with_reducible assumption | rfl) rfl (by omega) (hn := by first | decide | omega) ?_ | refine st_iald dX11_findsCarrying_131 (by first | with_reducible assumption | rfl) (by omega) (by omega) (hn := by first | decide | omega) ?_
          rw [hW2.2 t ht]
          refine st_iload_n dX11_findsCarrying_132 rfl ?_
          refine st_icmp_ne (tgt := 182) dX11_findsCarrying_133 (by omega) (by omega) rfl (fun h3 => ?_) (fun h3 => ?_)
          · refine st_aload_n dX11_findsCarrying_182 rfl ?_
            refine st_aload_n dX11_findsCarrying_183 rfl ?_
            refine st_getfr dX11_findsCarrying_184 f_X11_134 (by first | with_reducible assumption | rfl) (by rfl) ?_
            refine st_iload dX11_findsCarrying_187 rfl ?_
            first | refine st_ialdK (k' := _) dX11_findsCarrying_189 (by first | with_reducible assumption | rfl) rfl (by omega) (hn := by first | decide | omega) ?_ | refine st_iald dX11_findsCarrying_189 (by first | with_reducible assumption | rfl) (by omega) (by omega) (hn := by first | decide | omega) ?_
            rw [if_neg h3, (hR2.2.2 k hk).2.1, ecg.2.1]
            refine st_iconst dX11_findsCarrying_190 ?_
            refine st_iadd dX11_findsCarrying_191 ?_
            refine st_iload dX11_findsCarrying_192 rfl ?_
            refine c_V2i (d' := d - 1) dX11_findsCarrying_194 l_X11_546 k_X11_comes i_X11_comes (Or.inl ⟨_, _, _, _, _, (by first | with_reducible assumption | rfl), by rfl⟩) (by omega) (Nat.le_of_ble_eq_true rfl) (C_comes (L := L) (w := nxt B 3 w (setV who)) (by omega) hB rt2.1 hW2 hR2 (fun i hi => (hL.1 i hi).1) (hnW _ _) (by omega) rby (stp L hL hR.2.1) (fun i hi e => (hK i hi).2 (by rw [ecg.2.1]; exact e)) (by omega)) (fun v M3 N3 hx3 => ?_)
            rcases hx3 with ⟨hin, rfl, rfl, rfl⟩ | ⟨-, z, -⟩ | ⟨hin, -, hl, rfl, rfl, rfl⟩ | ⟨hin, -, hl, rfl, hE3, hj3, hR3⟩
            · rw [if_pos hin]
              refine st_istore_n (L' := [_, _, _, _, _, _, _]) dX11_findsCarrying_197 (by decide) rfl rfl ?_
              refine st_iinc (L' := [_, _, _, _, _, _, _]) dX11_findsCarrying_198 rfl (by decide) rfl rfl ?_
              refine st_goto (tgt := 64) dX11_findsCarrying_201 rfl ?_
              exact AW.to (ih (who + 1) L M3 N3 (some (I (frF k f who))) (by omega) hS2 hR2 hL hk hcg f62 (hK.mono bmo)) (h2 := by simp)
            · exact absurd f62 z
            · rw [if_neg hin, if_pos hl]
              refine st_istore_n (L' := [_, _, _, _, _, _, _]) dX11_findsCarrying_197 (by decide) rfl rfl ?_
              exact ovr L k who M3 N3 _ hS2 hR2 f62 hwl hk
            · rw [if_neg hin, if_neg (by omega)]
              refine st_istore_n (L' := [_, _, _, _, _, _, _]) dX11_findsCarrying_197 (by decide) rfl rfl ?_
              refine st_iinc (L' := [_, _, _, _, _, _, _]) dX11_findsCarrying_198 rfl (by decide) rfl rfl ?_
              refine st_goto (tgt := 64) dX11_findsCarrying_201 rfl ?_
              have hb1 : b + 1 = (cg L k).2.1 + 1 := by rw [ecg.2.1]
              have g1 : CrS Ma M3 := ⟨hS2.1.tr (hE3.sub (by decide)), fun j a b c => by rw [hj3 j a]; exact hS2.2.1 j a b c, fun j j6 => by rw [hE3 113 (by decide)]; exact hS2.2.2 j j6⟩
              exact AW.to (ih (who + 1) _ M3 N3 (some (I (frF k f who))) (by omega) g1 hR3 (hL.app hk hb1 hK (hnW _ _) rby) (by rw [List.length_append]; omega) (by rw [cg_lt hk]; exact hcg) (by rw [hj3 62 (by decide)]; exact f62) ((LK.app hk hb1 hK).mono bmo)) (h2 := by simp)
          · refine st_aload_n dX11_findsCarrying_136 rfl ?_
            refine st_aload_n dX11_findsCarrying_137 rfl ?_
            refine st_getfi dX11_findsCarrying_138 f_X11_543 (by first | with_reducible assumption | rfl) (by rfl) ?_
            refine st_iconst dX11_findsCarrying_141 ?_
            rw [if_pos h3]
            rw [f62]
            refine st_icmp_eq (tgt := 154) dX11_findsCarrying_142 (by omega) (by omega) rfl (fun h4 => ?_) (fun h4 => ?_)
            · refine st_iload dX11_findsCarrying_154 rfl ?_
              refine st_goto (tgt := 163) dX11_findsCarrying_156 rfl ?_
              -- found
              refine st_putfi dX11_findsCarrying_163 w_X11_556 (by first | with_reducible assumption | rfl) (by rfl) rfl rfl ?_
              refine st_aload_n dX11_findsCarrying_166 rfl ?_
              refine st_aload_n dX11_findsCarrying_167 rfl ?_
              refine st_getfr dX11_findsCarrying_168 f_X11_134 (by first | with_reducible assumption | rfl) (by rfl) ?_
              refine st_iload dX11_findsCarrying_171 rfl ?_
              first | refine st_ialdK (k' := _) dX11_findsCarrying_173 (by first | with_reducible assumption | rfl) rfl (by omega) (hn := by first | decide | omega) ?_ | refine st_iald dX11_findsCarrying_173 (by first | with_reducible assumption | rfl) (by omega) (by omega) (hn := by first | decide | omega) ?_
              have r152 : q_up M2 112 63 (frF k f who) 152 k = b := by rw [q_up_ne (by decide), (hR2.2.2 k hk).2.1, ecg.2.1]
              rw [r152]
              refine st_iconst dX11_findsCarrying_174 ?_
              refine st_iadd dX11_findsCarrying_175 ?_
              refine st_putfi dX11_findsCarrying_176 w_X11_543 (by first | with_reducible assumption | rfl) (by rfl) rfl rfl ?_
              have g1 : CrS Ma (q_up (q_up M2 112 63 (frF k f who)) 112 62 (b + 1)) := ⟨(hS2.1.tr (Exc.up (by decide))).tr (Exc.up (by decide)), fun j a b' c => by rw [← hS2.2.1 j a b' c]; simp [q_up, b', c], fun j j6 => by rw [← hS2.2.2 j j6]; simp [q_up]⟩
              have g2 : CrR B (q_up (q_up M2 112 63 (frF k f who)) 112 62 (b + 1)) N1 L := ⟨by rw [← hR2.1]; simp [q_up], hR2.2.1, fun i hi => ⟨(hR2.2.2 i hi).1, by rw [← (hR2.2.2 i hi).2.1]; simp [q_up], by rw [← (hR2.2.2 i hi).2.2]; simp [q_up]⟩⟩
              have g3 : q_up (q_up M2 112 63 (frF k f who)) 112 62 (b + 1) 112 62 = b + 1 := by simp [q_up]
              have g4 : q_up (q_up M2 112 63 (frF k f who)) 112 62 (b + 1) 112 63 = frF k f who := by simp [q_up]
              generalize q_up (q_up M2 112 63 (frF k f who)) 112 62 (b + 1) = M3 at g1 g2 g3 g4
              refine st_goto (tgt := 198) dX11_findsCarrying_179 rfl ?_
              refine st_iinc (L' := [_, _, _, _, _, _, _]) dX11_findsCarrying_198 rfl (by decide) rfl rfl ?_
              refine st_goto (tgt := 64) dX11_findsCarrying_201 rfl ?_
              refine AW.to (fI _ L k (b + 1) (frF k f who) hL hk (by rw [ecg.2.1]) (by omega) rby.1 (fun M4 N4 l5 l6 c1 c2 c3 c4 => ?_) q (who + 1) M3 N1 (some (I (frF k f who))) (by omega) g1 g2 g3 g4 (by rw [ecg.2.2]; exact bmo) (by rw [ecg.2.2]; exact hK.mono bmo)) (h2 := by simp)
              refine st_iinc (L' := [_, _, _, _, _, _, _]) dX11_findsCarrying_204 rfl (by decide) rfl rfl ?_
              refine st_goto (tgt := 26) dX11_findsCarrying_207 rfl ?_
              refine AW.to (fO2 L (b + 1) (frF k f who) hL hl6 (by omega) rby.1 (600 - k) (k + 1) M4 N4 l5 l6 (by omega) c1 c2 c3 c4 (fun i hi hi2 hi3 => ?_)) (h2 := by simp)
              have hm := hL.2 k i (by omega) hi2
              rw [ecg.2.1, ecg.2.2] at hm
              have hi0 := (hL.1 i hi2).2.2.2
              have hk0 := lki.2.2.2
              have hkne : ¬ k = 0 := fun z => by
                have := hk0.2 z
                have := hi0.1 (by omega)
                omega
              have eby : frF k f who = f := if_neg hkne
              rw [eby]
              refine ⟨by omega, hm.2 (by omega), by omega, fun j hj => ?_⟩
              have hKj := hK j hj
              rw [ecg.2.1, eby] at hKj
              exact ⟨by omega, fun e => Int.le_trans (hKj.2 (by omega)) (hm.2 (by omega))⟩
            · skip
              omega
  have mO : ∀ (m k : Nat) (L : caT) (M1 : q_Mem) (N1 : q_MemL) (l5 l6 : Option Value), k + m = 600 → CrS Ma M1 → CrR B M1 N1 L → LI B L → M1 112 62 = -1 → (k < L.length → LK L k (frF k (cg L k).2.2 0)) → AW0 G d m_X11_findsCarrying 26 [some (.ref 112), some (I t), some (I s), some (I 0), some (I k), l5, l6] [] M1 N1 (CV (CrP M (bfO B (goalC t s) m k L))) := by
    intro m
    induction m with
    | zero =>
      intro k L M1 N1 l5 l6 hk hS hR hL e62 hK
      have hl := hR.2.1
      refine st_iload dX11_findsCarrying_26 rfl ?_
      refine st_aload_n dX11_findsCarrying_28 rfl ?_
      refine st_getfi dX11_findsCarrying_29 f_X11_533 (by first | with_reducible assumption | rfl) (by rfl) ?_
      rw [hR.1]
      refine st_icmp_ge (tgt := 210) dX11_findsCarrying_32 (by omega) (by omega) rfl (fun h => ?_) (fun h => ?_)
      · skip
        exact fin (-3, -3) 0 M1 N1 _ _ _ hS (Or.inl ⟨e62, rfl, rfl⟩)
      · skip
        omega
    | succ m ih =>
      intro k L M1 N1 l5 l6 hk hS hR hL e62 hK
      have hl := hR.2.1
      unfold bfO
      refine st_iload dX11_findsCarrying_26 rfl ?_
      refine st_aload_n dX11_findsCarrying_28 rfl ?_
      refine st_getfi dX11_findsCarrying_29 f_X11_533 (by first | with_reducible assumption | rfl) (by rfl) ?_
      rw [hR.1]
      refine st_icmp_ge (tgt := 210) dX11_findsCarrying_32 (by omega) (by omega) rfl (fun h => ?_) (fun h => ?_)
      · skip
        rw [if_neg (by omega)]
        exact fin (-3, -3) 0 M1 N1 _ _ _ hS (Or.inl ⟨e62, rfl, rfl⟩)
      · refine st_iload_n dX11_findsCarrying_35 rfl ?_
        have hkl : k < L.length := by omega
        rw [if_pos hkl]
        refine st_if_ne (tgt := 210) dX11_findsCarrying_36 (by omega) rfl (fun h2 => ?_) (fun h2 => ?_)
        · skip
          omega
        · refine st_aload_n dX11_findsCarrying_39 rfl ?_
          refine st_getfi dX11_findsCarrying_40 f_X11_543 (by first | with_reducible assumption | rfl) (by rfl) ?_
          refine st_iconst dX11_findsCarrying_43 ?_
          rw [e62]
          refine st_icmp_eq (tgt := 61) dX11_findsCarrying_44 (by omega) (by omega) rfl (fun h3 => ?_) (fun h3 => ?_)
          · refine st_iconst dX11_findsCarrying_61 ?_
            refine st_istore (L' := [_, _, _, _, _, _, _]) dX11_findsCarrying_62 (by decide) rfl rfl ?_
            refine mI m k (cg L k).2.1 (cg L k).2.2 (cg L k).1 (fun M2 N2 L2 l5 l6 g1 g2 g3 g4 g5 g6 g7 => ?_) (2 ^ (B 3 4).toNat) 0 L M1 N1 l6 (Nat.zero_add _) hS hR hL hkl rfl e62 (hK hkl)
            refine st_iinc (L' := [_, _, _, _, _, _, _]) dX11_findsCarrying_204 rfl (by decide) rfl rfl ?_
            refine st_goto (tgt := 26) dX11_findsCarrying_207 rfl ?_
            refine AW.to (ih (k + 1) L2 M2 N2 l5 l6 (by omega) g1 g2 g3 g6 (fun hk1 => ?_)) (h2 := by simp)
            rw [show frF (k + 1) (cg L2 (k + 1)).2.2 0 = (cg L2 (k + 1)).2.2 from if_neg (by omega)]
            have hm := g3.2 k (k + 1) (by omega) hk1
            have hKk1 := (g7 (k + 1) hk1).1
            have hk0 := (g3.1 k g4).2.2.2
            have hk10 := (g3.1 (k + 1) hk1).2.2.2
            intro i hi
            have hKi := g7 i hi
            refine ⟨by omega, fun e => ?_⟩
            by_cases c : (cg L2 (k + 1)).2.1 = (cg L2 k).2.1
            · have hkne : ¬ k = 0 := fun z => by
                have := hk0.2 z
                have := hk10.1 (by omega)
                omega
              have h7 := hKi.2 (by omega)
              rw [show frF k (cg L k).2.2 (2 ^ (B 3 4).toNat) = (cg L k).2.2 from if_neg hkne] at h7
              have h8 := hm.2 c.symm
              rw [g5] at h8
              exact Int.le_trans h7 h8
            · omega
          · skip
            omega
  have e61 : ∀ j, ¬ j = 61 → ¬ j = 62 → q_up (q_up Ma 112 61 0) 112 62 (-1) 112 j = Ma 112 j := fun j a b => by simp [q_up, a, b]
  have hS0 : CrS Ma (q_up (q_up Ma 112 61 0) 112 62 (-1)) := ⟨(Exc.up (by decide)).tr (Exc.up (by decide)), fun j a b _ => e61 j a b, fun j _ => by simp [q_up]⟩
  have hR0 : CrR B (q_up (q_up Ma 112 61 0) 112 62 (-1)) Na [] := ⟨by simp [q_up], by decide, fun i hi => absurd hi (by simp)⟩
  have h620 : q_up (q_up Ma 112 61 0) 112 62 (-1) 112 62 = -1 := by simp [q_up]
  have hW0 : RW B (q_up (q_up Ma 112 61 0) 112 62 (-1)) (B 3 12) := hNa.2.2.2.1.exc (X := [112]) ((Exc.up (by decide)).tr (Exc.up (by decide))) (by decide) (by decide)
  generalize q_up (q_up Ma 112 61 0) 112 62 (-1) = M1 at hS0 hR0 h620 hW0
  refine c_V2i (d' := d - 1) dX11_findsCarrying_17 l_X11_546 k_X11_comes i_X11_comes (Or.inl ⟨_, _, _, _, _, (by first | with_reducible assumption | rfl), by rfl⟩) (by omega) (Nat.le_of_ble_eq_true rfl) (C_comes (L := []) (by omega) hB (hS0.rt hNa).1 hW0 hR0 (fun i hi => absurd hi (by simp)) ⟨h12, hz⟩ (by omega) (by omega) (fun i hi => absurd hi (by simp)) (fun i hi => absurd hi (by simp)) (by omega)) (fun v M2 N2 hx2 => ?_)
  rcases hx2 with ⟨⟨i, hi, -⟩, -⟩ | ⟨-, z, -⟩ | ⟨-, -, hl, -⟩ | ⟨-, -, -, rfl, hE2, hj2, hR2⟩
  · exact absurd hi (by simp)
  · exact absurd h620 z
  · exact absurd hl (by decide)
  · have hL1 : LI B [(B 3 12, 0, 0)] := by
      refine ⟨fun i hi => ?_, fun i j hij hj => absurd hj (by simp; omega)⟩
      have : i = 0 := by simpa using hi
      subst this
      exact ⟨⟨h12, hz⟩, ⟨Int.le_refl _, Int.le_refl _⟩, ⟨Int.le_refl _, show (0 : Int) < 128 by omega⟩, by simp [cg]⟩
    refine st_pop dX11_findsCarrying_20 rfl ?_
    refine st_iconst dX11_findsCarrying_21 ?_
    refine st_istore_n (L' := [_, _, _, _, _, _, _]) dX11_findsCarrying_22 (by decide) rfl rfl ?_
    refine st_iconst dX11_findsCarrying_23 ?_
    refine st_istore (L' := [_, _, _, _, _, _, _]) dX11_findsCarrying_24 (by decide) rfl rfl ?_
    refine AW.to (mO 600 0 [(B 3 12, 0, 0)] M2 N2 none none (Nat.zero_add _) ⟨hS0.1.tr (hE2.sub (by decide)), fun j a b c => by rw [hj2 j a]; exact hS0.2.1 j a b c, fun j j6 => by rw [hE2 113 (by decide)]; exact hS0.2.2 j j6⟩ hR2 hL1 (by rw [hj2 62 (by decide)]; exact h620) (fun _ i hi => ?_))
    have : i = 0 := by simpa using hi
    subst this
    exact ⟨by show (0 : Int) ≤ 0 + 1; omega, fun e => absurd (show (0 : Int) = 0 + 1 from e) (by omega)⟩
theorem bfI_rng {nx : Nat → Int} {goal : Int → Prop} [hg : DecidablePred goal] {b : Int} {fr : Nat → Int} (hb : 0 ≤ b ∧ b < 100000) : ∀ (m who : Nat) (L : caT), (∀ i, i < L.length → 0 ≤ (cg L i).2.1 ∧ (cg L i).2.1 ≤ i) → (b + 1 ≤ L.length) → (∀ r, (bfI nx goal b fr m who L).1 = some r → r = (-4, -4) ∨ (0 ≤ r.1 ∧ r.1 < 100001)) ∧ ∀ i, i < (bfI nx goal b fr m who L).2.length → 0 ≤ (cg (bfI nx goal b fr m who L).2 i).2.1 ∧ (cg (bfI nx goal b fr m who L).2 i).2.1 ≤ i
  | 0, who, L, h, hl => ⟨fun r hr => by simp [bfI] at hr, h⟩
  | m + 1, who, L, h, hl => by
    unfold bfI
    split
    · refine ⟨fun r hr => Or.inr ?_, h⟩
      have : r = (b + 1, fr who) := by simpa using hr.symm
      rw [this]
      show 0 ≤ b + 1 ∧ b + 1 < 100001
      omega
    · split
      · exact bfI_rng hb m (who + 1) L h hl
      · split
        · exact ⟨fun r hr => Or.inl (by simpa using hr.symm), h⟩
        · refine bfI_rng hb m (who + 1) _ (fun i hi => ?_) (by rw [List.length_append]; omega)
          rw [List.length_append, List.length_singleton] at hi
          by_cases e : i = L.length
          · rw [e, cg_eq]
            show 0 ≤ b + 1 ∧ b + 1 ≤ (L.length : Nat)
            omega
          · rw [cg_lt (by omega)]
            exact h i (by omega)
theorem bfO_rng {B : q_Mem} {goal : Int → Prop} [hg : DecidablePred goal] : ∀ (m k : Nat) (L : caT), k + m ≤ 1000 → (∀ i, i < L.length → 0 ≤ (cg L i).2.1 ∧ (cg L i).2.1 ≤ i) → 0 ≤ (bfO B goal m k L).1 ∨ (bfO B goal m k L) = (-3, -3) ∨ (bfO B goal m k L) = (-4, -4)
  | 0, k, L, _, _ => Or.inr (Or.inl rfl)
  | m + 1, k, L, hk, h => by
    unfold bfO
    split
    · next hkl =>
      have hb := h k hkl
      have hI := bfI_rng (nx := fun who => nxt B 3 (cg L k).1 (setV who)) (goal := goal) (b := (cg L k).2.1) (fr := frF k (cg L k).2.2) ⟨hb.1, by omega⟩ (2 ^ (B 3 4).toNat) 0 L h (by omega)
      generalize bfI (fun who => nxt B 3 (cg L k).1 (setV who)) goal (cg L k).2.1 (frF k (cg L k).2.2) (2 ^ (B 3 4).toNat) 0 L = p at hI
      obtain ⟨p1, p2⟩ := p
      cases p1 with
      | some r =>
        rcases hI.1 r rfl with e | e
        · exact Or.inr (Or.inr e)
        · exact Or.inl e.1
      | none => exact bfO_rng m (k + 1) p2 (by omega) hI.2
    · exact Or.inr (Or.inl rfl)
theorem carry_rng {B : q_Mem} (_ : NowOk B) (_ : Zd (B 3 4).toNat (B 3 5).toNat (B 3 12)) {t : Nat} {s : Int} : True ∧ ((A_search B t s).1 < 0 → (A_search B t s).1 = (A_search B t s).2 ∧ -10 ≤ (A_search B t s).1) := by
  refine ⟨trivial, fun h => ?_⟩
  unfold A_search at h ⊢
  split at h
  · exact absurd h (by decide)
  · next hc =>
    rw [if_neg hc]
    rcases bfO_rng (B := B) (goal := goalC t s) 600 0 [(B 3 12, 0, 0)] (by omega) (fun i hi => by
      have : i = 0 := by simpa using hi
      subst this
      exact ⟨Int.le_refl _, Int.le_refl _⟩) with e | e | e
    · omega
    · rw [e]; exact ⟨rfl, by decide⟩
    · rw [e]; exact ⟨rfl, by decide⟩
theorem C_rcarry {G : q_G} {d : Nat} {B M : q_Mem} {N : q_MemL} {t s what : Int} (hd : 5 ≤ d) (hN : RN B M) (hz : Zd (B 3 4).toNat (B 3 5).toNat (B 3 12)) (ht : i32 t) (hs : i32 s) (hw : i32 what) : AC0 G d m_X11_carry [.ref 112, I t, I s, I what] M N (CV (fun v M' _ => v = I (A_carry B t s what) ∧ Qk M M')) := by
  obtain ⟨hB, hT, hP, hW, hb6⟩ := id hN
  obtain ⟨h0, h1, h2, h3, h4, h5, h6, h11, h12, -⟩ := id hB
  have htt := ht
  have hss := hs
  have hww := hw
  unfold i32 at htt hss hww
  have no : ¬ ((0 ≤ t ∧ t < B 3 5) ∧ (0 ≤ s ∧ s < B 3 3) ∧ 0 ≤ what ∧ what ≤ 1) → AW0 G d m_X11_carry 26 [some (.ref 112), some (I t), some (I s), some (I what), none] [] M N (CV (fun v M' _ => v = I (A_carry B t s what) ∧ Qk M M')) := by
    intro h
    refine st_iconst dX11_carry_26 ?_
    exact r_i dX11_carry_27 rfl ⟨by rw [A_carry, if_neg h], Qk.rf⟩
  refine AC.of (L0 := [_, _, _, _, none]) pn_X11 (Nat.le_of_ble_eq_true rfl) rfl ?_
  refine st_aload_n dX11_carry_0 rfl ?_
  refine st_iload_n dX11_carry_1 rfl ?_
  refine c_V1p (d' := d - 1) dX11_carry_2 l_X11_418 k_X11_isThing i_X11_isThing (Or.inl ⟨_, _, _, _, _, (by first | with_reducible assumption | rfl), by rfl⟩) (by omega) (Nat.le_of_ble_eq_true rfl) (C_isThing (by omega) hB hT ht) ?_
  refine b_eq (tgt := 26) dX11_carry_5 rfl (fun h7 => ?_) (fun h7 => ?_)
  · skip
    exact no (fun z => h7 z.1)
  · refine st_aload_n dX11_carry_8 rfl ?_
    refine st_iload_n dX11_carry_9 rfl ?_
    refine c_V1p (d' := d - 1) dX11_carry_10 l_X11_426 k_X11_isStorey i_X11_isStorey (Or.inl ⟨_, _, _, _, _, (by first | with_reducible assumption | rfl), by rfl⟩) (by omega) (Nat.le_of_ble_eq_true rfl) (C_isStorey (by omega) hB hT hs) ?_
    refine b_eq (tgt := 26) dX11_carry_13 rfl (fun h8 => ?_) (fun h8 => ?_)
    · skip
      exact no (fun z => h8 z.2.1)
    · refine st_iload_n dX11_carry_16 rfl ?_
      refine st_i2lK dX11_carry_17 (by omega) ?_
      refine st_lc0K dX11_carry_18 ?_
      refine st_lc1K dX11_carry_19 ?_
      refine c_S3p (d' := d - 1) dX11_carry_20 l_X11_182 k_X11_in s_X11_in (by omega) (Nat.le_of_ble_eq_true rfl) (C_in (by omega) (by omega) (by omega)) ?_
      refine b_ne (tgt := 28) dX11_carry_23 rfl (fun h9 => ?_) (fun h9 => ?_)
      · skip
        rw [show A_carry B t s what = (if what = 0 then (A_search B t.toNat s).1 else (A_search B t.toNat s).2) from if_pos ⟨h7, h8, h9⟩]
        obtain ⟨u, rfl⟩ : ∃ u : Nat, t = u := ⟨t.toNat, by omega⟩
        rw [Int.toNat_natCast]
        have gg := g8_lt (B 3 12) (7 + u)
        refine st_aload_n dX11_carry_28 rfl ?_
        refine st_getfr dX11_carry_29 f_X11_31 (by first | with_reducible assumption | rfl) (by rfl) ?_
        refine st_iload_n dX11_carry_32 rfl ?_
        first | refine st_ialdK (k' := _) dX11_carry_33 (by first | with_reducible assumption | rfl) rfl (by omega) (hn := by first | decide | omega) ?_ | refine st_iald dX11_carry_33 (by first | with_reducible assumption | rfl) (by omega) (by omega) (hn := by first | decide | omega) ?_
        rw [hW.2 u (by omega)]
        refine st_iload_n dX11_carry_34 rfl ?_
        refine st_icmp_ne (tgt := 49) dX11_carry_35 (by omega) (by omega) rfl (fun h10 => ?_) (fun h10 => ?_)
        · refine st_aload_n dX11_carry_49 rfl ?_
          refine st_iload_n dX11_carry_50 rfl ?_
          refine st_iload_n dX11_carry_51 rfl ?_
          refine c_V2i (d' := d - 1) dX11_carry_52 l_X11_559 k_X11_findsCarrying i_X11_findsCarrying (Or.inl ⟨_, _, _, _, _, (by first | with_reducible assumption | rfl), by rfl⟩) (by omega) (Nat.le_of_ble_eq_true rfl) (C_findsCarrying (by omega) hN hz (by omega) hs h10) (fun v M1 N1 hx => ?_)
          obtain ⟨hq, rfl, hR⟩ := hx
          have hA := carry_rng hB hz (t := u) (s := s)
          generalize A_search B u s = R at hR hA ⊢
          refine st_istore (L' := [_, _, _, _, _]) dX11_carry_55 (by decide) rfl rfl ?_
          refine st_iload dX11_carry_57 rfl ?_
          by_cases c : R.1 < 0
          · rw [if_pos c]
            have hA2 := (hA.2 c).2
            refine st_if_ge (tgt := 67) dX11_carry_59 (by omega) rfl (fun h11 => ?_) (fun h11 => ?_)
            · skip
              omega
            · refine st_iload dX11_carry_62 rfl ?_
              refine st_goto (tgt := 82) dX11_carry_64 rfl ?_
              refine r_i dX11_carry_82 rfl ⟨?_, hq⟩
              by_cases c2 : what = 0
              · rw [if_pos c2]
              · rw [if_neg c2, (hA.2 c).1.symm]
          · rw [if_neg c]
            have hR2 := hR (by omega)
            refine st_if_ge (tgt := 67) dX11_carry_59 (by omega) rfl (fun h11 => ?_) (fun h11 => ?_)
            · refine st_iload_n dX11_carry_67 rfl ?_
              refine st_if_ne (tgt := 78) dX11_carry_68 (by omega) rfl (fun h12 => ?_) (fun h12 => ?_)
              · refine st_aload_n dX11_carry_78 rfl ?_
                refine st_getfi dX11_carry_79 f_X11_556 (by first | with_reducible assumption | rfl) (by rfl) ?_
                rw [hR2.2]
                exact r_i dX11_carry_82 rfl ⟨by rw [if_neg h12], hq⟩
              · refine st_aload_n dX11_carry_71 rfl ?_
                refine st_getfi dX11_carry_72 f_X11_543 (by first | with_reducible assumption | rfl) (by rfl) ?_
                refine st_goto (tgt := 82) dX11_carry_75 rfl ?_
                rw [hR2.1]
                exact r_i dX11_carry_82 rfl ⟨by rw [if_pos h12], hq⟩
            · skip
              omega
        · refine st_iload_n dX11_carry_38 rfl ?_
          rw [show A_search B u s = (0, -2) from if_pos h10]
          refine st_if_ne (tgt := 46) dX11_carry_39 (by omega) rfl (fun h11 => ?_) (fun h11 => ?_)
          · refine st_bipush dX11_carry_46 (by decide) ?_
            exact r_i dX11_carry_48 rfl ⟨by rw [if_neg h11], Qk.rf⟩
          · refine st_iconst dX11_carry_42 ?_
            refine st_goto (tgt := 48) dX11_carry_43 rfl ?_
            exact r_i dX11_carry_48 rfl ⟨by rw [if_pos h11], Qk.rf⟩
      · skip
        exact no (fun z => h9 z.2.2)


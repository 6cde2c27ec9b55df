/-! the reference: fire -/
theorem C_areAllDown {G : q_G} {d : Nat} {B M : q_Mem} {N : q_MemL} {w b : Int} (hB : NowOk B) (hS : RS B M w b) : AC0 G d m_X11_areAllDown [.ref 112] M N (CV (PU (Bz (allD B w)) M N)) := by
  obtain ⟨h0, h1, h2, h3, h4, h5, -⟩ := id hB
  refine AC.of (L0 := [_, none, none]) pn_X11 (Nat.le_of_ble_eq_true rfl) rfl ?_
  refine st_iconst dX11_areAllDown_0 ?_
  refine st_istore_n (L' := [_, _, _]) dX11_areAllDown_1 (by decide) rfl rfl ?_
  refine st_iconst dX11_areAllDown_2 ?_
  refine st_istore_n (L' := [_, _, _]) dX11_areAllDown_3 (by decide) rfl rfl ?_
  have loop : ∀ (m k : Nat) (x : Int), k + m = (B 3 4).toNat → (x = 1 ∧ ∀ q, q < k → g8 w q = 0) ∨ (x = 0 ∧ ¬ allD B w) → AW0 G d m_X11_areAllDown 4 [some (.ref 112), some (I x), some (I k)] [] M N (CV (PU (Bz (allD B w)) M N)) := by
    intro m
    induction m with
    | zero =>
      intro k x hk hx
      refine st_iload_n dX11_areAllDown_4 rfl ?_
      refine st_aload_n dX11_areAllDown_5 rfl ?_
      refine st_getfr dX11_areAllDown_6 f_X11_9 (by first | with_reducible assumption | rfl) (by rfl) ?_
      refine st_iconst dX11_areAllDown_9 ?_
      refine st_ialdK (k' := 3) dX11_areAllDown_10 (by first | with_reducible assumption | rfl) rfl (by omega) (hn := by first | decide | omega) ?_
      rw [hS.1.1.2.2.2.1]
      refine st_icmp_ge (tgt := 39) dX11_areAllDown_11 (by omega) (by omega) rfl (fun h => ?_) (fun h => ?_)
      · refine st_iload_n dX11_areAllDown_39 rfl ?_
        rcases hx with ⟨rfl, hx⟩ | ⟨rfl, hx⟩
        · refine r_z dX11_areAllDown_40 rfl (Or.inr rfl) ⟨bz1 (fun q hq => hx q (by omega)), rfl, rfl⟩
        · refine r_z dX11_areAllDown_40 rfl (Or.inl rfl) ⟨bz0 hx, rfl, rfl⟩
      · skip
        omega
    | succ m ih =>
      intro k x hk hx
      have g := g8_lt w k
      refine st_iload_n dX11_areAllDown_4 rfl ?_
      refine st_aload_n dX11_areAllDown_5 rfl ?_
      refine st_getfr dX11_areAllDown_6 f_X11_9 (by first | with_reducible assumption | rfl) (by rfl) ?_
      refine st_iconst dX11_areAllDown_9 ?_
      refine st_ialdK (k' := 3) dX11_areAllDown_10 (by first | with_reducible assumption | rfl) rfl (by omega) (hn := by first | decide | omega) ?_
      rw [hS.1.1.2.2.2.1]
      refine st_icmp_ge (tgt := 39) dX11_areAllDown_11 (by omega) (by omega) rfl (fun h => ?_) (fun h => ?_)
      · skip
        omega
      · refine st_iload_n dX11_areAllDown_14 rfl ?_
        rcases hx with ⟨rfl, hx⟩ | ⟨rfl, hx⟩
        · refine st_if_eq (tgt := 31) dX11_areAllDown_15 (by omega) rfl (fun h2 => ?_) (fun h2 => ?_)
          · skip
            omega
          · refine st_aload_n dX11_areAllDown_18 rfl ?_
            refine st_getfr dX11_areAllDown_19 f_X11_19 (by first | with_reducible assumption | rfl) (by rfl) ?_
            refine st_iload_n dX11_areAllDown_22 rfl ?_
            first | refine st_ialdK (k' := _) dX11_areAllDown_23 (by first | with_reducible assumption | rfl) rfl (by omega) (hn := by first | decide | omega) ?_ | refine st_iald dX11_areAllDown_23 (by first | with_reducible assumption | rfl) (by omega) (by omega) (hn := by first | decide | omega) ?_
            rw [hS.2.2.1.1 k (by omega)]
            refine st_if_ne (tgt := 31) dX11_areAllDown_24 (by omega) rfl (fun h3 => ?_) (fun h3 => ?_)
            · refine st_iconst dX11_areAllDown_31 ?_
              refine st_istore_n (L' := [_, _, _]) dX11_areAllDown_32 (by decide) rfl rfl ?_
              refine st_iinc (L' := [_, _, _]) dX11_areAllDown_33 rfl (by decide) rfl rfl ?_
              refine st_goto (tgt := 4) dX11_areAllDown_36 rfl ?_
              exact AW.to (ih (k + 1) 0 (by omega) (Or.inr ⟨rfl, fun z => h3 (z k (by omega))⟩)) (h2 := by simp)
            · refine st_iconst dX11_areAllDown_27 ?_
              refine st_goto (tgt := 32) dX11_areAllDown_28 rfl ?_
              refine st_istore_n (L' := [_, _, _]) dX11_areAllDown_32 (by decide) rfl rfl ?_
              refine st_iinc (L' := [_, _, _]) dX11_areAllDown_33 rfl (by decide) rfl rfl ?_
              refine st_goto (tgt := 4) dX11_areAllDown_36 rfl ?_
              refine AW.to (ih (k + 1) 1 (by omega) (Or.inl ⟨rfl, fun q hq => ?_⟩)) (h2 := by simp)
              by_cases e : q = k
              · rw [e]; exact h3
              · exact hx q (by omega)
        · skip
          refine st_if_eq (tgt := 31) dX11_areAllDown_15 (by omega) rfl (fun h2 => ?_) (fun h2 => ?_)
          · refine st_iconst dX11_areAllDown_31 ?_
            refine st_istore_n (L' := [_, _, _]) dX11_areAllDown_32 (by decide) rfl rfl ?_
            refine st_iinc (L' := [_, _, _]) dX11_areAllDown_33 rfl (by decide) rfl rfl ?_
            refine st_goto (tgt := 4) dX11_areAllDown_36 rfl ?_
            exact AW.to (ih (k + 1) 0 (by omega) (Or.inr ⟨rfl, hx⟩)) (h2 := by simp)
          · skip
            omega
  exact loop _ 0 1 (Nat.zero_add _) (Or.inl ⟨rfl, fun q hq => absurd hq (by omega)⟩)
abbrev fiX : List Nat := [112, 113, 116, 120, 143, 144, 160, 161, 162, 163]
/-- what the search for an order keeps of the state -/
def FiS (B M1 M2 : q_Mem) : Prop := Exc fiX M1 M2 ∧ (∀ j, ¬ j = 73 → M2 112 j = M1 112 j) ∧ (∀ j, ¬ j = 6 → M2 113 j = M1 113 j) ∧ (∀ j, j < 7 → M2 162 j = M1 116 j) ∧ (∀ j, j < 3 → M2 163 j = M1 120 j) ∧ M1 112 76 = B 3 11
abbrev bbX : List Nat := [113, 116, 120, 143, 144]
theorem toldV_setQ {B : q_Mem} {b : Int} {s : Int} (q : Nat) : toldV B 3 b s q = if s.toNat.testBit q = true then 0 else toldV B 3 b 0 q := toldV_set q
theorem orb_pos {s : Int} (p : Nat) : 0 ≤ orb s p := Int.natCast_nonneg _
theorem setQ_rng {q : Nat → Nat} {n : Nat} (hn : n ≤ 7) : ∀ t, (∀ i, i < t → q i < n) → 0 ≤ setQ q t ∧ setQ q t < 128
  | 0, _ => by simp [setQ]
  | t + 1, h => orb_rng (setQ_rng hn t (fun i hi => h i (by omega))) (by have := h t (by omega); omega)
/-- a run by an order: the least beats behind which all are down -/
theorem C_beatsBy {G : q_G} {d : Nat} {B M1 M : q_Mem} {N : q_MemL} {q : Nat → Nat} (hd : 3 ≤ d) (hN : RN B M1) (htl : B 3 0 = 1) (hi : 2 ≤ B 3 3 → 1 ≤ B 4 1) (hS : FiS B M1 M) (hq : prmQ (B 3 4).toNat (B 3 4).toNat q) (ho : ∀ j, j < (B 3 4).toNat → M 160 j = (q j : Nat)) : AC0 G d m_X11_beatsBy [.ref 112] M N (CV (fun v M' N' => N' = N ∧ Exc bbX M M' ∧ (∀ j, ¬ j = 6 → M' 113 j = M 113 j) ∧ ∃ t : Nat, v = I t ∧ t ≤ (B 3 4).toNat ∧ allD B (sitQ B q t) ∧ ∀ t', t' < t → ¬ allD B (sitQ B q t'))) := by
  obtain ⟨hB, hT1, hP1, hW1, hb1⟩ := id hN
  obtain ⟨h0, h1, h2, h3, h4, h5, h6, h11, h12, -⟩ := id hB
  obtain ⟨s1, s2, s3, s4, s5, s6⟩ := hS
  refine AC.of (L0 := [_, none, none, none]) pn_X11 (Nat.le_of_ble_eq_true rfl) rfl ?_
  refine st_aload_n dX11_beatsBy_0 rfl ?_
  refine st_getfr dX11_beatsBy_1 f_X11_164 (by first | with_reducible assumption | rfl) (by rfl) ?_
  refine st_aload_n dX11_beatsBy_4 rfl ?_
  refine st_getfr dX11_beatsBy_5 f_X11_19 (by first | with_reducible assumption | rfl) (by rfl) ?_
  refine c_S2v (d' := d - 1) dX11_beatsBy_8 l_X11_353 k_X11_copies s_X11_copies (by omega) (Nat.le_of_ble_eq_true rfl) (C_copies sh_162 sh_116 (by decide) (by decide) (by decide)) (fun M2 N2 hx2 => ?_)
  obtain ⟨rfl, r2⟩ := hx2
  refine st_aload_n dX11_beatsBy_11 rfl ?_
  refine st_getfr dX11_beatsBy_12 f_X11_167 (by first | with_reducible assumption | rfl) (by rfl) ?_
  refine st_aload_n dX11_beatsBy_15 rfl ?_
  refine st_getfr dX11_beatsBy_16 f_X11_31 (by first | with_reducible assumption | rfl) (by rfl) ?_
  refine c_S2v (d' := d - 1) dX11_beatsBy_19 l_X11_353 k_X11_copies s_X11_copies (by omega) (Nat.le_of_ble_eq_true rfl) (C_copies sh_163 sh_120 (by decide) (by decide) (by decide)) (fun M3 N3 hx3 => ?_)
  obtain ⟨rfl, r3⟩ := hx3
  refine st_aload_n dX11_beatsBy_22 rfl ?_
  refine st_getfr dX11_beatsBy_23 f_X11_9 (by first | with_reducible assumption | rfl) (by rfl) ?_
  refine st_bipush dX11_beatsBy_26 (by decide) ?_
  refine st_aload_n dX11_beatsBy_28 rfl ?_
  refine st_getfi dX11_beatsBy_29 f_X11_587 (by first | with_reducible assumption | rfl) (by rfl) ?_
  have e76 : M3 112 76 = B 3 11 := by rw [r3, show q_cp M2 163 120 0 0 3 112 76 = M2 112 76 by simp [q_cp], r2, show q_cp M 162 116 0 0 7 112 76 = M 112 76 by simp [q_cp], s2 76 (by decide)]; exact s6
  rw [e76]
  refine st_iastK (k' := 6) dX11_beatsBy_32 (by first | with_reducible assumption | rfl) rfl (by omega) (hn := by first | decide | omega) ?_
  have hE4 : Exc bbX M (q_up M3 113 6 (B 3 11)) := by
    rw [r3, r2]
    intro a ha
    simp only [List.mem_cons, List.not_mem_nil, or_false, not_or] at ha
    rw [q_up_ne (by omega)]
    funext j
    simp [q_cp, ha]
  have hj4 : ∀ j, ¬ j = 6 → q_up M3 113 6 (B 3 11) 113 j = M 113 j := fun j hj => by rw [r3, r2]; simp [q_up, q_cp, hj]
  have hS4 : RS B (q_up M3 113 6 (B 3 11)) (sitQ B q 0) (B 3 11 + (0 : Nat)) := by
    have hE14 : Exc fiX M1 (q_up M3 113 6 (B 3 11)) := s1.tr (hE4.sub (by decide))
    refine ⟨hT1.exc hE14 (fun j j6 _ => by rw [hj4 j j6]; exact s3 j j6) (by decide), hP1.exc hE14 (by decide) (by decide), ⟨fun o ho2 => ?_, fun t ht => ?_⟩, by simp [q_up]⟩
    · rw [q_up_ne (by decide), r3, show q_cp M2 163 120 0 0 3 116 o = M2 116 o by simp [q_cp], r2, show q_cp M 162 116 0 0 7 116 o = M 162 o by simp [q_cp, show o < 7 by omega], s4 o (by omega)]
      exact hW1.1 o ho2
    · rw [q_up_ne (by decide), r3, show q_cp M2 163 120 0 0 3 120 t = M2 163 t by simp [q_cp, show t < 3 by omega], r2, show q_cp M 162 116 0 0 7 163 t = M 163 t by simp [q_cp], s5 t (by omega)]
      exact hW1.2 t ht
  have ho4 : ∀ j, j < (B 3 4).toNat → q_up M3 113 6 (B 3 11) 160 j = (q j : Nat) := fun j hj => by rw [hE4 160 (by decide)]; exact ho j hj
  generalize q_up M3 113 6 (B 3 11) = M4 at hE4 hj4 hS4 ho4
  refine st_iconst dX11_beatsBy_33 ?_
  refine st_istore_n (L' := [_, _, _, _]) dX11_beatsBy_34 (by decide) rfl rfl ?_
  refine st_iconst dX11_beatsBy_35 ?_
  refine st_istore_n (L' := [_, _, _, _]) dX11_beatsBy_36 (by decide) rfl rfl ?_
  have loop : ∀ (p t : Nat) (M5 : q_Mem) (l3 : Option Value), t + p = (B 3 4).toNat → Exc bbX M M5 → (∀ j, ¬ j = 6 → M5 113 j = M 113 j) → RS B M5 (sitQ B q t) (B 3 11 + t) → (∀ t', t' < t → ¬ allD B (sitQ B q t')) → AW0 G d m_X11_beatsBy 37 [some (.ref 112), some (I (setQ q t)), some (I t), l3] [] M5 N3 (CV (fun v M' N' => N' = N3 ∧ Exc bbX M M' ∧ (∀ j, ¬ j = 6 → M' 113 j = M 113 j) ∧ ∃ t : Nat, v = I t ∧ t ≤ (B 3 4).toNat ∧ allD B (sitQ B q t) ∧ ∀ t', t' < t → ¬ allD B (sitQ B q t'))) := by
    intro p
    induction p with
    | zero =>
      intro t M5 l3 ht hE hj hS hno
      -- all have hushed, so all are down
      have hall : allD B (sitQ B q t) := by
        by_cases c : t = 0
        · intro o ho2; omega
        · obtain ⟨u, rfl⟩ : ∃ u, t = u + 1 := ⟨t - 1, by omega⟩
          show allD B (nxt B 3 (sitQ B q u) (toldV B 3 (B 3 11 + u) (setQ q (u + 1))))
          refine allD_hush h3 h4 hi (fun o ho2 => ?_)
          unfold toldV
          rw [if_pos]
          -- every one of them is among the order
          have hin := prm_onto hq o ho2
          rw [show u + 1 = (B 3 4).toNat by omega]
          exact (setQ_bit q _ o).2 hin
      refine st_aload_n dX11_beatsBy_37 rfl ?_
      refine c_V0p (d' := d - 1) dX11_beatsBy_38 l_X11_590 k_X11_areAllDown i_X11_areAllDown (Or.inl ⟨_, _, _, _, _, (by first | with_reducible assumption | rfl), by rfl⟩) (by omega) (Nat.le_of_ble_eq_true rfl) (C_areAllDown hB hS) ?_
      refine b_ne (tgt := 126) dX11_beatsBy_41 rfl (fun h7 => ?_) (fun h7 => ?_)
      · refine st_iload_n dX11_beatsBy_126 rfl ?_
        exact r_i dX11_beatsBy_127 rfl ⟨rfl, hE, hj, t, rfl, by omega, hall, hno⟩
      · skip
        exact absurd hall h7
    | succ p ih =>
      intro t M5 l3 ht hE hj hS hno
      have hqt := hq t (by omega)
      have hsr := setQ_rng (q := q) (n := (B 3 4).toNat) (by omega) t (fun i hi => (hq i (by omega)).1)
      have hsr1 := setQ_rng (q := q) (n := (B 3 4).toNat) (by omega) (t + 1) (fun i hi => (hq i (by omega)).1)
      refine st_aload_n dX11_beatsBy_37 rfl ?_
      refine c_V0p (d' := d - 1) dX11_beatsBy_38 l_X11_590 k_X11_areAllDown i_X11_areAllDown (Or.inl ⟨_, _, _, _, _, (by first | with_reducible assumption | rfl), by rfl⟩) (by omega) (Nat.le_of_ble_eq_true rfl) (C_areAllDown hB hS) ?_
      refine b_ne (tgt := 126) dX11_beatsBy_41 rfl (fun h7 => ?_) (fun h7 => ?_)
      · refine st_iload_n dX11_beatsBy_126 rfl ?_
        exact r_i dX11_beatsBy_127 rfl ⟨rfl, hE, hj, t, rfl, by omega, h7, hno⟩
      · refine st_iload_n dX11_beatsBy_44 rfl ?_
        refine st_iload_n dX11_beatsBy_45 rfl ?_
        refine st_aload_n dX11_beatsBy_46 rfl ?_
        refine st_getfr dX11_beatsBy_47 f_X11_9 (by first | with_reducible assumption | rfl) (by rfl) ?_
        refine st_iconst dX11_beatsBy_50 ?_
        refine st_ialdK (k' := 3) dX11_beatsBy_51 (by first | with_reducible assumption | rfl) rfl (by omega) (hn := by first | decide | omega) ?_
        rw [hS.1.1.2.2.2.1]
        refine st_icmp_ge (tgt := 66) dX11_beatsBy_52 (by omega) (by omega) rfl (fun h8 => ?_) (fun h8 => ?_)
        · skip
          omega
        · refine st_iconst dX11_beatsBy_55 ?_
          refine st_aload_n dX11_beatsBy_56 rfl ?_
          refine st_getfr dX11_beatsBy_57 f_X11_158 (by first | with_reducible assumption | rfl) (by rfl) ?_
          refine st_iload_n dX11_beatsBy_60 rfl ?_
          first | refine st_ialdK (k' := _) dX11_beatsBy_61 (by first | with_reducible assumption | rfl) rfl (by omega) (hn := by first | decide | omega) ?_ | refine st_iald dX11_beatsBy_61 (by first | with_reducible assumption | rfl) (by omega) (by omega) (hn := by first | decide | omega) ?_
          rw [hE 160 (by decide), ho t (by omega)]
          refine st_ishl dX11_beatsBy_62 ?_
          refine st_goto (tgt := 67) dX11_beatsBy_63 rfl ?_
          refine st_ior dX11_beatsBy_67 ?_
          refine AW.topv (show _ = I (setQ q (t + 1)) from congrArg Value.int (z_set hsr.1 (by omega))) ?_
          refine st_istore_n (L' := [_, _, _, _]) dX11_beatsBy_68 (by decide) rfl rfl ?_
          refine st_aload_n dX11_beatsBy_69 rfl ?_
          refine c_V0v (d' := d - 1) dX11_beatsBy_70 l_X11_412 k_X11_laysNow i_X11_laysNow (Or.inl ⟨_, _, _, _, _, (by first | with_reducible assumption | rfl), by rfl⟩) (by omega) (Nat.le_of_ble_eq_true rfl) (C_laysNow (by omega) hB hS.1 hS.2.2.2 (by omega) htl) (fun M6 N6 hx6 => ?_)
          obtain ⟨rfl, hE6, hv6, -⟩ := hx6
          have hS6 := hS.exc hE6 (by decide)
          refine st_iconst dX11_beatsBy_73 ?_
          refine st_istore_n (L' := [_, _, _, _]) dX11_beatsBy_74 (by decide) rfl rfl ?_
          have inn : ∀ (p o : Nat) (M7 : q_Mem), o + p = (B 3 4).toNat → Exc [143] M6 M7 → (∀ j, j < o → M7 143 j = toldV B 3 (B 3 11 + t) (setQ q (t + 1)) j) → (∀ j, o ≤ j → j < (B 3 4).toNat → M7 143 j = toldV B 3 (B 3 11 + t) 0 j) → (∀ (M8 : q_Mem) (l3 : Option Value), Exc [143] M6 M8 → (∀ j, j < (B 3 4).toNat → M8 143 j = toldV B 3 (B 3 11 + t) (setQ q (t + 1)) j) → AW0 G d m_X11_beatsBy 116 [some (.ref 112), some (I (setQ q (t + 1))), some (I t), l3] [] M8 N6 (CV (fun v M' N' => N' = N6 ∧ Exc bbX M M' ∧ (∀ j, ¬ j = 6 → M' 113 j = M 113 j) ∧ ∃ t : Nat, v = I t ∧ t ≤ (B 3 4).toNat ∧ allD B (sitQ B q t) ∧ ∀ t', t' < t → ¬ allD B (sitQ B q t')))) →
              AW0 G d m_X11_beatsBy 75 [some (.ref 112), some (I (setQ q (t + 1))), some (I t), some (I o)] [] M7 N6 (CV (fun v M' N' => N' = N6 ∧ Exc bbX M M' ∧ (∀ j, ¬ j = 6 → M' 113 j = M 113 j) ∧ ∃ t : Nat, v = I t ∧ t ≤ (B 3 4).toNat ∧ allD B (sitQ B q t) ∧ ∀ t', t' < t → ¬ allD B (sitQ B q t'))) := by
            intro p
            induction p with
            | zero =>
              intro o M7 ho2 hE7 hv7 hv7b kk
              have hS7 := hS6.exc hE7 (by decide)
              refine st_iload_n dX11_beatsBy_75 rfl ?_
              refine st_aload_n dX11_beatsBy_76 rfl ?_
              refine st_getfr dX11_beatsBy_77 f_X11_9 (by first | with_reducible assumption | rfl) (by rfl) ?_
              refine st_iconst dX11_beatsBy_80 ?_
              refine st_ialdK (k' := 3) dX11_beatsBy_81 (by first | with_reducible assumption | rfl) rfl (by omega) (hn := by first | decide | omega) ?_
              rw [hS7.1.1.2.2.2.1]
              refine st_icmp_ge (tgt := 116) dX11_beatsBy_82 (by omega) (by omega) rfl (fun h9 => ?_) (fun h9 => ?_)
              · skip
                exact kk M7 _ hE7 (fun j hj => hv7 j (by omega))
              · skip
                omega
            | succ p ihp =>
              intro o M7 ho2 hE7 hv7 hv7b kk
              have hS7 := hS6.exc hE7 (by decide)
              have rb := bitI_rng (setQ q (t + 1)) o
              have nxv : ∀ (z : Int), z = toldV B 3 (B 3 11 + t) (setQ q (t + 1)) o → AW0 G d m_X11_beatsBy 109 [some (.ref 112), some (I (setQ q (t + 1))), some (I t), some (I o)] [I z, I o, .ref 143] M7 N6 (CV (fun v M' N' => N' = N6 ∧ Exc bbX M M' ∧ (∀ j, ¬ j = 6 → M' 113 j = M 113 j) ∧ ∃ t : Nat, v = I t ∧ t ≤ (B 3 4).toNat ∧ allD B (sitQ B q t) ∧ ∀ t', t' < t → ¬ allD B (sitQ B q t'))) := by
                intro z hz
                first | refine st_iastK (k' := _) dX11_beatsBy_109 (by first | with_reducible assumption | rfl) rfl (by omega) (hn := by first | decide | omega) ?_ | refine st_iast dX11_beatsBy_109 (by first | with_reducible assumption | rfl) (by omega) (by omega) (hn := by first | decide | omega) ?_
                refine st_iinc (L' := [_, _, _, _]) dX11_beatsBy_110 rfl (by decide) rfl rfl ?_
                refine st_goto (tgt := 75) dX11_beatsBy_113 rfl ?_
                refine AW.to (ihp (o + 1) (q_up M7 143 o z) (by omega) (hE7.tr (Exc.up (by decide))) (fun j hj => ?_) (fun j hj hj2 => ?_) kk) (h2 := by simp)
                · by_cases e : j = o
                  · rw [e, hz]; simp [q_up]
                  · rw [← hv7 j (by omega)]; simp [q_up, e]
                · rw [← hv7b j (by omega) hj2]; simp [q_up, show ¬ j = o by omega]
              refine st_iload_n dX11_beatsBy_75 rfl ?_
              refine st_aload_n dX11_beatsBy_76 rfl ?_
              refine st_getfr dX11_beatsBy_77 f_X11_9 (by first | with_reducible assumption | rfl) (by rfl) ?_
              refine st_iconst dX11_beatsBy_80 ?_
              refine st_ialdK (k' := 3) dX11_beatsBy_81 (by first | with_reducible assumption | rfl) rfl (by omega) (hn := by first | decide | omega) ?_
              rw [hS7.1.1.2.2.2.1]
              refine st_icmp_ge (tgt := 116) dX11_beatsBy_82 (by omega) (by omega) rfl (fun h9 => ?_) (fun h9 => ?_)
              · skip
                omega
              · refine st_aload_n dX11_beatsBy_85 rfl ?_
                refine st_getfr dX11_beatsBy_86 f_X11_107 (by first | with_reducible assumption | rfl) (by rfl) ?_
                refine st_iload_n dX11_beatsBy_89 rfl ?_
                refine st_iload_n dX11_beatsBy_90 rfl ?_
                refine st_iload_n dX11_beatsBy_91 rfl ?_
                refine st_ishr dX11_beatsBy_92 ?_; refine st_iconst dX11_beatsBy_93 ?_; refine st_iand dX11_beatsBy_94 ?_; refine AW.top (z_bit (by omega) (by omega)) ?_
                refine st_iconst dX11_beatsBy_95 ?_
                refine st_icmp_ne (tgt := 103) dX11_beatsBy_96 (by omega) (by omega) rfl (fun h10 => ?_) (fun h10 => ?_)
                · refine st_aload_n dX11_beatsBy_103 rfl ?_
                  refine st_getfr dX11_beatsBy_104 f_X11_107 (by first | with_reducible assumption | rfl) (by rfl) ?_
                  refine st_iload_n dX11_beatsBy_107 rfl ?_
                  first | refine st_ialdK (k' := _) dX11_beatsBy_108 (by first | with_reducible assumption | rfl) rfl (by omega) (hn := by first | decide | omega) ?_ | refine st_iald dX11_beatsBy_108 (by first | with_reducible assumption | rfl) (by omega) (by omega) (hn := by first | decide | omega) ?_
                  have c : ¬ (setQ q (t + 1)).toNat.testBit o = true := fun x => h10 (by unfold bitI; rw [if_pos x])
                  rw [hv7b o (Nat.le_refl _) (by omega)]
                  exact nxv _ (by rw [toldV_setQ (s := setQ q (t + 1)), if_neg c])
                · refine st_iconst dX11_beatsBy_99 ?_
                  refine st_goto (tgt := 109) dX11_beatsBy_100 rfl ?_
                  have c : (setQ q (t + 1)).toNat.testBit o = true := by
                    unfold bitI at h10
                    split at h10
                    · assumption
                    · omega
                  exact nxv 0 (by rw [toldV_setQ (s := setQ q (t + 1)), if_pos c])
          refine AW.to (inn (B 3 4).toNat 0 M6 (Nat.zero_add _) Exc.rf (fun j hj => absurd hj (by omega)) (fun j _ hj => hv6 j hj) (fun M8 l3 hE8 hv8 => ?_))
          have hS8 := hS6.exc hE8 (by decide)
          refine st_aload_n dX11_beatsBy_116 rfl ?_
          refine c_V0v (d' := d - 1) dX11_beatsBy_117 l_X11_453 k_X11_beats i_X11_beats (Or.inl ⟨_, _, _, _, _, (by first | with_reducible assumption | rfl), by rfl⟩) (by omega) (Nat.le_of_ble_eq_true rfl) (C_rBeats (by omega) hB hS8 (fun j hj => by rw [hv8 j hj]; exact nowV_rng hB _ _ j)) (fun M9 N9 hx9 => ?_)
          obtain ⟨rfl, hE9, hj9, -, -, hS9⟩ := hx9
          rw [nxt_congr (v' := toldV B 3 (B 3 11 + t) (setQ q (t + 1))) rfl rfl rfl hv8, show nxt B 3 (sitQ B q t) (toldV B 3 (B 3 11 + t) (setQ q (t + 1))) = sitQ B q (t + 1) from rfl] at hS9
          refine st_iinc (L' := [_, _, _, _]) dX11_beatsBy_120 rfl (by decide) rfl rfl ?_
          refine st_goto (tgt := 37) dX11_beatsBy_123 rfl ?_
          refine AW.to (ih (t + 1) M9 l3 (by omega) (((hE.tr (hE6.sub (by decide))).tr (hE8.sub (by decide))).tr (hE9.sub (by decide))) (fun j j6 => ?_) ⟨hS9.1, hS9.2.1, hS9.2.2.1, by rw [hS9.2.2.2]; omega⟩ (fun t' ht' => ?_)) (h2 := by simp)
          · rw [hj9 j j6, hE8 113 (by decide), hE6 113 (by decide)]
            exact hj j j6
          · by_cases e : t' = t
            · rw [e]; exact h7
            · exact hno t' (by omega)
  exact AW.to (loop (B 3 4).toNat 0 M4 none (Nat.zero_add _) hE4 hj4 hS4 (fun t' ht' => absurd ht' (by omega))) (h2 := by simp [setQ])


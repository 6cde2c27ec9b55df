/-! the system's Thieves: the best place, and the questions to the ears -/
def tOk (t : Nat × Nat × Nat) : Prop := t.1 ≤ 10 ∧ t.2.1 ≤ 10 ∧ t.2.2 ≤ 30
theorem thK_ok {E : Nat → Int} {ne r s : Nat} (hr : r ≤ 10) (hs : s ≤ 10) : ∀ {n : Nat}, n ≤ 30 → ∀ t, t ∈ thK E ne r s n → tOk t
  | 0, _, t, h => absurd h (by simp [thK])
  | n + 1, hn, t, h => by
    unfold thK at h
    split at h
    · rcases List.mem_append.1 h with h | h
      · exact thK_ok hr hs (by omega) t h
      · rw [List.mem_singleton] at h
        subst h
        exact ⟨hr, hs, hn⟩
    · exact thK_ok hr hs (by omega) t h
theorem thS_ok {E : Nat → Int} {ne r : Nat} (hr : r ≤ 10) : ∀ {n : Nat}, n ≤ 10 → ∀ t, t ∈ thS E ne r n → tOk t
  | 0, _, t, h => absurd h (by simp [thS])
  | n + 1, hn, t, h => by
    unfold thS at h
    rcases List.mem_append.1 h with h | h
    · exact thS_ok hr (by omega) t h
    · exact thK_ok hr (by omega) (by omega) t h
theorem thR_ok {E : Nat → Int} {ne ns : Nat} (hs : ns ≤ 10) : ∀ {n : Nat}, n ≤ 10 → ∀ t, t ∈ thR E ne ns n → tOk t
  | 0, _, t, h => absurd h (by simp [thR])
  | n + 1, hn, t, h => by
    unfold thR at h
    rcases List.mem_append.1 h with h | h
    · exact thR_ok hs (by omega) t h
    · exact thS_ok (by omega) hs t h
theorem thR_okT {E : Nat → Int} {ne ns nr : Nat} (hs : ns ≤ 8) (hn : nr ≤ 4) : okT (thR E ne ns nr) := by
  refine ⟨by have := thR_len E ne ns hs nr; omega, fun j hj => ?_⟩
  have h : (thR E ne ns nr).getD j (0, 0, 0) ∈ thR E ne ns nr := by
    rw [List.getD_eq_getElem?_getD, List.getElem?_eq_getElem hj]
    exact List.getElem_mem hj
  exact thR_ok (by omega) (by omega) _ h
def A_best (L : List (Nat × Nat × Nat)) (nr ns : Nat) (what : Int) : Int := if L.length = 0 then -2 else if what = 0 then (bpO L nr ns).2.1 else if what = 1 then (bpO L nr ns).2.2 else (bpO L nr ns).1
theorem C_bestPlace {G : q_G} {d : Nat} {M : q_Mem} {N : q_MemL} {what : Int} (hd : 4 ≤ d) (h1 : 0 ≤ M 3 1 ∧ M 3 1 ≤ 4) (h3 : 0 ≤ M 3 3 ∧ M 3 3 ≤ 8) (h17 : 0 ≤ M 3 17 ∧ M 3 17 ≤ 8) (h9 : ∀ k, -1 ≤ M 9 k ∧ M 9 k ≤ 100) (hw : 0 ≤ what ∧ what ≤ 2) : AC0 G d m_X9_bestPlace [.ref 106, I what] M N (CV (fun x M' N' => x = I (A_best (thR (M 9) (M 3 17).toNat (M 3 3).toNat (M 3 1).toNat) (M 3 1).toNat (M 3 3).toNat what) ∧ N' = N ∧ Exc thX2 M M')) := by
  have hT := thR_okT (E := M 9) (ne := (M 3 17).toNat) (ns := (M 3 3).toNat) (nr := (M 3 1).toNat) (by omega) (by omega)
  refine AC.of (L0 := [_, _, none, none, none, none, none, none]) pn_X9 (Nat.le_of_ble_eq_true rfl) rfl ?_
  refine st_aload_n dX9_bestPlace_0 rfl ?_
  refine c_V0v (d' := d - 1) dX9_bestPlace_1 l_X9_28 k_X9_gather i_X9_gather (Or.inl ⟨_, _, _, _, _, (by first | assumption | rfl), by rfl⟩) (by omega) (Nat.le_of_ble_eq_true rfl) (C_thGather (by omega) h1 h3 h17 h9) (fun M1 N1 hx => ?_)
  obtain ⟨hN, hE, hH⟩ := hx
  rw [hN]
  generalize thR (M 9) (M 3 17).toNat (M 3 3).toNat (M 3 1).toNat = L at hT hH ⊢
  have e5 := hH.1
  have hl := hT.1
  have hE0 : Exc thX2 M M1 := hE.sub (by decide)
  have hb := fun s => bpO_rng (L := L) (nr := (M 3 1).toNat) hl (s := s)
  refine st_aload_n dX9_bestPlace_4 rfl ?_
  refine st_getfi dX9_bestPlace_5 f_X9_31 (by first | assumption | rfl) (by rfl) ?_
  rw [e5]
  refine st_if_ne (tgt := 14) dX9_bestPlace_8 (by omega) rfl (fun h7 => ?_) (fun h7 => ?_)
  · refine st_aload_n dX9_bestPlace_14 rfl ?_
    refine st_getfi dX9_bestPlace_15 f_X9_31 (by first | assumption | rfl) (by rfl) ?_
    refine st_iconst dX9_bestPlace_18 ?_
    refine st_iadd dX9_bestPlace_19 ?_
    refine st_istore_n (L' := [_, _, _, _, _, _, _, _]) dX9_bestPlace_20 (by decide) rfl rfl ?_
    refine st_iconst dX9_bestPlace_21 ?_
    refine st_istore_n (L' := [_, _, _, _, _, _, _, _]) dX9_bestPlace_22 (by decide) rfl rfl ?_
    refine st_iconst dX9_bestPlace_23 ?_
    refine st_istore (L' := [_, _, _, _, _, _, _, _]) dX9_bestPlace_24 (by decide) rfl rfl ?_
    refine st_iconst dX9_bestPlace_26 ?_
    refine st_istore (L' := [_, _, _, _, _, _, _, _]) dX9_bestPlace_27 (by decide) rfl rfl ?_
    rw [e5]
    have inner : ∀ (Q : q_Q0) (s : Nat), s < 8 → ∀ (q n : Nat) (M1 : q_Mem), n + q = (M 3 1).toNat → Exc thX2 M M1 → holdT L M1 → {l7 : Option Value} →
        (∀ (M2 : q_Mem) (l6 l7 : Option Value), Exc thX2 M M2 → holdT L M2 → AW0 G d m_X9_bestPlace 88 [some (.ref 106), some (I what), some (I (bpO L (M 3 1).toNat (s + 1)).1), some (I (bpO L (M 3 1).toNat (s + 1)).2.1), some (I (bpO L (M 3 1).toNat (s + 1)).2.2), some (I s), l6, l7] [] M2 N Q) →
        AW0 G d m_X9_bestPlace 44 [some (.ref 106), some (I what), some (I (bpI L s n (bpO L (M 3 1).toNat s)).1), some (I (bpI L s n (bpO L (M 3 1).toNat s)).2.1), some (I (bpI L s n (bpO L (M 3 1).toNat s)).2.2), some (I s), some (I n), l7] [] M1 N Q := by
      intro Q s hs q
      induction q with
      | zero =>
        intro n M1 hn hE hH l7 kk
        have e3 := hE 3 (by decide)
        refine st_iload dX9_bestPlace_44 rfl ?_
        refine st_aload_n dX9_bestPlace_46 rfl ?_
        refine st_getfr dX9_bestPlace_47 f_X9_24 (by first | assumption | rfl) (by rfl) ?_
        refine st_getfi dX9_bestPlace_50 f_X9_39 (by first | assumption | rfl) (by rfl) ?_
        rw [e3]
        refine st_icmp_ge (tgt := 88) dX9_bestPlace_53 (by omega) (by omega) rfl (fun h => ?_) (fun h => ?_)
        · skip
          have e := kk M1 (some (I n)) l7 hE hH
          rw [show bpO L (M 3 1).toNat (s + 1) = bpI L s n (bpO L (M 3 1).toNat s) by rw [show n = (M 3 1).toNat by omega]; rfl] at e
          exact e
        · skip
          omega
      | succ q ih =>
        intro n M1 hn hE hH l7 kk
        have e3 := hE 3 (by decide)
        have hm := mstT_rng L n s L.length
        have hbi := bpI_rng (L := L) (s := s) (n := n) (hb s)
        refine st_iload dX9_bestPlace_44 rfl ?_
        refine st_aload_n dX9_bestPlace_46 rfl ?_
        refine st_getfr dX9_bestPlace_47 f_X9_24 (by first | assumption | rfl) (by rfl) ?_
        refine st_getfi dX9_bestPlace_50 f_X9_39 (by first | assumption | rfl) (by rfl) ?_
        rw [e3]
        refine st_icmp_ge (tgt := 88) dX9_bestPlace_53 (by omega) (by omega) rfl (fun h => ?_) (fun h => ?_)
        · skip
          omega
        · refine st_aload_n dX9_bestPlace_56 rfl ?_
          refine st_iload dX9_bestPlace_57 rfl ?_
          refine st_iload dX9_bestPlace_59 rfl ?_
          refine c_V2i (d' := d - 1) dX9_bestPlace_61 l_X9_69 k_X9_mostStaying i_X9_mostStaying (Or.inl ⟨_, _, _, _, _, (by first | assumption | rfl), by rfl⟩) (by omega) (Nat.le_of_ble_eq_true rfl) (C_mostStaying (by omega) hH hT (by omega) (by omega)) (fun x M2 N2 hx => ?_)
          obtain ⟨rfl, hN2, hE2⟩ := hx
          rw [hN2]
          have hE3 : Exc thX2 M M2 := hE.tr (hE2.sub (by decide))
          have hH2 := holdT_exc hH hE2
          refine st_istore (L' := [_, _, _, _, _, _, _, _]) dX9_bestPlace_64 (by decide) rfl rfl ?_
          refine st_iload dX9_bestPlace_66 rfl ?_
          refine st_iload_n dX9_bestPlace_68 rfl ?_
          refine st_icmp_ge (tgt := 82) dX9_bestPlace_69 (by omega) (by omega) rfl (fun h8 => ?_) (fun h8 => ?_)
          · refine st_iinc (L' := [_, _, _, _, _, _, _, _]) dX9_bestPlace_82 rfl (by decide) rfl rfl ?_
            refine st_goto (tgt := 44) dX9_bestPlace_85 rfl ?_
            exact AW.to (ih (n + 1) M2 (by omega) hE3 hH2 kk (l7 := some (I (mstT L n s L.length)))) (h2 := by rw [show bpI L s (n + 1) (bpO L (M 3 1).toNat s) = bpI L s n (bpO L (M 3 1).toNat s) from if_neg (by omega)]; simp)
          · refine st_iload dX9_bestPlace_72 rfl ?_
            refine st_istore_n (L' := [_, _, _, _, _, _, _, _]) dX9_bestPlace_74 (by decide) rfl rfl ?_
            refine st_iload dX9_bestPlace_75 rfl ?_
            refine st_istore_n (L' := [_, _, _, _, _, _, _, _]) dX9_bestPlace_77 (by decide) rfl rfl ?_
            refine st_iload dX9_bestPlace_78 rfl ?_
            refine st_istore (L' := [_, _, _, _, _, _, _, _]) dX9_bestPlace_80 (by decide) rfl rfl ?_
            refine st_iinc (L' := [_, _, _, _, _, _, _, _]) dX9_bestPlace_82 rfl (by decide) rfl rfl ?_
            refine st_goto (tgt := 44) dX9_bestPlace_85 rfl ?_
            exact AW.to (ih (n + 1) M2 (by omega) hE3 hH2 kk (l7 := some (I (mstT L n s L.length)))) (h2 := by rw [show bpI L s (n + 1) (bpO L (M 3 1).toNat s) = (mstT L n s L.length, (n : Int), (s : Int)) from if_pos (by omega)]; simp)
    have outer : ∀ (q s : Nat) (M1 : q_Mem), s + q = (M 3 3).toNat → Exc thX2 M M1 → holdT L M1 → {l6 l7 : Option Value} → AW0 G d m_X9_bestPlace 29 [some (.ref 106), some (I what), some (I (bpO L (M 3 1).toNat s).1), some (I (bpO L (M 3 1).toNat s).2.1), some (I (bpO L (M 3 1).toNat s).2.2), some (I s), l6, l7] [] M1 N (CV (fun x M' N' => x = I (A_best L (M 3 1).toNat (M 3 3).toNat what) ∧ N' = N ∧ Exc thX2 M M')) := by
      intro q
      induction q with
      | zero =>
        intro s M1 hs hE hH l6 l7
        have hss : s = (M 3 3).toNat := by omega
        have e3 := hE 3 (by decide)
        refine st_iload dX9_bestPlace_29 rfl ?_
        refine st_aload_n dX9_bestPlace_31 rfl ?_
        refine st_getfr dX9_bestPlace_32 f_X9_24 (by first | assumption | rfl) (by rfl) ?_
        refine st_getfi dX9_bestPlace_35 f_X9_43 (by first | assumption | rfl) (by rfl) ?_
        rw [e3]
        refine st_icmp_ge (tgt := 94) dX9_bestPlace_38 (by omega) (by omega) rfl (fun h => ?_) (fun h => ?_)
        · refine st_iload_n dX9_bestPlace_94 rfl ?_
          refine st_if_ne (tgt := 100) dX9_bestPlace_95 (by omega) rfl (fun h9' => ?_) (fun h9' => ?_)
          · refine st_iload_n dX9_bestPlace_100 rfl ?_
            refine st_iconst dX9_bestPlace_101 ?_
            refine st_icmp_ne (tgt := 110) dX9_bestPlace_102 (by omega) (by omega) rfl (fun h10 => ?_) (fun h10 => ?_)
            · refine st_iload_n dX9_bestPlace_110 rfl ?_
              exact r_i dX9_bestPlace_111 rfl ⟨by rw [A_best, ← hss, if_neg (by omega), if_neg h9', if_neg h10], rfl, hE⟩
            · refine st_iload dX9_bestPlace_105 rfl ?_
              refine st_goto (tgt := 111) dX9_bestPlace_107 rfl ?_
              exact r_i dX9_bestPlace_111 rfl ⟨by rw [A_best, ← hss, if_neg (by omega), if_neg h9', if_pos (by omega)], rfl, hE⟩
          · refine st_iload_n dX9_bestPlace_98 rfl ?_
            exact r_i dX9_bestPlace_99 rfl ⟨by rw [A_best, ← hss, if_neg (by omega), if_pos (by omega)], rfl, hE⟩
        · skip
          omega
      | succ q ih =>
        intro s M1 hs hE hH l6 l7
        have e3 := hE 3 (by decide)
        refine st_iload dX9_bestPlace_29 rfl ?_
        refine st_aload_n dX9_bestPlace_31 rfl ?_
        refine st_getfr dX9_bestPlace_32 f_X9_24 (by first | assumption | rfl) (by rfl) ?_
        refine st_getfi dX9_bestPlace_35 f_X9_43 (by first | assumption | rfl) (by rfl) ?_
        rw [e3]
        refine st_icmp_ge (tgt := 94) dX9_bestPlace_38 (by omega) (by omega) rfl (fun h => ?_) (fun h => ?_)
        · skip
          omega
        · refine st_iconst dX9_bestPlace_41 ?_
          refine st_istore (L' := [_, _, _, _, _, _, _, _]) dX9_bestPlace_42 (by decide) rfl rfl ?_
          refine AW.to (inner _ s (by omega) (M 3 1).toNat 0 M1 (by omega) hE hH (fun M2 l6 l7 hE2 hH2 => ?_) (l7 := l7))
          refine st_iinc (L' := [_, _, _, _, _, _, _, _]) dX9_bestPlace_88 rfl (by decide) rfl rfl ?_
          refine st_goto (tgt := 29) dX9_bestPlace_91 rfl ?_
          exact AW.to (ih (s + 1) M2 (by omega) hE2 hH2 (l6 := l6) (l7 := l7)) (h2 := by simp)
    refine AW.to (outer (M 3 3).toNat 0 M1 (by omega) hE0 hH (l6 := none) (l7 := none)) (h2 := ?_)
    simp [bpO]
  · refine st_bipush dX9_bestPlace_11 (by decide) ?_
    exact r_i dX9_bestPlace_13 rfl ⟨by rw [A_best, if_pos (by omega)], rfl, hE0⟩
abbrev susL (M : q_Mem) : List (Nat × Nat × Nat) := thR (M 9) (M 3 17).toNat (M 3 3).toNat (M 3 1).toNat
def A_thief (M : q_Mem) (what : Int) : Int := if M 3 0 = 1 ∧ 0 ≤ what ∧ what ≤ 3 then A_susp (susL M) what else -1
theorem C_thief {G : q_G} {d : Nat} {M : q_Mem} {N : q_MemL} {what : Int} (hd : 5 ≤ d) (hM : NowOk M) (hw : i32 what) : AC0 G d m_X10_thief [.ref 0, I what] M N (CV (fun v M' N' => v = I (A_thief M what) ∧ N' = N ∧ Exc thX2 M M')) := by
  obtain ⟨h0, h1, h2, h3, h4, h5, h6, h11, h12, h13, h15, h17, h18, hb, hc, hwt, hv, hpa, he, -⟩ := id hM
  unfold i32 at hw
  refine AC.of (L0 := [_, _]) pn_X10 (Nat.le_of_ble_eq_true rfl) rfl ?_
  refine st_aload_n dX10_thief_0 rfl ?_
  refine st_getfr dX10_thief_1 f_X10_19 (by first | assumption | rfl) (by rfl) ?_
  refine st_getfi dX10_thief_4 f_X10_189 (by first | assumption | rfl) (by rfl) ?_
  refine st_if_eq (tgt := 30) dX10_thief_7 (by omega) rfl (fun h => ?_) (fun h => ?_)
  · refine st_iconst dX10_thief_30 ?_
    exact r_i dX10_thief_31 rfl ⟨by rw [A_thief, if_neg (by omega)], rfl, Exc.rf⟩
  · refine st_iload_n dX10_thief_10 rfl ?_
    refine st_if_lt (tgt := 30) dX10_thief_11 (by omega) rfl (fun h7 => ?_) (fun h7 => ?_)
    · refine st_iconst dX10_thief_30 ?_
      exact r_i dX10_thief_31 rfl ⟨by rw [A_thief, if_neg (by omega)], rfl, Exc.rf⟩
    · refine st_iload_n dX10_thief_14 rfl ?_
      refine st_iconst dX10_thief_15 ?_
      refine st_icmp_gt (tgt := 30) dX10_thief_16 (by omega) (by omega) rfl (fun h8 => ?_) (fun h8 => ?_)
      · refine st_iconst dX10_thief_30 ?_
        exact r_i dX10_thief_31 rfl ⟨by rw [A_thief, if_neg (by omega)], rfl, Exc.rf⟩
      · refine st_aload_n dX10_thief_19 rfl ?_
        refine st_getfr dX10_thief_20 f_X10_88 (by first | assumption | rfl) (by rfl) ?_
        refine st_iload_n dX10_thief_23 rfl ?_
        refine c_V1i (d' := d - 1) dX10_thief_24 l_X10_284 k_X9_suspects i_X9_suspects (Or.inl ⟨_, _, _, _, _, (by first | assumption | rfl), by rfl⟩) (by omega) (Nat.le_of_ble_eq_true rfl) (C_suspects (by omega) h1 h3 h17 he (by omega)) (fun x M1 N1 hx => ?_)
        obtain ⟨rfl, rfl, hE⟩ := hx
        refine st_goto (tgt := 31) dX10_thief_27 rfl ?_
        exact r_i dX10_thief_31 rfl ⟨by rw [A_thief, if_pos (by omega)], rfl, hE.sub (by decide)⟩
def A_nextEar (M : q_Mem) (what : Int) : Int := if M 3 0 = 1 ∧ 0 ≤ what ∧ what ≤ 2 then A_best (susL M) (M 3 1).toNat (M 3 3).toNat what else -1
theorem C_nextEar {G : q_G} {d : Nat} {M : q_Mem} {N : q_MemL} {what : Int} (hd : 5 ≤ d) (hM : NowOk M) (hw : i32 what) : AC0 G d m_X10_nextEar [.ref 0, I what] M N (CV (fun v M' N' => v = I (A_nextEar M what) ∧ N' = N ∧ Exc thX2 M M')) := by
  obtain ⟨h0, h1, h2, h3, h4, h5, h6, h11, h12, h13, h15, h17, h18, hb, hc, hwt, hv, hpa, he, -⟩ := id hM
  unfold i32 at hw
  refine AC.of (L0 := [_, _]) pn_X10 (Nat.le_of_ble_eq_true rfl) rfl ?_
  refine st_aload_n dX10_nextEar_0 rfl ?_
  refine st_getfr dX10_nextEar_1 f_X10_19 (by first | assumption | rfl) (by rfl) ?_
  refine st_getfi dX10_nextEar_4 f_X10_189 (by first | assumption | rfl) (by rfl) ?_
  refine st_if_eq (tgt := 30) dX10_nextEar_7 (by omega) rfl (fun h => ?_) (fun h => ?_)
  · refine st_iconst dX10_nextEar_30 ?_
    exact r_i dX10_nextEar_31 rfl ⟨by rw [A_nextEar, if_neg (by omega)], rfl, Exc.rf⟩
  · refine st_iload_n dX10_nextEar_10 rfl ?_
    refine st_if_lt (tgt := 30) dX10_nextEar_11 (by omega) rfl (fun h7 => ?_) (fun h7 => ?_)
    · refine st_iconst dX10_nextEar_30 ?_
      exact r_i dX10_nextEar_31 rfl ⟨by rw [A_nextEar, if_neg (by omega)], rfl, Exc.rf⟩
    · refine st_iload_n dX10_nextEar_14 rfl ?_
      refine st_iconst dX10_nextEar_15 ?_
      refine st_icmp_gt (tgt := 30) dX10_nextEar_16 (by omega) (by omega) rfl (fun h8 => ?_) (fun h8 => ?_)
      · refine st_iconst dX10_nextEar_30 ?_
        exact r_i dX10_nextEar_31 rfl ⟨by rw [A_nextEar, if_neg (by omega)], rfl, Exc.rf⟩
      · refine st_aload_n dX10_nextEar_19 rfl ?_
        refine st_getfr dX10_nextEar_20 f_X10_88 (by first | assumption | rfl) (by rfl) ?_
        refine st_iload_n dX10_nextEar_23 rfl ?_
        refine c_V1i (d' := d - 1) dX10_nextEar_24 l_X10_287 k_X9_bestPlace i_X9_bestPlace (Or.inl ⟨_, _, _, _, _, (by first | assumption | rfl), by rfl⟩) (by omega) (Nat.le_of_ble_eq_true rfl) (C_bestPlace (by omega) h1 h3 h17 he (by omega)) (fun x M1 N1 hx => ?_)
        obtain ⟨rfl, rfl, hE⟩ := hx
        refine st_goto (tgt := 31) dX10_nextEar_27 rfl ?_
        exact r_i dX10_nextEar_31 rfl ⟨by rw [A_nextEar, if_pos (by omega)], rfl, hE⟩


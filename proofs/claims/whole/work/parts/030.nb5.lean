/-! the system's Neighbours: the first voices by which they meet -/
def s30 (k n : Nat) : Nat := if k < n then 30 else 0
def okM (M : q_Mem) (n l0 l1 l2 : Nat) (st : Int) (a b c : Nat) : Prop := ¬ mpl M n l0 l1 l2 (vs3 n l0 l1 l2 a b c (nowV M 0)) = -1 ∧ (st = -1 ∨ mpl M n l0 l1 l2 (vs3 n l0 l1 l2 a b c (nowV M 0)) = st)
def metR (M : q_Mem) (n l0 l1 l2 : Nat) (what : Int) (a b c : Nat) : Int := if what = 0 then ((a + b + c : Nat) : Int) else if what = 1 then mpl M n l0 l1 l2 (vs3 n l0 l1 l2 a b c (nowV M 0)) else if what - 2 < n then vs3 n l0 l1 l2 a b c (nowV M 0) (lof l0 l1 l2 (what - 2).toNat) else -1
/-- nothing before this place -/
def lowM (M : q_Mem) (n l0 l1 l2 : Nat) (st : Int) (t a b : Nat) : Prop := ∀ a' b' c' : Nat, a' ≤ 30 → b' ≤ s30 1 n → c' ≤ s30 2 n → (a' + b' + c' < t ∨ (a' + b' + c' = t ∧ (a' < a ∨ (a' = a ∧ b' < b)))) → ¬ okM M n l0 l1 l2 st a' b' c'
def MeetR (M : q_Mem) (n l0 l1 l2 : Nat) (st what r : Int) : Prop := (∃ a b c : Nat, a ≤ 30 ∧ b ≤ s30 1 n ∧ c ≤ s30 2 n ∧ okM M n l0 l1 l2 st a b c ∧ lowM M n l0 l1 l2 st (a + b + c) a b ∧ r = metR M n l0 l1 l2 what a b c) ∨ ((∀ a b c : Nat, a ≤ 30 → b ≤ s30 1 n → c ≤ s30 2 n → ¬ okM M n l0 l1 l2 st a b c) ∧ r = -2)
theorem C_metAs {G : q_G} {d : Nat} {M : q_Mem} {N : q_MemL} {n l0 l1 l2 : Nat} {what t pl : Int} (hd : 1 ≤ d) (hn : 1 ≤ n ∧ n ≤ 3) (hw : 0 ≤ what ∧ what ≤ 4) (h0 : M 105 0 = l0 ∧ l0 < 7) (h1 : 1 < n → M 105 1 = l1 ∧ l1 < 7) (h2 : 2 < n → M 105 2 = l2 ∧ l2 < 7) : AC0 G d m_X4_metAs [.ref 103, I what, I n, I t, I pl] M N (CV (PU (I (if what = 0 then t else if what = 1 then pl else if what - 2 < n then M 104 (lof l0 l1 l2 (what - 2).toNat) else -1)) M N)) := by
  refine AC.of (L0 := [_, _, _, _, _]) pn_X4 (Nat.le_of_ble_eq_true rfl) rfl ?_
  refine st_iload_n dX4_metAs_0 rfl ?_
  refine st_if_ne (tgt := 6) dX4_metAs_1 (by omega) rfl (fun h7 => ?_) (fun h7 => ?_)
  · refine st_iload_n dX4_metAs_6 rfl ?_
    refine st_iconst dX4_metAs_7 ?_
    refine st_icmp_ne (tgt := 14) dX4_metAs_8 (by omega) (by omega) rfl (fun h8 => ?_) (fun h8 => ?_)
    · refine st_iload_n dX4_metAs_14 rfl ?_
      refine st_iconst dX4_metAs_15 ?_
      refine st_isub dX4_metAs_16 ?_
      refine st_iload_n dX4_metAs_17 rfl ?_
      refine st_icmp_ge (tgt := 41) dX4_metAs_18 (by omega) (by omega) rfl (fun h9 => ?_) (fun h9 => ?_)
      · refine st_iconst dX4_metAs_41 ?_
        exact r_i dX4_metAs_42 rfl ⟨by rw [if_neg h7, if_neg h8, if_neg (by omega)], rfl, rfl⟩
      · refine st_aload_n dX4_metAs_21 rfl ?_
        refine st_getfr dX4_metAs_22 f_X4_9 (by first | assumption | rfl) (by rfl) ?_
        refine st_aload_n dX4_metAs_25 rfl ?_
        refine st_getfr dX4_metAs_26 f_X4_15 (by first | assumption | rfl) (by rfl) ?_
        refine st_iload_n dX4_metAs_29 rfl ?_
        refine st_iconst dX4_metAs_30 ?_
        refine st_isub dX4_metAs_31 ?_
        have hq : M 105 (what - 2).toNat = lof l0 l1 l2 (what - 2).toNat ∧ lof l0 l1 l2 (what - 2).toNat < 7 := by
          have hc : what = 2 ∨ what = 3 ∨ what = 4 := by omega
          rcases hc with rfl | rfl | rfl
          · exact h0
          · exact h1 (by omega)
          · exact h2 (by omega)
        refine c_S2p (d' := d - 1) dX4_metAs_32 l_X4_67 k_X10_cell s_X10_cell (by omega) (Nat.le_of_ble_eq_true rfl) (C_cellI sh_105 (by decide) (by omega)) ?_
        rw [hq.1]
        refine c_S2p (d' := d - 1) dX4_metAs_35 l_X4_67 k_X10_cell s_X10_cell (by omega) (Nat.le_of_ble_eq_true rfl) (C_cellI sh_104 (by decide) (by omega)) ?_
        rw [Int.toNat_natCast]
        refine st_goto (tgt := 42) dX4_metAs_38 rfl ?_
        exact r_i dX4_metAs_42 rfl ⟨by rw [if_neg h7, if_neg h8, if_pos (by omega)], rfl, rfl⟩
    · refine st_iload dX4_metAs_11 rfl ?_
      exact r_i dX4_metAs_13 rfl ⟨by rw [if_neg h7, if_pos (by omega)], rfl, rfl⟩
  · refine st_iload_n dX4_metAs_4 rfl ?_
    exact r_i dX4_metAs_5 rfl ⟨by rw [if_pos (by omega)], rfl, rfl⟩
theorem mpl_congr {M M' : q_Mem} {n l0 l1 l2 : Nat} {v v' : Nat → Int} (h3 : M' 3 = M 3) (h4 : M' 4 = M 4) (h0 : l0 < (M 3 4).toNat) (h1 : 1 < n → l1 < (M 3 4).toNat) (h2 : 2 < n → l2 < (M 3 4).toNat) (hv : ∀ q, q < (M 3 4).toNat → v' q = v q) : mpl M' n l0 l1 l2 v' = mpl M n l0 l1 l2 v := by
  unfold mpl
  have e0 := hrd_congr (M := M) (M' := M') (v := v) (v' := v') h3 h4 h0 hv
  rw [e0]
  by_cases q1 : 1 < n
  · rw [hrd_congr (M := M) (M' := M') (v := v) (v' := v') h3 h4 (h1 q1) hv]
    by_cases q2 : 2 < n
    · rw [hrd_congr (M := M) (M' := M') (v := v) (v' := v') h3 h4 (h2 q2) hv]
    · rw [if_neg (fun z => q2 z.1 : ¬ (2 < n ∧ ¬ hrd M' v' l2 = hrd M v l0)), if_neg (fun z => q2 z.1 : ¬ (2 < n ∧ ¬ hrd M v l2 = hrd M v l0))]
  · have q2 : ¬ 2 < n := by omega
    rw [if_neg (fun z => q1 z.1 : ¬ (1 < n ∧ ¬ hrd M' v' l1 = hrd M v l0)), if_neg (fun z => q1 z.1 : ¬ (1 < n ∧ ¬ hrd M v l1 = hrd M v l0)), if_neg (fun z => q2 z.1 : ¬ (2 < n ∧ ¬ hrd M' v' l2 = hrd M v l0)), if_neg (fun z => q2 z.1 : ¬ (2 < n ∧ ¬ hrd M v l2 = hrd M v l0))]
/-- the rows while voices are tried -/
def tryM (M M1 : q_Mem) (n l0 l1 l2 : Nat) : Prop := Exc [104, 105] M M1 ∧ (M1 105 0 = l0 ∧ (1 < n → M1 105 1 = l1) ∧ (2 < n → M1 105 2 = l2)) ∧ ∀ q, q < (M 3 4).toNat → ¬ q = l0 → (1 < n → ¬ q = l1) → (2 < n → ¬ q = l2) → M1 104 q = nowV M 0 q
theorem C_meeting {G : q_G} {d : Nat} {M : q_Mem} {N : q_MemL} {s st what : Int} (hd : 5 ≤ d) (hM : Hrg M 3) (h11 : 0 ≤ M 3 11 ∧ M 3 11 ≤ 10000) (h12 : 0 ≤ M 3 12 ∧ M 3 12 < 1073741824) (hs : 0 ≤ s ∧ s < 2147483648) (hst : -1 ≤ st ∧ st < 2147483648) (hw : 0 ≤ what ∧ what ≤ 4) (hn : 1 ≤ (gL s (M 3 4).toNat).length ∧ (gL s (M 3 4).toNat).length ≤ 3) : AC0 G d m_X4_meeting [.ref 103, I s, I st, I what] M N (CV (fun x M' N' => N' = N ∧ Exc [104, 105] M M' ∧ ∃ r, x = I r ∧ MeetR M (gL s (M 3 4).toNat).length ((gL s (M 3 4).toNat).getD 0 0) ((gL s (M 3 4).toNat).getD 1 0) ((gL s (M 3 4).toNat).getD 2 0) st what r)) := by
  have hH : isHome 3 := Or.inl rfl
  have h4 := hM.2.2.1
  have hnv : ∀ q, 0 ≤ nowV M 0 q ∧ nowV M 0 q ≤ 30 := fun q => toldV_rng hM.2.2.2.2.2.2.2.2 q
  have hgl := gL_lt s (M 3 4).toNat
  refine AC.of (L0 := [_, _, _, _, none, none, none, none, none, none, none, none, none]) pn_X4 (Nat.le_of_ble_eq_true rfl) rfl ?_
  refine st_aload_n dX4_meeting_0 rfl ?_
  refine st_iload_n dX4_meeting_1 rfl ?_
  refine c_V1i (d' := d - 1) dX4_meeting_2 l_X4_22 k_X4_gather i_X4_gather (Or.inl ⟨_, _, _, _, _, (by first | assumption | rfl), by rfl⟩) (by omega) (Nat.le_of_ble_eq_true rfl) (C_gather (by omega) h4 hs) (fun x M1 N1 hx => ?_)
  obtain ⟨rfl, hN1, hE, hm⟩ := hx
  rw [hN1]
  have hg0 := hgl.2 0 (by omega)
  have hg1 : 1 < (gL s (M 3 4).toNat).length → _ := hgl.2 1
  have hg2 : 2 < (gL s (M 3 4).toNat).length → _ := hgl.2 2
  have hm0 := hm 0 (by omega) (by omega)
  have hm1 : 1 < (gL s (M 3 4).toNat).length → _ := hm 1 (by omega)
  have hm2 : 2 < (gL s (M 3 4).toNat).length → _ := hm 2 (by omega)
  clear hm hgl
  generalize (gL s (M 3 4).toNat).length = n at hn hg1 hg2 hm1 hm2 ⊢
  generalize (gL s (M 3 4).toNat).getD 0 0 = l0 at hg0 hm0 ⊢
  generalize (gL s (M 3 4).toNat).getD 1 0 = l1 at hg1 hm1 ⊢
  generalize (gL s (M 3 4).toNat).getD 2 0 = l2 at hg2 hm2 ⊢
  have e3 := hE 3 (by decide)
  have hs1 : s30 1 n ≤ 30 := by unfold s30; split <;> omega
  have hs2 : s30 2 n ≤ 30 := by unfold s30; split <;> omega
  have hs3 : 30 + s30 1 n + s30 2 n = n * 30 := by
    unfold s30
    have hc : n = 1 ∨ n = 2 ∨ n = 3 := by omega
    rcases hc with rfl | rfl | rfl <;> rfl
  have inner : ∀ (Q : q_Q0) (t a : Nat) (fm : Int) (q b : Nat) (M1 : q_Mem), a ≤ 30 → a ≤ t → t ≤ 90 → b + q = 32 → tryM M M1 n l0 l1 l2 → t ≤ a + b + s30 2 n → lowM M n l0 l1 l2 st t a b → {l12 : Option Value} →
      (∀ (M2 : q_Mem) (r : Int), Exc [104, 105] M M2 → MeetR M n l0 l1 l2 st what r → Q (some (I r)) M2 N) →
      (∀ (M2 : q_Mem) (l11 l12 : Option Value), tryM M M2 n l0 l1 l2 → lowM M n l0 l1 l2 st t (a + 1) 0 → AW0 G d m_X4_meeting 191 [some (.ref 103), some (I s), some (I st), some (I what), some (I n), some (I (s30 1 n : Nat)), some (I (s30 2 n : Nat)), some (I t), some (I fm), some (I a), some (I (min (s30 1 n : Nat) ((t : Int) - a))), l11, l12] [] M2 N Q) →
      AW0 G d m_X4_meeting 123 [some (.ref 103), some (I s), some (I st), some (I what), some (I n), some (I (s30 1 n : Nat)), some (I (s30 2 n : Nat)), some (I t), some (I fm), some (I a), some (I (min (s30 1 n : Nat) ((t : Int) - a))), some (I b), l12] [] M1 N Q := by
    intro Q t a fm q
    induction q with
    | zero =>
      intro b M1 ha hat ht hb hT htb hlow l12 hQ kk
      refine st_iload dX4_meeting_123 rfl ?_
      refine st_iload dX4_meeting_125 rfl ?_
      refine st_icmp_gt (tgt := 191) dX4_meeting_127 (by omega) (by omega) rfl (fun h => ?_) (fun h => ?_)
      · skip
        exact kk M1 (some (I b)) l12 hT (fun a' b' c' x1 x2 x3 x4 => by
          by_cases y : a' + b' + c' = t ∧ a' = a
          · exact hlow a' b' c' x1 x2 x3 (Or.inr ⟨y.1, Or.inr ⟨y.2, by omega⟩⟩)
          · exact hlow a' b' c' x1 x2 x3 (by omega))
      · skip
        omega
    | succ q ih =>
      intro b M1 ha hat ht hb hT htb hlow l12 hQ kk
      refine st_iload dX4_meeting_123 rfl ?_
      refine st_iload dX4_meeting_125 rfl ?_
      refine st_icmp_gt (tgt := 191) dX4_meeting_127 (by omega) (by omega) rfl (fun h => ?_) (fun h => ?_)
      · skip
        exact kk M1 (some (I b)) l12 hT (fun a' b' c' x1 x2 x3 x4 => by
          by_cases y : a' + b' + c' = t ∧ a' = a
          · exact hlow a' b' c' x1 x2 x3 (Or.inr ⟨y.1, Or.inr ⟨y.2, by omega⟩⟩)
          · exact hlow a' b' c' x1 x2 x3 (by omega))
      · refine st_aload_n dX4_meeting_130 rfl ?_
        refine st_iload dX4_meeting_131 rfl ?_
        refine st_iload dX4_meeting_133 rfl ?_
        refine st_iload dX4_meeting_135 rfl ?_
        refine st_iload dX4_meeting_137 rfl ?_
        refine st_iload dX4_meeting_139 rfl ?_
        refine st_isub dX4_meeting_141 ?_
        refine st_iload dX4_meeting_142 rfl ?_
        refine st_isub dX4_meeting_144 ?_
        obtain ⟨hE1, ⟨m0, m1, m2⟩, hv1⟩ := hT
        rw [show (t : Int) - a - b = ((t - a - b : Nat) : Int) by omega]
        refine c_V4v (d' := d - 1) dX4_meeting_145 l_X4_45 k_X4_setVoices i_X4_setVoices (Or.inl ⟨_, _, _, _, _, (by first | assumption | rfl), by rfl⟩) (by omega) (Nat.le_of_ble_eq_true rfl) (C_setVoices (by omega) hn.2 ⟨m0, by omega⟩ (fun z => ⟨m1 z, by have := hg1 z; omega⟩) (fun z => ⟨m2 z, by have := hg2 z; omega⟩)) (fun M2 N2 hx => ?_)
        obtain ⟨hN2, hE2, hv2⟩ := hx
        rw [hN2]
        have hE3 : Exc [104, 105] M M2 := hE1.tr (hE2.sub (by decide))
        have e32 := hE3 3 (by decide)
        have e105 := hE2 105 (by decide)
        have hvv : ∀ q, q < (M 3 4).toNat → M2 104 q = vs3 n l0 l1 l2 a b (t - a - b : Nat) (nowV M 0) q := by
          intro q hq
          rw [hv2]
          unfold vs3
          split
          · rfl
          · next y1 =>
            split
            · rfl
            · next y2 =>
              split
              · rfl
              · next y3 => exact hv1 q hq y3 (fun z e => y2 ⟨z, e⟩) (fun z e => y1 ⟨z, e⟩)
        have hSo : Sok M2 104 (M2 3 4).toNat := by
          intro q hq
          rw [e32] at hq
          rw [hvv q hq]
          have := hnv q
          unfold vs3
          split
          · omega
          · split
            · omega
            · split <;> omega
        have hmp : mpl M2 n l0 l1 l2 (M2 104) = mpl M n l0 l1 l2 (vs3 n l0 l1 l2 a b (t - a - b : Nat) (nowV M 0)) := mpl_congr e32 (hE3 4 (by decide)) hg0 hg1 hg2 hvv
        have hmr : -1 ≤ mpl M n l0 l1 l2 (vs3 n l0 l1 l2 a b (t - a - b : Nat) (nowV M 0)) ∧ mpl M n l0 l1 l2 (vs3 n l0 l1 l2 a b (t - a - b : Nat) (nowV M 0)) < 8 := by
          have r0 := hrd_rng hM.2.1 (vs3 n l0 l1 l2 a b (t - a - b : Nat) (nowV M 0)) l0
          unfold mpl
          split
          · omega
          · split <;> omega
        refine st_aload_n dX4_meeting_148 rfl ?_
        refine st_iload dX4_meeting_149 rfl ?_
        refine c_V1p (d' := d - 1) dX4_meeting_151 l_X4_49 k_X4_meetingPlace i_X4_meetingPlace (Or.inl ⟨_, _, _, _, _, (by first | assumption | rfl), by rfl⟩) (by omega) (Nat.le_of_ble_eq_true rfl) (C_meetingPlace (by omega) (hM.exc hE3 (by decide) (by decide) (by decide) (by decide)) (by rw [e32]; exact h12) hSo hn ⟨by rw [e105]; exact m0, by rw [e32]; exact hg0⟩ (fun z => ⟨by rw [e105]; exact m1 z, by rw [e32]; exact hg1 z⟩) (fun z => ⟨by rw [e105]; exact m2 z, by rw [e32]; exact hg2 z⟩)) ?_
        rw [hmp]
        refine st_istore (L' := [_, _, _, _, _, _, _, _, _, _, _, _, _]) dX4_meeting_154 (by decide) rfl rfl ?_
        refine st_iload dX4_meeting_156 rfl ?_
        refine st_iconst dX4_meeting_158 ?_
        have nx : ¬ okM M n l0 l1 l2 st a b (t - a - b) → AW0 G d m_X4_meeting 185 [some (.ref 103), some (I s), some (I st), some (I what), some (I n), some (I (s30 1 n : Nat)), some (I (s30 2 n : Nat)), some (I t), some (I fm), some (I a), some (I (min (s30 1 n : Nat) ((t : Int) - a))), some (I b), some (I (mpl M n l0 l1 l2 (vs3 n l0 l1 l2 a b (t - a - b : Nat) (nowV M 0))))] [] M2 N Q := by
          intro hno
          refine st_iinc (L' := [_, _, _, _, _, _, _, _, _, _, _, _, _]) dX4_meeting_185 rfl (by decide) rfl rfl ?_
          refine st_goto (tgt := 123) dX4_meeting_188 rfl ?_
          refine AW.to (ih (b + 1) M2 ha hat ht (by omega) ⟨hE3, ⟨by rw [e105]; exact m0, fun z => by rw [e105]; exact m1 z, fun z => by rw [e105]; exact m2 z⟩, fun q hq y0 y1 y2 => ?_⟩ (by omega) (fun a' b' c' x1 x2 x3 x4 => ?_) hQ kk (l12 := some (I (mpl M n l0 l1 l2 (vs3 n l0 l1 l2 a b (t - a - b : Nat) (nowV M 0)))))) (h2 := by simp)
          · rw [hvv q hq]
            unfold vs3
            rw [if_neg (fun z => y2 z.1 z.2), if_neg (fun z => y1 z.1 z.2), if_neg y0]
          · by_cases y : a' + b' + c' = t ∧ a' = a ∧ b' = b
            · obtain ⟨y1, y2, y3⟩ := y
              rw [y2, y3, show c' = t - a - b by omega]
              exact hno
            · exact hlow a' b' c' x1 x2 x3 (by omega)
        have ys : okM M n l0 l1 l2 st a b (t - a - b) → AW0 G d m_X4_meeting 173 [some (.ref 103), some (I s), some (I st), some (I what), some (I n), some (I (s30 1 n : Nat)), some (I (s30 2 n : Nat)), some (I t), some (I fm), some (I a), some (I (min (s30 1 n : Nat) ((t : Int) - a))), some (I b), some (I (mpl M n l0 l1 l2 (vs3 n l0 l1 l2 a b (t - a - b : Nat) (nowV M 0))))] [] M2 N Q := by
          intro hok
          have hsum : a + b + (t - a - b) = t := by omega
          refine st_aload_n dX4_meeting_173 rfl ?_
          refine st_iload_n dX4_meeting_174 rfl ?_
          refine st_iload dX4_meeting_175 rfl ?_
          refine st_iload dX4_meeting_177 rfl ?_
          refine st_iload dX4_meeting_179 rfl ?_
          refine c_V4p (d' := d - 1) dX4_meeting_181 l_X4_52 k_X4_metAs i_X4_metAs (Or.inl ⟨_, _, _, _, _, (by first | assumption | rfl), by rfl⟩) (by omega) (Nat.le_of_ble_eq_true rfl) (C_metAs (by omega) hn hw ⟨by rw [e105]; exact m0, by omega⟩ (fun z => ⟨by rw [e105]; exact m1 z, by have := hg1 z; omega⟩) (fun z => ⟨by rw [e105]; exact m2 z, by have := hg2 z; omega⟩)) ?_
          refine st_ireturn dX4_meeting_184 rfl rfl ⟨rfl, hQ M2 _ hE3 (Or.inl ⟨a, b, t - a - b, ha, by omega, by omega, hok, by rw [hsum]; exact hlow, ?_⟩)⟩
          unfold metR
          rw [hsum]
          split
          · rfl
          · split
            · rfl
            · split
              · next z => exact hvv _ (by
                  unfold lof
                  split
                  · exact hg0
                  · split
                    · exact hg1 (by omega)
                    · exact hg2 (by omega))
              · rfl
        refine st_icmp_eq (tgt := 185) dX4_meeting_159 (by omega) (by omega) rfl (fun h7 => ?_) (fun h7 => ?_)
        · skip
          exact nx (fun z => z.1 h7)
        · refine st_iload_n dX4_meeting_162 rfl ?_
          refine st_iconst dX4_meeting_163 ?_
          refine st_icmp_eq (tgt := 173) dX4_meeting_164 (by omega) (by omega) rfl (fun h8 => ?_) (fun h8 => ?_)
          · skip
            exact ys ⟨h7, Or.inl h8⟩
          · refine st_iload dX4_meeting_167 rfl ?_
            refine st_iload_n dX4_meeting_169 rfl ?_
            refine st_icmp_ne (tgt := 185) dX4_meeting_170 (by omega) (by omega) rfl (fun h9 => ?_) (fun h9 => ?_)
            · skip
              exact nx (fun z => z.2.elim h8 h9)
            · skip
              exact ys ⟨h7, Or.inr (by omega)⟩
  have middle : ∀ (Q : q_Q0) (t : Nat) (q a : Nat) (M1 : q_Mem), t ≤ n * 30 → a + q = 32 → tryM M M1 n l0 l1 l2 → t ≤ a + s30 1 n + s30 2 n → lowM M n l0 l1 l2 st t a 0 → {l10 l11 l12 : Option Value} →
      (∀ (M2 : q_Mem) (r : Int), Exc [104, 105] M M2 → MeetR M n l0 l1 l2 st what r → Q (some (I r)) M2 N) →
      (∀ (M2 : q_Mem) (l8 l9 l10 l11 l12 : Option Value), tryM M M2 n l0 l1 l2 → lowM M n l0 l1 l2 st (t + 1) 0 0 → AW0 G d m_X4_meeting 197 [some (.ref 103), some (I s), some (I st), some (I what), some (I n), some (I (s30 1 n : Nat)), some (I (s30 2 n : Nat)), some (I t), l8, l9, l10, l11, l12] [] M2 N Q) →
      AW0 G d m_X4_meeting 90 [some (.ref 103), some (I s), some (I st), some (I what), some (I n), some (I (s30 1 n : Nat)), some (I (s30 2 n : Nat)), some (I t), some (I (min 30 t)), some (I a), l10, l11, l12] [] M1 N Q := by
    intro Q t q
    induction q with
    | zero =>
      intro a M1 ht hb hT hta hlow l10 l11 l12 hQ kk
      refine st_iload dX4_meeting_90 rfl ?_
      refine st_iload dX4_meeting_92 rfl ?_
      refine st_icmp_gt (tgt := 197) dX4_meeting_94 (by omega) (by omega) rfl (fun h => ?_) (fun h => ?_)
      · skip
        exact kk M1 _ _ l10 l11 l12 hT (fun a' b' c' x1 x2 x3 x4 => hlow a' b' c' x1 x2 x3 (by omega))
      · skip
        omega
    | succ q ih =>
      intro a M1 ht hb hT hta hlow l10 l11 l12 hQ kk
      refine st_iload dX4_meeting_90 rfl ?_
      refine st_iload dX4_meeting_92 rfl ?_
      refine st_icmp_gt (tgt := 197) dX4_meeting_94 (by omega) (by omega) rfl (fun h => ?_) (fun h => ?_)
      · skip
        exact kk M1 _ _ l10 l11 l12 hT (fun a' b' c' x1 x2 x3 x4 => hlow a' b' c' x1 x2 x3 (by omega))
      · refine st_iload dX4_meeting_97 rfl ?_
        refine st_iload dX4_meeting_99 rfl ?_
        refine st_iload dX4_meeting_101 rfl ?_
        refine st_isub dX4_meeting_103 ?_
        refine st_mmin dX4_meeting_104 lm_X4_36 (by omega) (Nat.le_of_ble_eq_true rfl) (by omega) (by omega) ?_
        refine st_istore (L' := [_, _, _, _, _, _, _, _, _, _, _, _, _]) dX4_meeting_107 (by decide) rfl rfl ?_
        refine st_iconst dX4_meeting_109 ?_
        refine st_iload dX4_meeting_110 rfl ?_
        refine st_iload dX4_meeting_112 rfl ?_
        refine st_isub dX4_meeting_114 ?_
        refine st_iload dX4_meeting_115 rfl ?_
        refine st_isub dX4_meeting_117 ?_
        refine st_mmax dX4_meeting_118 lm_X4_42 (by omega) (Nat.le_of_ble_eq_true rfl) (by omega) (by omega) ?_
        refine st_istore (L' := [_, _, _, _, _, _, _, _, _, _, _, _, _]) dX4_meeting_121 (by decide) rfl rfl ?_
        rw [show max (0 : Int) ((t : Int) - a - (s30 2 n : Nat)) = ((t - a - s30 2 n : Nat) : Int) by omega]
        have hbq : (t - a - s30 2 n) + (32 - (t - a - s30 2 n)) = 32 := by omega
        refine inner Q t a _ (32 - (t - a - s30 2 n)) (t - a - s30 2 n) M1 (by omega) (by omega) (by omega) hbq hT (by omega) (fun a' b' c' x1 x2 x3 x4 => ?_) hQ (fun M2 l11 l12 hT2 hlow2 => ?_) (l12 := l12)
        · by_cases y : a' + b' + c' = t ∧ a' = a
          · omega
          · exact hlow a' b' c' x1 x2 x3 (by omega)
        · refine st_iinc (L' := [_, _, _, _, _, _, _, _, _, _, _, _, _]) dX4_meeting_191 rfl (by decide) rfl rfl ?_
          refine st_goto (tgt := 90) dX4_meeting_194 rfl ?_
          exact AW.to (ih (a + 1) M2 ht (by omega) hT2 (by omega) hlow2 hQ kk (l10 := some (I (min (s30 1 n : Nat) ((t : Int) - a)))) (l11 := l11) (l12 := l12)) (h2 := by simp)
  have outer : ∀ (q t : Nat) (M1 : q_Mem), t + q = 92 → tryM M M1 n l0 l1 l2 → lowM M n l0 l1 l2 st t 0 0 → {l8 l9 l10 l11 l12 : Option Value} → AW0 G d m_X4_meeting 57 [some (.ref 103), some (I s), some (I st), some (I what), some (I n), some (I (s30 1 n : Nat)), some (I (s30 2 n : Nat)), some (I t), l8, l9, l10, l11, l12] [] M1 N (CV (fun x M' N' => N' = N ∧ Exc [104, 105] M M' ∧ ∃ r, x = I r ∧ MeetR M n l0 l1 l2 st what r)) := by
    intro q
    induction q with
    | zero =>
      intro t M1 hb hT hlow l8 l9 l10 l11 l12
      refine st_iload dX4_meeting_57 rfl ?_
      refine st_iload dX4_meeting_59 rfl ?_
      refine st_bipush dX4_meeting_61 (by decide) ?_
      refine st_imul dX4_meeting_63 ?_
      refine st_icmp_gt (tgt := 203) dX4_meeting_64 (by omega) (by omega) rfl (fun h => ?_) (fun h => ?_)
      · refine st_bipush dX4_meeting_203 (by decide) ?_
        exact r_i dX4_meeting_205 rfl ⟨rfl, hT.1, -2, rfl, Or.inr ⟨fun a b c x1 x2 x3 => hlow a b c x1 x2 x3 (by omega), rfl⟩⟩
      · skip
        omega
    | succ q ih =>
      intro t M1 hb hT hlow l8 l9 l10 l11 l12
      refine st_iload dX4_meeting_57 rfl ?_
      refine st_iload dX4_meeting_59 rfl ?_
      refine st_bipush dX4_meeting_61 (by decide) ?_
      refine st_imul dX4_meeting_63 ?_
      refine st_icmp_gt (tgt := 203) dX4_meeting_64 (by omega) (by omega) rfl (fun h => ?_) (fun h => ?_)
      · refine st_bipush dX4_meeting_203 (by decide) ?_
        exact r_i dX4_meeting_205 rfl ⟨rfl, hT.1, -2, rfl, Or.inr ⟨fun a b c x1 x2 x3 => hlow a b c x1 x2 x3 (by omega), rfl⟩⟩
      · refine st_bipush dX4_meeting_67 (by decide) ?_
        refine st_iload dX4_meeting_69 rfl ?_
        refine st_mmin dX4_meeting_71 lm_X4_36 (by omega) (Nat.le_of_ble_eq_true rfl) (by omega) (by omega) ?_
        refine st_istore (L' := [_, _, _, _, _, _, _, _, _, _, _, _, _]) dX4_meeting_74 (by decide) rfl rfl ?_
        refine st_iconst dX4_meeting_76 ?_
        refine st_iload dX4_meeting_77 rfl ?_
        refine st_iload dX4_meeting_79 rfl ?_
        refine st_isub dX4_meeting_81 ?_
        refine st_iload dX4_meeting_82 rfl ?_
        refine st_isub dX4_meeting_84 ?_
        refine st_mmax dX4_meeting_85 lm_X4_42 (by omega) (Nat.le_of_ble_eq_true rfl) (by omega) (by omega) ?_
        refine st_istore (L' := [_, _, _, _, _, _, _, _, _, _, _, _, _]) dX4_meeting_88 (by decide) rfl rfl ?_
        rw [show max (0 : Int) ((t : Int) - (s30 1 n : Nat) - (s30 2 n : Nat)) = ((t - s30 1 n - s30 2 n : Nat) : Int) by omega]
        have hbq : (t - s30 1 n - s30 2 n) + (32 - (t - s30 1 n - s30 2 n)) = 32 := by omega
        refine middle _ t (32 - (t - s30 1 n - s30 2 n)) (t - s30 1 n - s30 2 n) M1 (by omega) hbq hT (by omega) (fun a' b' c' x1 x2 x3 x4 => hlow a' b' c' x1 x2 x3 (by omega)) (fun M2 r hE2 hr => ⟨_, rfl, rfl, hE2, r, rfl, hr⟩) (fun M2 l8 l9 l10 l11 l12 hT2 hlow2 => ?_) (l10 := l10) (l11 := l11) (l12 := l12)
        refine st_iinc (L' := [_, _, _, _, _, _, _, _, _, _, _, _, _]) dX4_meeting_197 rfl (by decide) rfl rfl ?_
        refine st_goto (tgt := 57) dX4_meeting_200 rfl ?_
        exact AW.to (ih (t + 1) M2 (by omega) hT2 hlow2 (l8 := l8) (l9 := l9) (l10 := l10) (l11 := l11) (l12 := l12)) (h2 := by simp)
  have fin : ∀ (M1 : q_Mem), Exc [105] M M1 → (M1 105 0 = l0 ∧ (1 < n → M1 105 1 = l1) ∧ (2 < n → M1 105 2 = l2)) → AW0 G d m_X4_meeting 35 [some (.ref 103), some (I s), some (I st), some (I what), some (I n), some (I (s30 1 n : Nat)), some (I (s30 2 n : Nat)), none, none, none, none, none, none] [] M1 N (CV (fun x M' N' => N' = N ∧ Exc [104, 105] M M' ∧ ∃ r, x = I r ∧ MeetR M n l0 l1 l2 st what r)) := by
    intro M1 hE hmm
    have e3 := hE 3 (by decide)
    refine st_aload_n dX4_meeting_35 rfl ?_
    refine st_getfr dX4_meeting_36 f_X4_18 (by first | assumption | rfl) (by rfl) ?_
    refine st_aload_n dX4_meeting_39 rfl ?_
    refine st_getfr dX4_meeting_40 f_X4_18 (by first | assumption | rfl) (by rfl) ?_
    refine st_getfi dX4_meeting_43 f_X4_26 (by first | assumption | rfl) (by rfl) ?_
    refine st_iconst dX4_meeting_46 ?_
    refine st_aload_n dX4_meeting_47 rfl ?_
    refine st_getfr dX4_meeting_48 f_X4_9 (by first | assumption | rfl) (by rfl) ?_
    refine c_V3v (d' := d - 1) dX4_meeting_51 l_X4_32 k_X2_tell i_X2_tell (Or.inl ⟨_, _, _, _, _, (by first | assumption | rfl), by rfl⟩) (by omega) (Nat.le_of_ble_eq_true rfl) (C_tellV hH (by omega) (hM.exc hE (by decide) (by decide) (by decide) (by decide)) sh_104 (by decide) (by decide) (by rw [e3]; omega) (by omega)) (fun M2 N2 hx => ?_)
    obtain ⟨hN2, hE2, hv2, -⟩ := hx
    rw [hN2]
    rw [toldV_congr e3 (hE 7 (by decide)), e3] at hv2
    have e105 := hE2 105 (by decide)
    refine st_iconst dX4_meeting_54 ?_
    refine st_istore (L' := [_, _, _, _, _, _, _, _, _, _, _, _, _]) dX4_meeting_55 (by decide) rfl rfl ?_
    exact AW.to (outer 92 0 M2 (by omega) ⟨(hE.sub (by decide)).tr (hE2.sub (by decide)), ⟨by rw [e105]; exact hmm.1, fun z => by rw [e105]; exact hmm.2.1 z, fun z => by rw [e105]; exact hmm.2.2 z⟩, fun q hq _ _ _ => hv2 q hq⟩ (fun a' b' c' x1 x2 x3 x4 => by omega) (l8 := none) (l9 := none) (l10 := none) (l11 := none) (l12 := none))
  have hmm : M1 105 0 = l0 ∧ (1 < n → M1 105 1 = l1) ∧ (2 < n → M1 105 2 = l2) := ⟨hm0, hm1, hm2⟩
  refine st_istore (L' := [_, _, _, _, _, _, _, _, _, _, _, _, _]) dX4_meeting_5 (by decide) rfl rfl ?_
  refine st_iload dX4_meeting_7 rfl ?_
  refine st_iconst dX4_meeting_9 ?_
  refine st_icmp_le (tgt := 18) dX4_meeting_10 (by omega) (by omega) rfl (fun h1 => ?_) (fun h1 => ?_)
  · skip
    have q1 : s30 1 n = 0 := if_neg (by omega)
    have q2 : s30 2 n = 0 := if_neg (by omega)
    refine st_iconst dX4_meeting_18 ?_
    refine st_istore (L' := [_, _, _, _, _, _, _, _, _, _, _, _, _]) dX4_meeting_19 (by decide) rfl rfl ?_
    refine st_iload dX4_meeting_21 rfl ?_
    refine st_iconst dX4_meeting_23 ?_
    refine st_icmp_le (tgt := 32) dX4_meeting_24 (by omega) (by omega) rfl (fun h2 => ?_) (fun h2 => ?_)
    · refine st_iconst dX4_meeting_32 ?_
      refine st_istore (L' := [_, _, _, _, _, _, _, _, _, _, _, _, _]) dX4_meeting_33 (by decide) rfl rfl ?_
      exact AW.to (fin M1 hE hmm) (h2 := by rw [q1, q2]; rfl)
    · skip
      omega
  · refine st_bipush dX4_meeting_13 (by decide) ?_
    refine st_goto (tgt := 19) dX4_meeting_15 rfl ?_
    have q1 : s30 1 n = 30 := if_pos (by omega)
    refine st_istore (L' := [_, _, _, _, _, _, _, _, _, _, _, _, _]) dX4_meeting_19 (by decide) rfl rfl ?_
    refine st_iload dX4_meeting_21 rfl ?_
    refine st_iconst dX4_meeting_23 ?_
    refine st_icmp_le (tgt := 32) dX4_meeting_24 (by omega) (by omega) rfl (fun h2 => ?_) (fun h2 => ?_)
    · refine st_iconst dX4_meeting_32 ?_
      refine st_istore (L' := [_, _, _, _, _, _, _, _, _, _, _, _, _]) dX4_meeting_33 (by decide) rfl rfl ?_
      have q2 : s30 2 n = 0 := if_neg (by omega)
      exact AW.to (fin M1 hE hmm) (h2 := by rw [q1, q2]; rfl)
    · refine st_bipush dX4_meeting_27 (by decide) ?_
      refine st_goto (tgt := 33) dX4_meeting_29 rfl ?_
      refine st_istore (L' := [_, _, _, _, _, _, _, _, _, _, _, _, _]) dX4_meeting_33 (by decide) rfl rfl ?_
      have q2 : s30 2 n = 30 := if_pos (by omega)
      exact AW.to (fin M1 hE hmm) (h2 := by rw [q1, q2]; rfl)


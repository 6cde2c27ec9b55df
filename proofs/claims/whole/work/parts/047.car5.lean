/-! the system's Carrier: the search; the question to carry -/
def bfI (nx : Nat → Int) (goal : Int → Prop) [hg : DecidablePred goal] (b : Int) (fr : Nat → Int) : Nat → Nat → caT → Option (Int × Int) × caT
  | 0, _, L => (none, L)
  | m + 1, who, L => if goal (nx who) then (some (b + 1, fr who), L) else if inL L (nx who) then bfI nx goal b fr m (who + 1) L else if 600 ≤ L.length then (some (-4, -4), L) else bfI nx goal b fr m (who + 1) (L ++ [(nx who, b + 1, fr who)])
def frF (k : Nat) (f : Int) (who : Nat) : Int := if k = 0 then who else f
def bfO (M : q_Mem) (goal : Int → Prop) [hg : DecidablePred goal] : Nat → Nat → caT → Int × Int
  | 0, _, _ => (-3, -3)
  | m + 1, k, L => if k < L.length then
      match (bfI (fun who => nxt M 3 (cg L k).1 (setV who)) goal (cg L k).2.1 (frF k (cg L k).2.2) (2 ^ (M 3 4).toNat) 0 L) with
      | (some r, _) => r
      | (none, L') => bfO M goal m (k + 1) L'
    else (-3, -3)
/-- what comes behind the ways of one situation -/
def bfM (M : q_Mem) (goal : Int → Prop) [hg : DecidablePred goal] (m k : Nat) (p : Option (Int × Int) × caT) : Int × Int := match p with
  | (some r, _) => r
  | (none, L') => bfO M goal m (k + 1) L'
theorem C_answer {G : q_G} {d : Nat} {M : q_Mem} {N : q_MemL} {a f : Int} : AC0 G d m_X0_answer [.ref 94, I a, I f] M N (CV (fun x M' N' => x = I a ∧ N' = N ∧ M' = q_up M 94 10 f)) := by
  refine AC.of (L0 := [_, _, _]) pn_X0 (Nat.le_of_ble_eq_true rfl) rfl ?_
  refine st_aload_n dX0_answer_0 rfl ?_
  refine st_iload_n dX0_answer_1 rfl ?_
  refine st_putfi dX0_answer_2 w_X0_77 (by first | with_reducible assumption | rfl) (by rfl) rfl rfl ?_
  refine st_iload_n dX0_answer_5 rfl ?_
  exact r_i dX0_answer_6 rfl ⟨rfl, rfl, rfl⟩
abbrev caX : List Nat := [94, 95, 96, 97, 98, 99, 100, 101, 102]
def CarP (M : q_Mem) (N : q_MemL) (R : Int × Int) : Value → q_Mem → q_MemL → Prop := fun x M' N' => N' = N ∧ Exc caX M M' ∧ x = I R.1 ∧ M' 94 10 = R.2
theorem CarP.an {M M1 M' : q_Mem} {N N' : q_MemL} {a f : Int} {x : Value} (hE : Exc caX M M1) (h : x = I a ∧ N' = N ∧ M' = q_up M1 94 10 f) : CarP M N (a, f) x M' N' := ⟨h.2.1, h.2.2 ▸ hE.tr (Exc.up (by decide)), h.1, by rw [h.2.2]; simp [q_up]⟩
theorem hC_nil {M : q_Mem} (h : M 94 5 = 0) (h2 : ∀ j, j < 2048 → M 98 j = 0) : hC M [] := by
  refine ⟨h, by decide, fun j hj => absurd hj (by simp), fun j hj => by rw [h2 j hj]; simp, ?_, fun i hi => absurd hi (by simp), fun i hi => absurd hi (by simp)⟩
  exact hsum_0 (fun q hq => by simp [h2 q hq])
abbrev goalC (t : Nat) (s : Int) (w : Int) : Prop := g8 w (7 + t) = s
def A_search (M : q_Mem) (t : Nat) (s : Int) : Int × Int := if g8 (M 3 12) (7 + t) = s then (0, -2) else bfO M (goalC t s) 600 0 [(M 3 12, 0, 0)]
theorem C_search {G : q_G} {d : Nat} {M : q_Mem} {N : q_MemL} {t : Nat} {s : Int} (hd : 5 ≤ d) (hM : Hrg M 3) (h12 : 0 ≤ M 3 12 ∧ M 3 12 < 1073741824) (ht : t < 3) (hs : i32 s) : AC0 G d m_X0_search [.ref 94, I t, I s] M N (CV (CarP M N (A_search M t s))) := by
  unfold i32 at hs
  obtain ⟨h2, h3, h4, h5, h6, h13, hb, hwt, hv⟩ := id hM
  have hpw : pw (M 3 4).toNat = ((2 ^ (M 3 4).toNat : Nat) : Int) := rfl
  have hP7 : 2 ^ (M 3 4).toNat ≤ 2 ^ 7 := Nat.pow_le_pow_right (by omega) (by omega)
  have h128 : (2 : Nat) ^ 7 = 128 := rfl
  have hg := g8_lt (M 3 12) (7 + t)
  -- the ways of one situation
  have inn : ∀ (m k : Nat) (b f : Int) (w : Int), k < 600 → (∀ (M2 : q_Mem) (L2 : caT) (l5 l6 l7 : Option Value), hC M2 L2 → Exc caX M M2 → AW0 G d m_X0_search 202 [some (.ref 94), some (I t), some (I s), some (I (7 + t : Nat)), some (I k), l5, l6, l7] [] M2 N (CV (CarP M N (bfO M (goalC t s) m (k + 1) L2)))) →
      ∀ (q who : Nat) (L : caT) (M1 : q_Mem) (l6 l7 : Option Value), who + q = 2 ^ (M 3 4).toNat → hC M1 L → k < L.length → cg L k = (w, b, f) → Exc caX M M1 → (∀ j, j < 2 ^ (M 3 4).toNat → M1 102 j = nxt M 3 w (setV j)) →
      AW0 G d m_X0_search 91 [some (.ref 94), some (I t), some (I s), some (I (7 + t : Nat)), some (I k), some (I who), l6, l7] [] M1 N (CV (CarP M N (bfM M (goalC t s) m k (bfI (fun j => nxt M 3 w (setV j)) (goalC t s) b (frF k f) q who L)))) := by
    intro m k b f w hk kk q
    induction q with
    | zero =>
      intro who L M1 l6 l7 hq hL hkl hcg hE h102
      have e3 := hE 3 (by decide)
      refine st_iload dX0_search_91 rfl ?_
      refine st_iconst dX0_search_93 ?_
      refine st_aload_n dX0_search_94 rfl ?_
      refine st_getfr dX0_search_95 f_X0_36 (by first | with_reducible assumption | rfl) (by rfl) ?_
      refine st_getfi dX0_search_98 f_X0_74 (by first | with_reducible assumption | rfl) (by rfl) ?_
      rw [e3, show M 3 4 = (((M 3 4).toNat : Nat) : Int) by omega]
      refine st_ishl dX0_search_101 ?_
      refine AW.top (z_pw (by omega)) ?_
      rw [hpw]
      refine st_icmp_ge (tgt := 202) dX0_search_102 (by omega) (by omega) rfl (fun h => ?_) (fun h => ?_)
      · skip
        exact AW.to (kk M1 L _ _ _ hL hE)
      · skip
        omega
    | succ q ih =>
      intro who L M1 l6 l7 hq hL hkl hcg hE h102
      have e3 := hE 3 (by decide)
      obtain ⟨a1, a2, a3, -⟩ := id hL
      have hnr := nxt_rng (M := M) (a := 3) (w := w) (v := setV who) h3
      have hgn := g8_lt (nxt M 3 w (setV who)) (7 + t)
      have hk3 := a3 k hkl
      rw [hcg] at hk3
      refine st_iload dX0_search_91 rfl ?_
      refine st_iconst dX0_search_93 ?_
      refine st_aload_n dX0_search_94 rfl ?_
      refine st_getfr dX0_search_95 f_X0_36 (by first | with_reducible assumption | rfl) (by rfl) ?_
      refine st_getfi dX0_search_98 f_X0_74 (by first | with_reducible assumption | rfl) (by rfl) ?_
      rw [e3, show M 3 4 = (((M 3 4).toNat : Nat) : Int) by omega]
      refine st_ishl dX0_search_101 ?_
      refine AW.top (z_pw (by omega)) ?_
      rw [hpw]
      refine st_icmp_ge (tgt := 202) dX0_search_102 (by omega) (by omega) rfl (fun h => ?_) (fun h => ?_)
      · skip
        omega
      · refine st_aload_n dX0_search_105 rfl ?_
        refine st_getfr dX0_search_106 f_X0_33 (by first | with_reducible assumption | rfl) (by rfl) ?_
        refine st_iload dX0_search_109 rfl ?_
        refine c_S2p (d' := d - 1) dX0_search_111 l_X0_66 k_X10_cell s_X10_cell (by omega) (Nat.le_of_ble_eq_true rfl) (C_cellI sh_102 (by decide) (by omega)) ?_
        rw [Int.toNat_natCast, h102 who (by omega)]
        -- behind the choice of the first
        have tl : AW0 G d m_X0_search 135 [some (.ref 94), some (I t), some (I s), some (I (7 + t : Nat)), some (I k), some (I who), some (I (nxt M 3 w (setV who))), l7] [I (frF k f who)] M1 N (CV (CarP M N (bfM M (goalC t s) m k (bfI (fun j => nxt M 3 w (setV j)) (goalC t s) b (frF k f) (q + 1) who L)))) := by
          refine st_istore (L' := [_, _, _, _, _, _, _, _]) dX0_search_135 (by decide) rfl rfl ?_
          refine st_iload dX0_search_137 rfl ?_
          refine st_iload_n dX0_search_139 rfl ?_
          refine c_S2p (d' := d - 1) dX0_search_140 l_X0_46 k_X10_storeyIn s_X10_storeyIn (by omega) (Nat.le_of_ble_eq_true rfl) (C_storeyIn (by omega) (by omega)) ?_
          refine st_iload_n dX0_search_143 rfl ?_
          refine st_icmp_ne (tgt := 165) dX0_search_144 (by omega) (by omega) rfl (fun h2 => ?_) (fun h2 => ?_)
          · refine st_aload_n dX0_search_165 rfl ?_
            refine st_iload dX0_search_166 rfl ?_
            refine st_aload_n dX0_search_168 rfl ?_
            refine st_getfr dX0_search_169 f_X0_15 (by first | with_reducible assumption | rfl) (by rfl) ?_
            refine st_iload dX0_search_172 rfl ?_
            refine c_S2p (d' := d - 1) dX0_search_174 l_X0_66 k_X10_cell s_X10_cell (by omega) (Nat.le_of_ble_eq_true rfl) (C_cellI sh_96 (by decide) (by omega)) ?_
            rw [Int.toNat_natCast, hk3.2.1]
            refine st_iconst dX0_search_177 ?_
            refine st_iadd dX0_search_178 ?_
            refine st_iload dX0_search_179 rfl ?_
            refine c_V3i (d' := d - 1) dX0_search_181 l_X0_62 k_X0_keep i_X0_keep (Or.inl ⟨_, _, _, _, _, (by first | with_reducible assumption | rfl), by rfl⟩) (by omega) (Nat.le_of_ble_eq_true rfl) (C_keep (L := L) (by omega) hL hnr) (fun x M2 N2 hx => ?_)
            obtain ⟨q2, hx⟩ := hx
            rw [q2]
            have stp : ∀ (L2 : caT) (M3 : q_Mem), hC M3 L2 → k < L2.length → cg L2 k = (w, b, f) → Exc caK M1 M3 → AW0 G d m_X0_search 196 [some (.ref 94), some (I t), some (I s), some (I (7 + t : Nat)), some (I k), some (I who), some (I (nxt M 3 w (setV who))), some (I (frF k f who))] [] M3 N (CV (CarP M N (bfM M (goalC t s) m k (bfI (fun j => nxt M 3 w (setV j)) (goalC t s) b (frF k f) q (who + 1) L2)))) := by
              intro L2 M3 g1 g2 g3 g4
              refine st_iinc (L' := [_, _, _, _, _, _, _, _]) dX0_search_196 rfl (by decide) rfl rfl ?_
              refine st_goto (tgt := 91) dX0_search_199 rfl ?_
              exact AW.to (ih (who + 1) L2 M3 (some (I (nxt M 3 w (setV who)))) (some (I (frF k f who))) (by omega) g1 g2 g3 (hE.tr (g4.sub (by decide))) (fun j hj => by rw [g4 102 (by decide)]; exact h102 j hj)) (h2 := by simp)
            unfold bfI
            rw [if_neg h2]
            rcases hx with ⟨hi, rfl, rfl⟩ | ⟨hi, hl, rfl, rfl⟩ | ⟨hi, hl, rfl, hE2, hL2⟩
            · rw [if_pos hi]
              refine st_if_ne (tgt := 196) dX0_search_184 (by omega) rfl (fun h3 => ?_) (fun h3 => ?_)
              · skip
                exact stp L M2 hL hkl hcg Exc.rf
              · skip
                omega
            · rw [if_neg hi, if_pos hl]
              refine st_if_ne (tgt := 196) dX0_search_184 (by omega) rfl (fun h3 => ?_) (fun h3 => ?_)
              · skip
                omega
              · refine st_aload_n dX0_search_187 rfl ?_
                refine st_bipush dX0_search_188 (by decide) ?_
                refine st_bipush dX0_search_190 (by decide) ?_
                refine c_V2i (d' := d - 1) dX0_search_192 l_X0_50 k_X0_answer i_X0_answer (Or.inl ⟨_, _, _, _, _, (by first | with_reducible assumption | rfl), by rfl⟩) (by omega) (Nat.le_of_ble_eq_true rfl) (C_answer) (fun x M3 N3 hx => ?_)
                rw [hx.1, hx.2.1]
                refine r_i dX0_search_195 rfl (CarP.an hE ⟨rfl, rfl, hx.2.2⟩)
            · rw [if_neg hi, if_neg (by omega)]
              refine st_if_ne (tgt := 196) dX0_search_184 (by omega) rfl (fun h3 => ?_) (fun h3 => ?_)
              · skip
                refine stp _ M2 hL2 (by simp; omega) (by rw [cg_lt hkl]; exact hcg) hE2
              · skip
                omega
          · refine st_aload_n dX0_search_147 rfl ?_
            refine st_aload_n dX0_search_148 rfl ?_
            refine st_getfr dX0_search_149 f_X0_15 (by first | with_reducible assumption | rfl) (by rfl) ?_
            refine st_iload dX0_search_152 rfl ?_
            refine c_S2p (d' := d - 1) dX0_search_154 l_X0_66 k_X10_cell s_X10_cell (by omega) (Nat.le_of_ble_eq_true rfl) (C_cellI sh_96 (by decide) (by omega)) ?_
            rw [Int.toNat_natCast, hk3.2.1]
            refine st_iconst dX0_search_157 ?_
            refine st_iadd dX0_search_158 ?_
            refine st_iload dX0_search_159 rfl ?_
            unfold bfI
            rw [if_pos h2]
            refine c_V2i (d' := d - 1) dX0_search_161 l_X0_50 k_X0_answer i_X0_answer (Or.inl ⟨_, _, _, _, _, (by first | with_reducible assumption | rfl), by rfl⟩) (by omega) (Nat.le_of_ble_eq_true rfl) (C_answer) (fun x M3 N3 hx => ?_)
            rw [hx.1, hx.2.1]
            refine r_i dX0_search_164 rfl (CarP.an hE ⟨rfl, rfl, hx.2.2⟩)
        refine st_istore (L' := [_, _, _, _, _, _, _, _]) dX0_search_114 (by decide) rfl rfl ?_
        refine st_iload dX0_search_116 rfl ?_
        refine st_if_ne (tgt := 126) dX0_search_118 (by omega) rfl (fun h3 => ?_) (fun h3 => ?_)
        · refine st_aload_n dX0_search_126 rfl ?_
          refine st_getfr dX0_search_127 f_X0_18 (by first | with_reducible assumption | rfl) (by rfl) ?_
          refine st_iload dX0_search_130 rfl ?_
          refine c_S2p (d' := d - 1) dX0_search_132 l_X0_66 k_X10_cell s_X10_cell (by omega) (Nat.le_of_ble_eq_true rfl) (C_cellI sh_97 (by decide) (by omega)) ?_
          rw [Int.toNat_natCast, hk3.2.2]
          exact AW.to tl (h3 := by rw [show frF k f who = f from if_neg (by omega)])
        · refine st_iload dX0_search_121 rfl ?_
          refine st_goto (tgt := 135) dX0_search_123 rfl ?_
          exact AW.to tl (h3 := by rw [show frF k f who = who from if_pos (by omega)])
  have outl : ∀ (m k : Nat) (L : caT) (M1 : q_Mem) (l5 l6 l7 : Option Value), k + m = 600 → hC M1 L → Exc caX M M1 → AW0 G d m_X0_search 58 [some (.ref 94), some (I t), some (I s), some (I (7 + t : Nat)), some (I k), l5, l6, l7] [] M1 N (CV (CarP M N (bfO M (goalC t s) m k L))) := by
    intro m
    have fin : ∀ (k : Nat) (M1 : q_Mem) (l5 l6 l7 : Option Value), Exc caX M M1 → AW0 G d m_X0_search 208 [some (.ref 94), some (I t), some (I s), some (I (7 + t : Nat)), some (I k), l5, l6, l7] [] M1 N (CV (CarP M N (-3, -3))) := by
      intro k M1 l5 l6 l7 hE
      refine st_aload_n dX0_search_208 rfl ?_
      refine st_bipush dX0_search_209 (by decide) ?_
      refine st_bipush dX0_search_211 (by decide) ?_
      refine c_V2i (d' := d - 1) dX0_search_213 l_X0_50 k_X0_answer i_X0_answer (Or.inl ⟨_, _, _, _, _, (by first | with_reducible assumption | rfl), by rfl⟩) (by omega) (Nat.le_of_ble_eq_true rfl) (C_answer) (fun x M3 N3 hx => ?_)
      rw [hx.1, hx.2.1]
      refine r_i dX0_search_216 rfl (CarP.an hE ⟨rfl, rfl, hx.2.2⟩)
    induction m with
    | zero =>
      intro k L M1 l5 l6 l7 hk hL hE
      obtain ⟨a1, a2, -⟩ := id hL
      refine st_iload dX0_search_58 rfl ?_
      refine st_aload_n dX0_search_60 rfl ?_
      refine st_getfi dX0_search_61 f_X0_59 (by first | with_reducible assumption | rfl) (by rfl) ?_
      rw [a1]
      refine st_icmp_ge (tgt := 208) dX0_search_64 (by omega) (by omega) rfl (fun h => ?_) (fun h => ?_)
      · skip
        exact fin k M1 _ _ _ hE
      · skip
        omega
    | succ m ih =>
      intro k L M1 l5 l6 l7 hk hL hE
      obtain ⟨a1, a2, a3, a4, a5, a6, a7⟩ := id hL
      unfold bfO
      refine st_iload dX0_search_58 rfl ?_
      refine st_aload_n dX0_search_60 rfl ?_
      refine st_getfi dX0_search_61 f_X0_59 (by first | with_reducible assumption | rfl) (by rfl) ?_
      rw [a1]
      refine st_icmp_ge (tgt := 208) dX0_search_64 (by omega) (by omega) rfl (fun h => ?_) (fun h => ?_)
      · skip
        rw [if_neg (by omega)]
        exact fin k M1 _ _ _ hE
      · refine st_iload dX0_search_67 rfl ?_
        refine st_sipush dX0_search_69 (by decide) ?_
        refine st_icmp_ge (tgt := 208) dX0_search_72 (by omega) (by omega) rfl (fun h2 => ?_) (fun h2 => ?_)
        · skip
          omega
        · refine st_aload_n dX0_search_75 rfl ?_
          refine st_aload_n dX0_search_76 rfl ?_
          refine st_getfr dX0_search_77 f_X0_11 (by first | with_reducible assumption | rfl) (by rfl) ?_
          refine st_iload dX0_search_80 rfl ?_
          have hkl : k < L.length := by omega
          refine c_S2p (d' := d - 1) dX0_search_82 l_X0_66 k_X10_cell s_X10_cell (by omega) (Nat.le_of_ble_eq_true rfl) (C_cellI sh_95 (by decide) (by omega)) ?_
          rw [Int.toNat_natCast, (a3 k hkl).1]
          refine c_V1v (d' := d - 1) dX0_search_85 l_X0_70 k_X0_lookOn i_X0_lookOn (Or.inl ⟨_, _, _, _, _, (by first | with_reducible assumption | rfl), by rfl⟩) (by omega) (Nat.le_of_ble_eq_true rfl) (C_lookOn (by omega) (hM.exc hE (by decide) (by decide) (by decide) (by decide)) (a7 k hkl)) (fun M2 N2 hx => ?_)
          obtain ⟨q2, hE2, h102⟩ := hx
          rw [q2, if_pos hkl]
          have e3 := hE 3 (by decide)
          have e4 := hE 4 (by decide)
          have e6 := hE 6 (by decide)
          rw [e3] at h102
          refine st_iconst dX0_search_88 ?_
          refine st_istore (L' := [_, _, _, _, _, _, _, _]) dX0_search_89 (by decide) rfl rfl ?_
          exact AW.to (inn m k (cg L k).2.1 (cg L k).2.2 (cg L k).1 (by omega) (fun M3 L3 x5 x6 x7 g1 g2 => by
            refine st_iinc (L' := [_, _, _, _, _, _, _, _]) dX0_search_202 rfl (by decide) rfl rfl ?_
            refine st_goto (tgt := 58) dX0_search_205 rfl ?_
            exact AW.to (ih (k + 1) L3 M3 x5 x6 x7 (by omega) g1 g2) (h2 := by simp)) (2 ^ (M 3 4).toNat) 0 L M2 l6 l7 (by omega) (hL.exc hE2 (by rw [hE2 94 (by decide)]) (by decide) (by decide) (by decide) (by decide)) hkl rfl (hE.tr (hE2.sub (by decide))) (fun j hj => by rw [h102 j hj]; exact (nxt_congr e3 e4 e6 (fun _ _ => rfl)).symm))
  refine AC.of (L0 := [_, _, _, none, none, none, none, none]) pn_X0 (Nat.le_of_ble_eq_true rfl) rfl ?_
  refine st_bipush dX0_search_0 (by decide) ?_
  refine st_iload_n dX0_search_2 rfl ?_
  refine st_iadd dX0_search_3 ?_
  rw [show (7 : Int) + (t : Int) = ((7 + t : Nat) : Int) by omega]
  refine st_istore_n (L' := [_, _, _, _, _, _, _, _]) dX0_search_4 (by decide) rfl rfl ?_
  refine st_aload_n dX0_search_5 rfl ?_
  refine st_getfr dX0_search_6 f_X0_36 (by first | with_reducible assumption | rfl) (by rfl) ?_
  refine st_getfi dX0_search_9 f_X0_40 (by first | with_reducible assumption | rfl) (by rfl) ?_
  refine st_iload_n dX0_search_12 rfl ?_
  refine c_S2p (d' := d - 1) dX0_search_13 l_X0_46 k_X10_storeyIn s_X10_storeyIn (by omega) (Nat.le_of_ble_eq_true rfl) (C_storeyIn (by omega) (by omega)) ?_
  refine st_iload_n dX0_search_16 rfl ?_
  unfold A_search
  refine st_icmp_ne (tgt := 28) dX0_search_17 (by omega) (by omega) rfl (fun h => ?_) (fun h => ?_)
  · skip
    rw [if_neg h]
    refine st_aload_n dX0_search_28 rfl ?_
    refine st_getfr dX0_search_29 f_X0_21 (by first | with_reducible assumption | rfl) (by rfl) ?_
    refine st_iconst dX0_search_32 ?_
    refine c_S2v (d' := d - 1) dX0_search_33 l_X0_53 k_J7_fill_53178 s_J7_fill_53178 (by omega) (Nat.le_of_ble_eq_true rfl) (C_fill sh_98 (by decide)) (fun M1 N1 hx => ?_)
    obtain ⟨q1, r1⟩ := hx
    rw [q1]
    have hE1 : Exc caX M M1 := by
      intro a ha
      simp only [List.mem_cons, List.not_mem_nil, or_false, not_or] at ha
      rw [r1]
      funext j
      simp [ha]
    have e3 := hE1 3 (by decide)
    refine st_aload_n dX0_search_36 rfl ?_
    refine st_iconst dX0_search_37 ?_
    refine st_putfi dX0_search_38 w_X0_59 (by first | with_reducible assumption | rfl) (by rfl) rfl rfl ?_
    refine st_aload_n dX0_search_41 rfl ?_
    refine st_aload_n dX0_search_42 rfl ?_
    refine st_getfr dX0_search_43 f_X0_36 (by first | with_reducible assumption | rfl) (by rfl) ?_
    refine st_getfi dX0_search_46 f_X0_40 (by first | with_reducible assumption | rfl) (by rfl) ?_
    refine st_iconst dX0_search_49 ?_
    refine st_iconst dX0_search_50 ?_
    have e3b : q_up M1 94 5 0 3 = M 3 := by rw [q_up_ne (by decide)]; exact e3
    rw [e3b]
    refine c_V3i (d' := d - 1) dX0_search_51 l_X0_62 k_X0_keep i_X0_keep (Or.inl ⟨_, _, _, _, _, (by first | with_reducible assumption | rfl), by rfl⟩) (by omega) (Nat.le_of_ble_eq_true rfl) (C_keep (L := []) (by omega) (hC_nil (by simp [q_up]) (fun j hj => by rw [q_up_ne (by decide), r1]; simp [hj])) h12) (fun x M2 N2 hx => ?_)
    obtain ⟨q2, hx⟩ := hx
    rw [q2]
    rcases hx with ⟨hi, -, -⟩ | ⟨-, hl, -, -⟩ | ⟨-, -, rfl, hE2, hL2⟩
    · obtain ⟨i, hi, -⟩ := hi
      exact absurd hi (by simp)
    · exact absurd hl (by decide)
    · refine st_pop dX0_search_54 rfl ?_
      refine st_iconst dX0_search_55 ?_
      refine st_istore (L' := [_, _, _, _, _, _, _, _]) dX0_search_56 (by decide) rfl rfl ?_
      exact AW.to (outl 600 0 [(M 3 12, 0, 0)] M2 none none none (by omega) hL2 ((hE1.tr (Exc.up (by decide))).tr (hE2.sub (by decide))))
  · refine st_aload_n dX0_search_20 rfl ?_
    refine st_iconst dX0_search_21 ?_
    refine st_bipush dX0_search_22 (by decide) ?_
    rw [if_pos h]
    refine c_V2i (d' := d - 1) dX0_search_24 l_X0_50 k_X0_answer i_X0_answer (Or.inl ⟨_, _, _, _, _, (by first | with_reducible assumption | rfl), by rfl⟩) (by omega) (Nat.le_of_ble_eq_true rfl) (C_answer) (fun x M3 N3 hx => ?_)
    rw [hx.1, hx.2.1]
    refine r_i dX0_search_27 rfl (CarP.an Exc.rf ⟨rfl, rfl, hx.2.2⟩)
def A_carry (M : q_Mem) (t s what : Int) : Int := if (0 ≤ t ∧ t < M 3 5) ∧ (0 ≤ s ∧ s < M 3 3) ∧ 0 ≤ what ∧ what ≤ 1 then (if what = 0 then (A_search M t.toNat s).1 else (A_search M t.toNat s).2) else -1
theorem C_carry {G : q_G} {d : Nat} {M : q_Mem} {N : q_MemL} {t s what : Int} (hd : 6 ≤ d) (hM : NowOk M) (ht : i32 t) (hs : i32 s) (hw : i32 what) : AC0 G d m_X10_carry [.ref 0, I t, I s, I what] M N (CV (fun v M' N' => v = I (A_carry M t s what) ∧ N' = N ∧ Exc caX M M')) := by
  have hr := Hok.rg hM
  have hH : isHome 3 := Or.inl rfl
  obtain ⟨h0, h1, h2, h3, h4, h5, h6, h11, h12, -⟩ := id hM
  have htt := ht
  have hss := hs
  unfold i32 at htt hss hw
  have no : AW0 G d m_X10_carry 31 [some (.ref 0), some (I t), some (I s), some (I what), none] [] M N (CV (fun v M' N' => v = I (-1) ∧ N' = N ∧ Exc caX M M')) := by
    refine st_iconst dX10_carry_31 ?_
    exact r_i dX10_carry_32 rfl ⟨rfl, rfl, Exc.rf⟩
  have non : ¬ ((0 ≤ t ∧ t < M 3 5) ∧ (0 ≤ s ∧ s < M 3 3) ∧ 0 ≤ what ∧ what ≤ 1) → AW0 G d m_X10_carry 31 [some (.ref 0), some (I t), some (I s), some (I what), none] [] M N (CV (fun v M' N' => v = I (A_carry M t s what) ∧ N' = N ∧ Exc caX M M')) := by
    intro h
    unfold A_carry
    rw [if_neg h]
    exact no
  refine AC.of (L0 := [_, _, _, _, none]) pn_X10 (Nat.le_of_ble_eq_true rfl) rfl ?_
  refine st_aload_n dX10_carry_0 rfl ?_
  refine st_getfr dX10_carry_1 f_X10_19 (by first | with_reducible assumption | rfl) (by rfl) ?_
  refine st_iload_n dX10_carry_4 rfl ?_
  refine c_V1p (d' := d - 1) dX10_carry_5 l_X10_179 k_X2_hasThing i_X2_hasThing (Or.inl ⟨_, _, _, _, _, (by first | with_reducible assumption | rfl), by rfl⟩) (by omega) (Nat.le_of_ble_eq_true rfl) (C_hasThing hH (by omega) htt) ?_
  refine b_eq (tgt := 31) dX10_carry_8 rfl (fun h7 => ?_) (fun h7 => ?_)
  · skip
    exact non (fun z => h7 z.1)
  · refine st_aload_n dX10_carry_11 rfl ?_
    refine st_getfr dX10_carry_12 f_X10_19 (by first | with_reducible assumption | rfl) (by rfl) ?_
    refine st_iload_n dX10_carry_15 rfl ?_
    refine c_V1p (d' := d - 1) dX10_carry_16 l_X10_199 k_X2_hasStorey i_X2_hasStorey (Or.inl ⟨_, _, _, _, _, (by first | with_reducible assumption | rfl), by rfl⟩) (by omega) (Nat.le_of_ble_eq_true rfl) (C_hasStorey hH (by omega) hss) ?_
    refine b_eq (tgt := 31) dX10_carry_19 rfl (fun h8 => ?_) (fun h8 => ?_)
    · skip
      exact non (fun z => h8 z.2.1)
    · refine st_iload_n dX10_carry_22 rfl ?_
      refine st_if_lt (tgt := 31) dX10_carry_23 (by omega) rfl (fun h9 => ?_) (fun h9 => ?_)
      · skip
        exact non (fun z => by omega)
      · refine st_iload_n dX10_carry_26 rfl ?_
        refine st_iconst dX10_carry_27 ?_
        refine st_icmp_le (tgt := 33) dX10_carry_28 (by omega) (by omega) rfl (fun h10 => ?_) (fun h10 => ?_)
        · refine st_aload_n dX10_carry_33 rfl ?_
          refine st_getfr dX10_carry_34 f_X10_74 (by first | with_reducible assumption | rfl) (by rfl) ?_
          refine st_iload_n dX10_carry_37 rfl ?_
          refine st_iload_n dX10_carry_38 rfl ?_
          rw [show t = ((t.toNat : Nat) : Int) by omega]
          refine c_V2i (d' := d - 1) dX10_carry_39 l_X10_260 k_X0_search i_X0_search (Or.inl ⟨_, _, _, _, _, (by first | with_reducible assumption | rfl), by rfl⟩) (by omega) (Nat.le_of_ble_eq_true rfl) (C_search (by omega) hr h12 (by omega) hs) (fun x M1 N1 hx => ?_)
          obtain ⟨q1, hE, rfl, hf⟩ := hx
          rw [q1]
          unfold A_carry
          rw [if_pos ⟨by omega, h8, by omega, by omega⟩, Int.toNat_natCast]
          refine st_istore (L' := [_, _, _, _, _]) dX10_carry_42 (by decide) rfl rfl ?_
          refine st_iload_n dX10_carry_44 rfl ?_
          refine st_if_ne (tgt := 53) dX10_carry_45 (by omega) rfl (fun h11 => ?_) (fun h11 => ?_)
          · refine st_aload_n dX10_carry_53 rfl ?_
            refine st_getfr dX10_carry_54 f_X10_74 (by first | with_reducible assumption | rfl) (by rfl) ?_
            refine st_getfi dX10_carry_57 f_X10_263 (by first | with_reducible assumption | rfl) (by rfl) ?_
            rw [if_neg h11, hf]
            exact r_i dX10_carry_60 rfl ⟨rfl, rfl, hE⟩
          · refine st_iload dX10_carry_48 rfl ?_
            refine st_goto (tgt := 60) dX10_carry_50 rfl ?_
            rw [if_pos h11]
            exact r_i dX10_carry_60 rfl ⟨rfl, rfl, hE⟩
        · skip
          exact non (fun z => by omega)


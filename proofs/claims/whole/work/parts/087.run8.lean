/-! the reference's beat by a rule -/
theorem cmpL_neg {x y : Int64} : cmpL x y < 0 ↔ x.toInt < y.toInt := by
  unfold cmpL
  by_cases c : x > y
  · have := Int64.lt_iff_toInt_lt.1 c
    rw [if_pos c]; omega
  · have h1 : ¬ y.toInt < x.toInt := fun z => c (Int64.lt_iff_toInt_lt.2 z)
    rw [if_neg c]
    by_cases c2 : x = y
    · rw [if_pos c2, c2]; omega
    · have : ¬ x.toInt = y.toInt := fun z => c2 (Int64.toInt_inj.1 z)
      rw [if_neg c2]; omega
theorem cmpL_pos {x y : Int64} : 0 < cmpL x y ↔ y.toInt < x.toInt := by
  unfold cmpL
  by_cases c : x > y
  · have := Int64.lt_iff_toInt_lt.1 c
    rw [if_pos c]; omega
  · have h1 : ¬ y.toInt < x.toInt := fun z => c (Int64.lt_iff_toInt_lt.2 z)
    rw [if_neg c]
    split <;> omega
theorem cmpL_0 {x y : Int64} (h : cmpL x y = 0) : x = y := by
  unfold cmpL at h
  by_cases c1 : x > y
  · rw [if_pos c1] at h; omega
  · rw [if_neg c1] at h
    by_cases c2 : x = y
    · exact c2
    · rw [if_neg c2] at h; omega
theorem clampI_eq (x : Int64) : clampI x = if x.toInt < 0 then 0 else if 30 < x.toInt then 30 else x.toInt := by
  unfold clampI clampL
  have e0 : (0 : Int64).toInt = 0 := rfl
  have e30 : (30 : Int64).toInt = 30 := rfl
  by_cases c : x < 30
  · have c' := Int64.lt_iff_toInt_lt.1 c
    rw [if_pos c]
    by_cases c2 : x < 0
    · have c2' := Int64.lt_iff_toInt_lt.1 c2
      rw [if_pos c2, if_pos (by omega)]
      rfl
    · have : ¬ x.toInt < (0 : Int64).toInt := fun z => c2 (Int64.lt_iff_toInt_lt.2 z)
      rw [if_neg c2, if_neg (by omega), if_neg (by omega)]
  · have c' : ¬ x.toInt < (30 : Int64).toInt := fun z => c (Int64.lt_iff_toInt_lt.2 z)
    rw [if_neg c, if_neg (by decide), if_neg (by omega)]
    split
    · rfl
    · omega
theorem nowV_13 {B : q_Mem} {z : Int} : nowV (q_up B 3 13 z) 0 = nowV B 0 := by
  show toldV (q_up B 3 13 z) 3 (q_up B 3 13 z 3 11) 0 = toldV B 3 (B 3 11) 0
  unfold toldV
  rw [show q_up B 3 13 z 3 11 = B 3 11 by simp [q_up], show q_up B 3 13 z 3 2 = B 3 2 by simp [q_up], show q_up B 3 13 z (3 + 4) = B (3 + 4) from q_up_ne (by decide)]
def BeB (M M1 : q_Mem) : Prop := Exc [113, 115, 116, 120, 143, 144, 147] M M1 ∧ ∀ j, ¬ j = 6 → M1 113 j = M 113 j
theorem C_beatBy {G : q_G} {d : Nat} {R B M : q_Mem} {N : q_MemL} {r : Nat} (hd : 5 ≤ d) (hr : r < 6) (hC : RuC R (47 + 6 * r)) (hRu : RuR R M r) (hR : RN B M) (htl : B 3 0 = 1) (hb : B 3 11 + 1 ≤ 9999) : AC0 G d m_X11_beatBy [.ref 112, I r] M N (CN (fun M' N' => RN (ruM R (47 + 6 * r) B) M' ∧ BeB M M' ∧ ∀ a, ¬ a = 141 → ¬ a = 142 → N' a = N a)) := by
  have hB := hR.1
  obtain ⟨h0, h1, h2, h3, h4, h5, h6, h11, h12, h13, -⟩ := id hB
  have hnv := nowV_rng hB (B 3 11) 0
  have hC6 := hC.1
  -- the singing
  have two : ∀ (m q : Nat) (M1 : q_Mem) (N1 : q_MemL) (l3 l4 : Option Value), q + m = (B 3 4).toNat → RN (strM R (47 + 6 * r) B) M1 → Exc [115, 143, 147] M M1 → (∀ a, ¬ a = 141 → ¬ a = 142 → N1 a = N a) → (∀ j, j < q → M1 147 j = sngV R (47 + 6 * r) B j) → AW0 G d m_X11_beatBy 109 [some (.ref 112), some (I r), some (I q), l3, l4, none] [] M1 N1 (CN (fun M' N' => RN (ruM R (47 + 6 * r) B) M' ∧ BeB M M' ∧ ∀ a, ¬ a = 141 → ¬ a = 142 → N' a = N a)) := by
    intro m
    induction m with
    | zero =>
      intro q M1 N1 l3 l4 hq hR1 hE hN hs
      have t3 := hR1.2.1.1.2.2.2.1
      have f : ∀ j, ¬ j = 13 → strM R (47 + 6 * r) B 3 j = B 3 j := fun j hj => by unfold strM; simp [q_up, hj]
      rw [f 4 (by decide)] at t3
      refine st_iload_n dX11_beatBy_109 rfl ?_
      refine st_aload_n dX11_beatBy_110 rfl ?_
      refine st_getfr dX11_beatBy_111 f_X11_9 (by first | with_reducible assumption | rfl) (by rfl) ?_
      refine st_iconst dX11_beatBy_114 ?_
      refine st_ialdK (k' := 3) dX11_beatBy_115 (by first | with_reducible assumption | rfl) rfl (by omega) (hn := by first | decide | omega) ?_
      rw [t3]
      refine st_icmp_ge (tgt := 205) dX11_beatBy_116 (by omega) (by omega) rfl (fun c => ?_) (fun c => ?_)
      · refine st_aload_n dX11_beatBy_205 rfl ?_
        refine st_getfr dX11_beatBy_206 f_X11_119 (by first | with_reducible assumption | rfl) (by rfl) ?_
        refine st_aload_n dX11_beatBy_209 rfl ?_
        refine st_getfr dX11_beatBy_210 f_X11_107 (by first | with_reducible assumption | rfl) (by rfl) ?_
        refine c_S2v (d' := d - 1) dX11_beatBy_213 l_X11_353 k_X11_copies s_X11_copies (by omega) (Nat.le_of_ble_eq_true rfl) (C_copies sh_147 sh_143 (by decide) (by decide) (by decide)) (fun M2 N2 hx => ?_)
        obtain ⟨rfl, hM2⟩ := hx
        have hE2 : Exc [143] M1 M2 := by
          intro a ha
          rw [hM2]
          funext j
          simp at ha
          simp [q_cp, ha]
        have hv2 : ∀ j, j < (B 3 4).toNat → M2 143 j = sngV R (47 + 6 * r) B j := fun j hj => by
          rw [← hs j (by omega), hM2]
          have : j < 7 := by omega
          simp [q_cp, this]
        have hR2 : RN (strM R (47 + 6 * r) B) M2 := hR1.exc hE2 (by decide)
        refine st_aload_n dX11_beatBy_216 rfl ?_
        refine c_V0v (d' := d - 1) dX11_beatBy_217 l_X11_453 k_X11_beats i_X11_beats (Or.inl ⟨_, _, _, _, _, (by first | with_reducible assumption | rfl), by rfl⟩) (by omega) (Nat.le_of_ble_eq_true rfl) (C_rBeats (by omega) hR2.1 hR2.2 (fun j hj => by rw [f 4 (by decide)] at hj; rw [hv2 j hj]; exact sngV_rng hB j)) (fun M3 N3 hx => ?_)
        obtain ⟨rfl, hE3, hj3, -, -, hS3⟩ := hx
        rw [nxt_congr (v' := sngV R (47 + 6 * r) B) rfl rfl rfl (fun j hj => hv2 j (by rw [f 4 (by decide)] at hj; exact hj)), f 12 (by decide), f 11 (by decide)] at hS3
        have hEx : Exc [113, 115, 116, 120, 143, 144, 147] M M3 := ((hE.sub (by decide)).tr (hE2.sub (by decide))).tr (hE3.sub (by decide))
        have g : ∀ j, ¬ j = 11 → ¬ j = 12 → ruM R (47 + 6 * r) B 3 j = strM R (47 + 6 * r) B 3 j := fun j j1 j2 => by unfold ruM; simp [q_up, j1, j2]
        have gr : ∀ a, a ≠ 3 → ruM R (47 + 6 * r) B a = strM R (47 + 6 * r) B a := fun a ha => by unfold ruM; rw [q_up_ne ha, q_up_ne ha]
        have g12 : ruM R (47 + 6 * r) B 3 12 = nxt (strM R (47 + 6 * r) B) 3 (B 3 12) (sngV R (47 + 6 * r) B) := by unfold ruM; simp [q_up]
        refine r_v dX11_beatBy_220 rfl ⟨⟨hB.ru hb, ?_, ?_, ?_, ?_⟩, ⟨hEx, fun j hj => ?_⟩, hN⟩
        · refine hS3.1.home (fun j hj => g j ?_ ?_) (gr 4 (by decide)) (gr 5 (by decide)) (gr 6 (by decide)) (gr 9 (by decide)) (fun q' h' hq' hh' => by rw [gr 7 (by decide)]; exact (hS3.1.2.2.1 q' hq').1 h' hh')
          · intro e; subst e; simp at hj
          · intro e; subst e; simp at hj
        · rw [g 13 (by decide) (by decide)]
          exact hS3.2.1.home ⟨g 4 (by decide) (by decide), g 5 (by decide) (by decide)⟩
        · rw [g12]
          exact hS3.2.2.1.home ⟨g 4 (by decide) (by decide), g 5 (by decide) (by decide)⟩
        · rw [ruM_11]
          exact hS3.2.2.2
        · rw [hj3 j hj, hE2 113 (by decide), hE 113 (by decide)]
      · skip
        omega
    | succ m ih =>
      intro q M1 N1 l3 l4 hq hR1 hE hN hs
      have t3 := hR1.2.1.1.2.2.2.1
      have f : ∀ j, ¬ j = 13 → strM R (47 + 6 * r) B 3 j = B 3 j := fun j hj => by unfold strM; simp [q_up, hj]
      rw [f 4 (by decide)] at t3
      refine st_iload_n dX11_beatBy_109 rfl ?_
      refine st_aload_n dX11_beatBy_110 rfl ?_
      refine st_getfr dX11_beatBy_111 f_X11_9 (by first | with_reducible assumption | rfl) (by rfl) ?_
      refine st_iconst dX11_beatBy_114 ?_
      refine st_ialdK (k' := 3) dX11_beatBy_115 (by first | with_reducible assumption | rfl) rfl (by omega) (hn := by first | decide | omega) ?_
      rw [t3]
      refine st_icmp_ge (tgt := 205) dX11_beatBy_116 (by omega) (by omega) rfl (fun c => ?_) (fun c => ?_)
      · skip
        omega
      · refine st_aload_n dX11_beatBy_119 rfl ?_
        refine st_iload_n dX11_beatBy_120 rfl ?_
        refine c_V1v (d' := d - 1) dX11_beatBy_121 l_X11_464 k_X11_asks i_X11_asks (Or.inl ⟨_, _, _, _, _, (by first | with_reducible assumption | rfl), by rfl⟩) (by omega) (Nat.le_of_ble_eq_true rfl) (C_asks (B := strM R (47 + 6 * r) B) (by omega) hR1 (by rw [f 0 (by decide)]; exact htl) (by rw [f 4 (by decide)]; omega)) (fun M2 N2 hx => ?_)
        obtain ⟨hE2, hv2, hN2, hw⟩ := hx
        rw [show nowV (strM R (47 + 6 * r) B) 0 = nowV B 0 from nowV_13] at hw hv2
        have hR2 : RN (strM R (47 + 6 * r) B) M2 := hR1.exc hE2 (by decide)
        have hRu2 : RuR R M2 r := hRu.exc ((hE.sub (by decide)).tr (hE2.sub (by decide)) : Exc [115, 143, 147] M M2) (by decide)
        refine st_aload_n dX11_beatBy_124 rfl ?_
        refine st_iload_n dX11_beatBy_125 rfl ?_
        refine st_iconst dX11_beatBy_126 ?_
        refine c_V2i (d' := d - 1) dX11_beatBy_127 l_X11_466 k_X11_clauseOf i_X11_clauseOf (Or.inl ⟨_, _, _, _, _, (by first | with_reducible assumption | rfl), by rfl⟩) (by omega) (Nat.le_of_ble_eq_true rfl) (C_clauseOf (w := wdL (strM R (47 + 6 * r) B) (nowV B 0) q) (by omega) hr hC hRu2 (Or.inl rfl) hw) (fun x M3 N3 hx => ?_)
        obtain ⟨rfl, rfl, hN3⟩ := hx
        have hsg : sngV R (47 + 6 * r) B q = sngF R (47 + 6 * r) (wdL (strM R (47 + 6 * r) B) (nowV B 0) q) (nowV B 0 q) := rfl
        unfold sngF at hsg
        have hfc := firC_cs R (47 + 6 * r) (wdL (strM R (47 + 6 * r) B) (nowV B 0) q) 0 (R (47 + 6 * r) 6).toNat 0
        have hNN : ∀ a, ¬ a = 141 → ¬ a = 142 → N3 a = N a := fun a a1 a2 => (hN3 a a2).trans ((hN2 a a1).trans (hN a a1 a2))
        -- behind the sum
        have tl : ∀ (x : Int64) (N4 : q_MemL) (z : Int), clampI x = sngV R (47 + 6 * r) B q → (∀ a, ¬ a = 141 → ¬ a = 142 → N4 a = N a) → AW0 G d m_X11_beatBy 163 [some (.ref 112), some (I r), some (I q), some (I z), l4, none] [.long x] M3 N4 (CN (fun M' N' => RN (ruM R (47 + 6 * r) B) M' ∧ BeB M M' ∧ ∀ a, ¬ a = 141 → ¬ a = 142 → N' a = N a)) := by
          intro x N4 z hx hN4
          have ecl := clampI_eq x
          have en : ∀ (y : Int) (st : Option Value), y = sngV R (47 + 6 * r) B q → AW0 G d m_X11_beatBy 198 [some (.ref 112), some (I r), some (I q), some (I z), st, none] [I y, I q, .ref 147] M3 N4 (CN (fun M' N' => RN (ruM R (47 + 6 * r) B) M' ∧ BeB M M' ∧ ∀ a, ¬ a = 141 → ¬ a = 142 → N' a = N a)) := by
            intro y st hy
            refine st_iastK (k' := q) dX11_beatBy_198 sh_147 rfl (by omega) (hn := by decide) ?_
            refine st_iinc (L' := [_, _, _, _, _, _]) dX11_beatBy_199 rfl (by decide) rfl rfl ?_
            refine st_goto (tgt := 109) dX11_beatBy_202 rfl ?_
            refine AW.to (ih (q + 1) (q_up M3 147 q y) N4 (some (I z)) st (by omega) (hR2.exc (Exc.up (L := [147]) (by decide)) (by decide)) (((hE.sub (by decide)).tr (hE2.sub (by decide))).tr (Exc.up (by decide))) hN4 (fun j hj => ?_)) (h2 := by simp)
            by_cases c2 : j = q
            · rw [c2, ← hy]; simp [q_up]
            · rw [← hs j (by omega), ← hE2 147 (by decide)]; simp [q_up, c2]
          have e0 : (0 : Int64).toInt = 0 := rfl
          have e30 : (30 : Int64).toInt = 30 := rfl
          have n0 := cmpL_neg (x := x) (y := 0)
          have n30 := cmpL_pos (x := x) (y := 30)
          have r0 := cmpL_rng x 0
          have r30 := cmpL_rng x 30
          refine st_lstore (L' := [_, _, _, _, _, _]) dX11_beatBy_163 (by decide) rfl rfl ?_
          refine st_aload_n dX11_beatBy_165 rfl ?_
          refine st_getfr dX11_beatBy_166 f_X11_119 (by first | with_reducible assumption | rfl) (by rfl) ?_
          refine st_iload_n dX11_beatBy_169 rfl ?_
          refine st_lload dX11_beatBy_170 rfl ?_
          refine st_lc0K dX11_beatBy_172 ?_
          refine AW.topv (show _ = Value.long 0 from rfl) ?_
          refine st_lcmpL dX11_beatBy_173 ?_
          refine st_if_ge (tgt := 181) dX11_beatBy_174 (by omega) rfl (fun d1 => ?_) (fun d1 => ?_)
          · refine st_lload dX11_beatBy_181 rfl ?_
            refine st_ldc2 dX11_beatBy_183 l_X11_456 ?_
            refine AW.topv (show _ = Value.long 30 from rfl) ?_
            refine st_lcmpL dX11_beatBy_186 ?_
            refine st_if_le (tgt := 195) dX11_beatBy_187 (by omega) rfl (fun d2 => ?_) (fun d2 => ?_)
            · refine st_lload dX11_beatBy_195 rfl ?_
              refine AW.topv (show _ = J (clampI x) from ?_) ?_
              · rw [ecl, if_neg (by omega), if_neg (by omega)]
                show _ = Value.long (Int64.ofInt _)
                rw [Int64.ofInt_toInt]
              refine st_l2iJ dX11_beatBy_197 ?_
              exact en _ _ hx
            · refine st_bipush dX11_beatBy_190 (by decide) ?_
              refine st_goto (tgt := 198) dX11_beatBy_192 rfl ?_
              refine en _ _ ?_
              rw [← hx, ecl, if_neg (by omega), if_pos (by omega)]
          · refine st_iconst dX11_beatBy_177 ?_
            refine st_goto (tgt := 198) dX11_beatBy_178 rfl ?_
            refine en _ _ ?_
            rw [← hx, ecl, if_pos (by omega)]
        have hvq : 0 ≤ nowV B 0 q ∧ nowV B 0 q ≤ 30 := hnv q
        by_cases cf : firC R (47 + 6 * r) (wdL (strM R (47 + 6 * r) B) (nowV B 0) q) 0 (R (47 + 6 * r) 6).toNat 0 = -1
        · rw [if_pos cf] at hsg ⊢
          refine st_istore_n (L' := [_, _, _, _, _, _]) dX11_beatBy_130 (by decide) rfl rfl ?_
          refine st_iload_n dX11_beatBy_131 rfl ?_
          refine st_iconst dX11_beatBy_132 ?_
          refine st_icmp_ne (tgt := 146) dX11_beatBy_133 (by omega) (by omega) rfl (fun c2 => ?_) (fun c2 => ?_)
          · skip
            omega
          · refine st_aload_n dX11_beatBy_136 rfl ?_
            refine st_getfr dX11_beatBy_137 f_X11_107 (by first | with_reducible assumption | rfl) (by rfl) ?_
            refine st_iload_n dX11_beatBy_140 rfl ?_
            first | refine st_ialdK (k' := _) dX11_beatBy_141 (by first | with_reducible assumption | rfl) rfl (by omega) (hn := by first | decide | omega) ?_ | refine st_iald dX11_beatBy_141 (by first | with_reducible assumption | rfl) (by omega) (by omega) (hn := by first | decide | omega) ?_
            rw [hv2 q (by rw [f 4 (by decide)]; omega)]
            refine st_i2lK dX11_beatBy_142 (by omega) ?_
            refine st_goto (tgt := 163) dX11_beatBy_143 rfl ?_
            refine tl _ _ _ ?_ hNN
            rw [hsg, clampI_eq, Int64.toInt_ofInt_of_le (by omega) (by omega), if_neg (by omega), if_neg (by omega)]
        · rcases hfc with hh | ⟨q', hh, q1, q2⟩
          · exact absurd hh cf
          rw [if_neg cf] at hsg ⊢
          rw [hh, Int.toNat_natCast] at hsg
          rw [hh]
          obtain ⟨hkc, s, t, e, es, et, ee, hst, hte, he, hty, -⟩ := hC.2 q' (by omega)
          obtain ⟨⟨r2, r3, r4, r5⟩, hcR⟩ := hRu2.2 q' (by omega)
          refine st_istore_n (L' := [_, _, _, _, _, _]) dX11_beatBy_130 (by decide) rfl rfl ?_
          refine st_iload_n dX11_beatBy_131 rfl ?_
          refine st_iconst dX11_beatBy_132 ?_
          refine st_icmp_ne (tgt := 146) dX11_beatBy_133 (by omega) (by omega) rfl (fun c2 => ?_) (fun c2 => ?_)
          · refine st_aload_n dX11_beatBy_146 rfl ?_
            refine st_iload_n dX11_beatBy_147 rfl ?_
            refine st_aload_n dX11_beatBy_148 rfl ?_
            refine st_getfr dX11_beatBy_149 f_X11_84 (by first | with_reducible assumption | rfl) (by rfl) ?_
            refine st_iload_n dX11_beatBy_152 rfl ?_
            refine st_ialdK (k' := 12 * r + q') dX11_beatBy_153 sh_136 (by omega) (by omega) (hn := by decide) ?_
            rw [r3, es]
            refine st_aload_n dX11_beatBy_154 rfl ?_
            refine st_getfr dX11_beatBy_155 f_X11_87 (by first | with_reducible assumption | rfl) (by rfl) ?_
            refine st_iload_n dX11_beatBy_158 rfl ?_
            refine st_ialdK (k' := 12 * r + q') dX11_beatBy_159 sh_137 (by omega) (by omega) (hn := by decide) ?_
            rw [r4, et, show (t : Int) = ((s + (t - s) : Nat) : Int) by omega]
            refine c_V3i (d' := d - 1) dX11_beatBy_160 l_X11_378 k_X11_answer i_X11_answer (Or.inl ⟨_, _, _, _, _, (by first | with_reducible assumption | rfl), by rfl⟩) (by omega) (Nat.le_of_ble_eq_true rfl) (C_ranswer (f := R (47 + 6 * r + 1)) (t := false) (w := wdL (strM R (47 + 6 * r) B) (nowV B 0) q) (by omega) hr (by omega) (fun j hj => by rw [hN3 141 (by decide)]; exact hw j hj) (fun i i1 i2 => hcR i (by omega) (by omega)) hty) (fun x M4 N4 hx => ?_)
            obtain ⟨y, hy, -, rfl, rfl, hN4⟩ := hx
            have hsv : sumV R (47 + 6 * r) (wdL (strM R (47 + 6 * r) B) (nowV B 0) q) q' = y := by
              unfold sumV
              rw [es, et, Int.toNat_natCast, Int.toNat_natCast, hy]
              rfl
            rw [hsv] at hsg
            exact tl _ _ _ hsg.symm (fun a a1 a2 => (hN4 a a2).trans (hNN a a1 a2))
          · skip
            omega
  -- the strolls
  have one : ∀ (m q : Nat) (M1 : q_Mem) (N1 : q_MemL) (l3 l4 : Option Value), q + m = (B 3 4).toNat → RN (q_up B 3 13 (stP R (47 + 6 * r) B (nowV B 0) q)) M1 → Exc [115, 143] M M1 → (∀ a, ¬ a = 141 → ¬ a = 142 → N1 a = N a) → AW0 G d m_X11_beatBy 2 [some (.ref 112), some (I r), some (I q), l3, l4, none] [] M1 N1 (CN (fun M' N' => RN (ruM R (47 + 6 * r) B) M' ∧ BeB M M' ∧ ∀ a, ¬ a = 141 → ¬ a = 142 → N' a = N a)) := by
    intro m
    induction m with
    | zero =>
      intro q M1 N1 l3 l4 hq hR1 hE hN
      have hqn : q = (B 3 4).toNat := by omega
      subst hqn
      have t3 := hR1.2.1.1.2.2.2.1
      rw [show q_up B 3 13 (stP R (47 + 6 * r) B (nowV B 0) (B 3 4).toNat) 3 4 = B 3 4 by simp [q_up]] at t3
      refine st_iload_n dX11_beatBy_2 rfl ?_
      refine st_aload_n dX11_beatBy_3 rfl ?_
      refine st_getfr dX11_beatBy_4 f_X11_9 (by first | with_reducible assumption | rfl) (by rfl) ?_
      refine st_iconst dX11_beatBy_7 ?_
      refine st_ialdK (k' := 3) dX11_beatBy_8 (by first | with_reducible assumption | rfl) rfl (by omega) (hn := by first | decide | omega) ?_
      rw [t3]
      refine st_icmp_ge (tgt := 107) dX11_beatBy_9 (by omega) (by omega) rfl (fun c => ?_) (fun c => ?_)
      · refine st_iconst dX11_beatBy_107 ?_
        refine st_istore_n (L' := [_, _, _, _, _, _]) dX11_beatBy_108 (by decide) rfl rfl ?_
        exact two (B 3 4).toNat 0 M1 N1 l3 l4 (by omega) hR1 (hE.sub (by decide)) hN (fun j hj => by omega)
      · skip
        omega
    | succ m ih =>
      intro q M1 N1 l3 l4 hq hR1 hE hN
      have hst : stP R (47 + 6 * r) B (nowV B 0) (q + 1) = strF R (47 + 6 * r) (q_up B 3 13 (stP R (47 + 6 * r) B (nowV B 0) q)) (nowV B 0) q := rfl
      unfold strF at hst
      rw [show q_up B 3 13 (stP R (47 + 6 * r) B (nowV B 0) q) 3 13 = stP R (47 + 6 * r) B (nowV B 0) q by simp [q_up], show q_up B 3 13 (stP R (47 + 6 * r) B (nowV B 0) q) 3 1 = B 3 1 by simp [q_up]] at hst
      generalize stP R (47 + 6 * r) B (nowV B 0) q = P at *
      have f : ∀ j, ¬ j = 13 → q_up B 3 13 P 3 j = B 3 j := fun j hj => by simp [q_up, hj]
      have t3 := hR1.2.1.1.2.2.2.1
      rw [f 4 (by decide)] at t3
      have gp := g4_lt P q
      refine st_iload_n dX11_beatBy_2 rfl ?_
      refine st_aload_n dX11_beatBy_3 rfl ?_
      refine st_getfr dX11_beatBy_4 f_X11_9 (by first | with_reducible assumption | rfl) (by rfl) ?_
      refine st_iconst dX11_beatBy_7 ?_
      refine st_ialdK (k' := 3) dX11_beatBy_8 (by first | with_reducible assumption | rfl) rfl (by omega) (hn := by first | decide | omega) ?_
      rw [t3]
      refine st_icmp_ge (tgt := 107) dX11_beatBy_9 (by omega) (by omega) rfl (fun c => ?_) (fun c => ?_)
      · skip
        omega
      · refine st_aload_n dX11_beatBy_12 rfl ?_
        refine st_iload_n dX11_beatBy_13 rfl ?_
        refine c_V1v (d' := d - 1) dX11_beatBy_14 l_X11_464 k_X11_asks i_X11_asks (Or.inl ⟨_, _, _, _, _, (by first | with_reducible assumption | rfl), by rfl⟩) (by omega) (Nat.le_of_ble_eq_true rfl) (C_asks (B := q_up B 3 13 P) (by omega) hR1 (by rw [f 0 (by decide)]; exact htl) (by rw [f 4 (by decide)]; omega)) (fun M2 N2 hx => ?_)
        obtain ⟨hE2, -, hN2, hw⟩ := hx
        rw [nowV_13] at hw
        have hR2 : RN (q_up B 3 13 P) M2 := hR1.exc hE2 (by decide)
        have hEE : Exc [115, 143] M M2 := hE.tr (hE2.sub (by decide))
        have hRu2 : RuR R M2 r := hRu.exc hEE (by decide)
        have hpq : M2 115 q = g4 P q := by
          have := hR2.2.2.1.1 q (by rw [f 4 (by decide)]; omega)
          rw [this]
          simp [q_up]
        refine st_aload_n dX11_beatBy_17 rfl ?_
        refine st_iload_n dX11_beatBy_18 rfl ?_
        refine st_iconst dX11_beatBy_19 ?_
        refine c_V2i (d' := d - 1) dX11_beatBy_20 l_X11_466 k_X11_clauseOf i_X11_clauseOf (Or.inl ⟨_, _, _, _, _, (by first | with_reducible assumption | rfl), by rfl⟩) (by omega) (Nat.le_of_ble_eq_true rfl) (C_clauseOf (w := wdL (q_up B 3 13 P) (nowV B 0) q) (by omega) hr hC hRu2 (Or.inr rfl) hw) (fun x M3 N3 hx => ?_)
        obtain ⟨rfl, rfl, hN3⟩ := hx
        have hfc := firC_cs R (47 + 6 * r) (wdL (q_up B 3 13 P) (nowV B 0) q) 1 (R (47 + 6 * r) 6).toNat 0
        have hNN : ∀ a, ¬ a = 141 → ¬ a = 142 → N3 a = N a := fun a a1 a2 => (hN3 a a2).trans ((hN2 a a1).trans (hN a a1 a2))
        have tl : ∀ (x : Int64) (N4 : q_MemL) (z : Int), x = wayL R (47 + 6 * r) (wdL (q_up B 3 13 P) (nowV B 0) q) → (∀ a, ¬ a = 141 → ¬ a = 142 → N4 a = N a) → AW0 G d m_X11_beatBy 50 [some (.ref 112), some (I r), some (I q), some (I z), l4, none] [.long x] M3 N4 (CN (fun M' N' => RN (ruM R (47 + 6 * r) B) M' ∧ BeB M M' ∧ ∀ a, ¬ a = 141 → ¬ a = 142 → N' a = N a)) := by
          intro x N4 z hx hN4
          rw [← hx] at hst
          have fin : ∀ (y z0 : Int) (l4 : Option Value), y = g4 P q → ((0 ≤ g4 P q + z0 ∧ g4 P q + z0 < 4) ∧ stP R (47 + 6 * r) B (nowV B 0) (q + 1) = w4 P q (g4 P q + z0)) ∨ (z0 = 0 ∧ stP R (47 + 6 * r) B (nowV B 0) (q + 1) = P) → AW0 G d m_X11_beatBy 99 [some (.ref 112), some (I r), some (I q), some (I z), l4, none] [I z0, I y, I q, .ref 115] M3 N4 (CN (fun M' N' => RN (ruM R (47 + 6 * r) B) M' ∧ BeB M M' ∧ ∀ a, ¬ a = 141 → ¬ a = 142 → N' a = N a)) := by
            intro y z0 l4 hy hz
            subst hy
            refine st_iadd dX11_beatBy_99 ?_
            refine st_iastK (k' := q) dX11_beatBy_100 sh_115 rfl (by omega) (hn := by decide) ?_
            refine st_iinc (L' := [_, _, _, _, _, _]) dX11_beatBy_101 rfl (by decide) rfl rfl ?_
            refine st_goto (tgt := 2) dX11_beatBy_104 rfl ?_
            refine AW.to (ih (q + 1) (q_up M3 115 q (g4 P q + z0)) N4 (some (I z)) l4 (by omega) ?_ (hEE.tr (Exc.up (by decide))) hN4) (h2 := by simp)
            rcases hz with ⟨h4, hz⟩ | ⟨rfl, hz⟩
            · have h := hR2.room (q := q) (z := g4 P q + z0) (by rw [f 4 (by decide)]; omega) h4
              rw [show q_up B 3 13 P 3 13 = P by simp [q_up], ← hz, show q_up (q_up B 3 13 P) 3 13 (stP R (47 + 6 * r) B (nowV B 0) (q + 1)) = q_up B 3 13 (stP R (47 + 6 * r) B (nowV B 0) (q + 1)) by funext a j; simp [q_up]; split <;> rfl] at h
              exact h
            · rw [hz, q_up_id (M := M3) (a := 115) (by rw [hpq]; omega)]
              exact hR2
          have g75 : ∀ (wy : Int), x = Int64.ofInt wy → wayI x = wy → (wy = 1 ∨ wy = -1) → AW0 G d m_X11_beatBy 75 [some (.ref 112), some (I r), some (I q), some (I z), some (.long x), none] [I (g4 P q), I q, .ref 115] M3 N4 (CN (fun M' N' => RN (ruM R (47 + 6 * r) B) M' ∧ BeB M M' ∧ ∀ a, ¬ a = 141 → ¬ a = 142 → N' a = N a)) := by
            intro wy hxw hwy h1
            rw [hwy] at hst
            subst hxw
            refine st_aload_n dX11_beatBy_75 rfl ?_
            refine st_aload_n dX11_beatBy_76 rfl ?_
            refine st_getfr dX11_beatBy_77 f_X11_16 (by first | with_reducible assumption | rfl) (by rfl) ?_
            refine st_iload_n dX11_beatBy_80 rfl ?_
            refine st_ialdK (k' := q) dX11_beatBy_81 sh_115 rfl (by omega) (hn := by decide) ?_
            rw [hpq]
            refine st_lload dX11_beatBy_82 rfl ?_
            refine st_l2iJ dX11_beatBy_84 ?_
            refine st_iadd dX11_beatBy_85 ?_
            refine c_V1p (d' := d - 1) dX11_beatBy_86 l_X11_423 k_X11_isRoom i_X11_isRoom (Or.inl ⟨_, _, _, _, _, (by first | with_reducible assumption | rfl), by rfl⟩) (by omega) (Nat.le_of_ble_eq_true rfl) (C_isRoom (B := q_up B 3 13 P) (by omega) hR2.1 hR2.2.1 (by unfold i32; omega)) ?_
            rw [f 1 (by decide)]
            refine b_eq (tgt := 98) dX11_beatBy_89 rfl (fun c7 => ?_) (fun c7 => ?_)
            · refine st_iconst dX11_beatBy_98 ?_
              rw [if_neg (fun z => c7 z.2)] at hst
              exact fin _ _ _ rfl (Or.inr ⟨rfl, hst⟩)
            · refine st_lload dX11_beatBy_92 rfl ?_
              refine st_l2iJ dX11_beatBy_94 ?_
              refine st_goto (tgt := 99) dX11_beatBy_95 rfl ?_
              rw [if_pos ⟨by omega, c7⟩] at hst
              exact fin _ _ _ rfl (Or.inl ⟨by omega, hst⟩)
          have r1 := cmpL_rng x 1
          have r2 := cmpL_rng x (-1)
          refine st_lstore (L' := [_, _, _, _, _, _]) dX11_beatBy_50 (by decide) rfl rfl ?_
          refine st_aload_n dX11_beatBy_52 rfl ?_
          refine st_getfr dX11_beatBy_53 f_X11_16 (by first | with_reducible assumption | rfl) (by rfl) ?_
          refine st_iload_n dX11_beatBy_56 rfl ?_
          refine st_dup2 dX11_beatBy_57 rfl rfl ?_
          refine st_ialdK (k' := q) dX11_beatBy_58 sh_115 rfl (by omega) (hn := by decide) ?_
          rw [hpq]
          refine st_lload dX11_beatBy_59 rfl ?_
          refine st_lc1K dX11_beatBy_61 ?_
          refine AW.topv (show _ = Value.long 1 from rfl) ?_
          refine st_lcmpL dX11_beatBy_62 ?_
          refine st_if_eq (tgt := 75) dX11_beatBy_63 (by omega) rfl (fun d1 => ?_) (fun d1 => ?_)
          · skip
            have e := cmpL_0 d1
            subst e
            exact g75 1 rfl (by decide) (Or.inl rfl)
          · refine st_lload dX11_beatBy_66 rfl ?_
            refine st_ldc2 dX11_beatBy_68 l_X11_470 ?_
            refine AW.topv (show _ = Value.long (-1) from rfl) ?_
            refine st_lcmpL dX11_beatBy_71 ?_
            refine st_if_ne (tgt := 98) dX11_beatBy_72 (by omega) rfl (fun d2 => ?_) (fun d2 => ?_)
            · refine st_iconst dX11_beatBy_98 ?_
              have hw0 : wayI x = 0 := by
                unfold wayI
                rw [if_neg (fun z => d1 (by rw [z]; exact cmpL_rf 1)), if_neg (fun z => d2 (by rw [z]; exact cmpL_rf (-1)))]
              rw [if_neg (fun z => z.1 hw0)] at hst
              exact fin _ _ _ rfl (Or.inr ⟨rfl, hst⟩)
            · skip
              have e := cmpL_0 d2
              subst e
              exact g75 (-1) rfl (by decide) (Or.inr rfl)
        have hwl : wayL R (47 + 6 * r) (wdL (q_up B 3 13 P) (nowV B 0) q) = wayL R (47 + 6 * r) (wdL (q_up B 3 13 P) (nowV B 0) q) := rfl
        conv at hwl => rhs; unfold wayL
        by_cases cf : firC R (47 + 6 * r) (wdL (q_up B 3 13 P) (nowV B 0) q) 1 (R (47 + 6 * r) 6).toNat 0 = -1
        · rw [if_pos cf] at hwl ⊢
          refine st_istore_n (L' := [_, _, _, _, _, _]) dX11_beatBy_23 (by decide) rfl rfl ?_
          refine st_iload_n dX11_beatBy_24 rfl ?_
          refine st_iconst dX11_beatBy_25 ?_
          refine st_icmp_ne (tgt := 33) dX11_beatBy_26 (by omega) (by omega) rfl (fun c2 => ?_) (fun c2 => ?_)
          · skip
            omega
          · refine st_lc0K dX11_beatBy_29 ?_
            refine st_goto (tgt := 50) dX11_beatBy_30 rfl ?_
            refine AW.topv (show _ = Value.long 0 from rfl) ?_
            exact tl _ _ _ hwl.symm hNN
        · rcases hfc with hh | ⟨q', hh, q1, q2⟩
          · exact absurd hh cf
          rw [if_neg cf] at hwl ⊢
          rw [hh, Int.toNat_natCast] at hwl
          rw [hh]
          obtain ⟨hkc, s, t, e, es, et, ee, hst', hte, he, hty, -⟩ := hC.2 q' (by omega)
          obtain ⟨⟨r2, r3, r4, r5⟩, hcR⟩ := hRu2.2 q' (by omega)
          refine st_istore_n (L' := [_, _, _, _, _, _]) dX11_beatBy_23 (by decide) rfl rfl ?_
          refine st_iload_n dX11_beatBy_24 rfl ?_
          refine st_iconst dX11_beatBy_25 ?_
          refine st_icmp_ne (tgt := 33) dX11_beatBy_26 (by omega) (by omega) rfl (fun c2 => ?_) (fun c2 => ?_)
          · refine st_aload_n dX11_beatBy_33 rfl ?_
            refine st_iload_n dX11_beatBy_34 rfl ?_
            refine st_aload_n dX11_beatBy_35 rfl ?_
            refine st_getfr dX11_beatBy_36 f_X11_84 (by first | with_reducible assumption | rfl) (by rfl) ?_
            refine st_iload_n dX11_beatBy_39 rfl ?_
            refine st_ialdK (k' := 12 * r + q') dX11_beatBy_40 sh_136 (by omega) (by omega) (hn := by decide) ?_
            rw [r3, es]
            refine st_aload_n dX11_beatBy_41 rfl ?_
            refine st_getfr dX11_beatBy_42 f_X11_87 (by first | with_reducible assumption | rfl) (by rfl) ?_
            refine st_iload_n dX11_beatBy_45 rfl ?_
            refine st_ialdK (k' := 12 * r + q') dX11_beatBy_46 sh_137 (by omega) (by omega) (hn := by decide) ?_
            rw [r4, et, show (t : Int) = ((s + (t - s) : Nat) : Int) by omega]
            refine c_V3i (d' := d - 1) dX11_beatBy_47 l_X11_378 k_X11_answer i_X11_answer (Or.inl ⟨_, _, _, _, _, (by first | with_reducible assumption | rfl), by rfl⟩) (by omega) (Nat.le_of_ble_eq_true rfl) (C_ranswer (f := R (47 + 6 * r + 1)) (t := false) (w := wdL (q_up B 3 13 P) (nowV B 0) q) (by omega) hr (by omega) (fun j hj => by rw [hN3 141 (by decide)]; exact hw j hj) (fun i i1 i2 => hcR i (by omega) (by omega)) hty) (fun x M4 N4 hx => ?_)
            obtain ⟨y, hy, -, rfl, rfl, hN4⟩ := hx
            have hsv : sumV R (47 + 6 * r) (wdL (q_up B 3 13 P) (nowV B 0) q) q' = y := by
              unfold sumV
              rw [es, et, Int.toNat_natCast, Int.toNat_natCast, hy]
              rfl
            rw [hsv] at hwl
            exact tl _ _ _ hwl.symm (fun a a1 a2 => (hN4 a a2).trans (hNN a a1 a2))
          · skip
            omega
  refine AC.of (L0 := [_, _, none, none, none, none]) pn_X11 (Nat.le_of_ble_eq_true rfl) rfl ?_
  refine st_iconst dX11_beatBy_0 ?_
  refine st_istore_n (L' := [_, _, _, _, _, _]) dX11_beatBy_1 (by decide) rfl rfl ?_
  refine AW.to (one (B 3 4).toNat 0 M N none none (by omega) ?_ Exc.rf (fun _ _ _ => rfl)) (h2 := rfl)
  rw [show stP R (47 + 6 * r) B (nowV B 0) 0 = B 3 13 from rfl, q_up_id rfl]
  exact hR


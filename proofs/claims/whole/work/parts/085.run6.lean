/-! the reference: the words of a rule -/
theorem atF_bit (B : q_Mem) (r s : Int) (j : Nat) : ∀ n, n ≤ 7 → ((atF B r s n).toNat.testBit j = true ↔ j < n ∧ (g4 (B 3 13) j = r ∧ g8 (B 3 12) j = s))
  | 0, _ => by simp [atF]
  | n + 1, hn => by
    have ih := atF_bit B r s j n (by omega)
    have hl := atF_rng B r s n (by omega)
    unfold atF
    by_cases c : g4 (B 3 13) n = r ∧ g8 (B 3 12) n = s
    · rw [if_pos c, orb_bit, Bool.or_eq_true, ih, decide_eq_true_iff]
      constructor
      · rintro (⟨h1, h2⟩ | h)
        · exact ⟨by omega, h2⟩
        · subst h
          exact ⟨by omega, c⟩
      · rintro ⟨h1, h2⟩
        by_cases e : j = n
        · exact Or.inr e.symm
        · exact Or.inl ⟨by omega, h2⟩
    · rw [if_neg c, ih]
      constructor
      · rintro ⟨h1, h2⟩
        exact ⟨by omega, h2⟩
      · rintro ⟨h1, h2⟩
        by_cases e : j = n
        · subst e
          exact absurd h2 c
        · exact ⟨by omega, h2⟩
theorem hsum_lt (P : Nat → Prop) [DecidablePred P] (n : Nat) : ∀ m, hsum (fun j => if j < n ∧ P j then (1 : Int) else 0) m = cnt P (min n m)
  | 0 => by simp [hsum, cnt]
  | m + 1 => by
    have ih := hsum_lt P n m
    show hsum (fun j => if j < n ∧ P j then (1 : Int) else 0) m + (if m < n ∧ P m then (1 : Int) else 0) = _
    rw [ih]
    by_cases c : m < n
    · rw [show min n (m + 1) = m + 1 by omega, show min n m = m by omega, cnt_succ]
      by_cases c2 : P m
      · rw [if_pos ⟨c, c2⟩, if_pos c2]
      · rw [if_neg (fun z => c2 z.2), if_neg c2]
    · rw [show min n (m + 1) = n by omega, show min n m = n by omega, if_neg (fun z => c z.1)]
      omega
theorem bits_atF (B : q_Mem) (r s : Int) {n : Nat} (hn : n ≤ 7) : hsum (bitI (atF B r s n)) 7 = cnt (fun k => g4 (B 3 13) k = r ∧ g8 (B 3 12) k = s) n := by
  have h := hsum_lt (fun k => g4 (B 3 13) k = r ∧ g8 (B 3 12) k = s) n 7
  rw [show min n 7 = n by omega] at h
  rw [← h]
  refine hsum_congr (fun j _ => ?_)
  have hb := atF_bit B r s j n hn
  have hl := atF_rng B r s n hn
  unfold bitI
  by_cases c : (atF B r s n).toNat.testBit j = true
  · rw [if_pos c, if_pos (hb.1 c)]
  · rw [if_neg c, if_neg (fun z => c (hb.2 z))]
theorem near_cnt (B : q_Mem) (r s : Int) : ∀ n, cnt (fun k => g8 (B 3 12) k = s ∧ (if g4 (B 3 13) k < r then r - g4 (B 3 13) k else g4 (B 3 13) k - r) = 1) n = cnt (fun k => g4 (B 3 13) k = r - 1 ∧ g8 (B 3 12) k = s) n + cnt (fun k => g4 (B 3 13) k = r + 1 ∧ g8 (B 3 12) k = s) n
  | 0 => by simp [cnt, hsum]
  | n + 1 => by
    have ih := near_cnt B r s n
    rw [cnt_succ, cnt_succ, cnt_succ, ih]
    generalize g4 (B 3 13) n = x
    generalize g8 (B 3 12) n = y
    by_cases c1 : x < r
    · by_cases c2 : y = s
      · by_cases c3 : x = r - 1
        · rw [if_pos ⟨c2, by rw [if_pos c1]; omega⟩, if_pos ⟨c3, c2⟩, if_neg (by omega)]; omega
        · rw [if_neg (fun z => by have := z.2; rw [if_pos c1] at this; omega), if_neg (by omega), if_neg (by omega)]; omega
      · rw [if_neg (fun z => c2 z.1), if_neg (by omega), if_neg (by omega)]; omega
    · by_cases c2 : y = s
      · by_cases c3 : x = r + 1
        · rw [if_pos ⟨c2, by rw [if_neg c1]; omega⟩, if_pos (show x = r + 1 ∧ y = s from ⟨c3, c2⟩), if_neg (by omega)]; omega
        · rw [if_neg (fun z => by have := z.2; rw [if_neg c1] at this; omega), if_neg (by omega), if_neg (by omega)]; omega
      · rw [if_neg (fun z => c2 z.1), if_neg (by omega), if_neg (by omega)]; omega
theorem RN.o {B M : q_Mem} (h : RN B M) {q : Nat} (hq : q < (B 3 4).toNat) : M 115 q = g4 (B 3 13) q ∧ M 116 q = g8 (B 3 12) q := ⟨h.2.2.1.1 q hq, h.2.2.2.1.1 q hq⟩
theorem RN.t {B M : q_Mem} (h : RN B M) {q : Nat} (hq : q < (B 3 5).toNat) : M 119 q = g4 (B 3 13) (7 + q) ∧ M 120 q = g8 (B 3 12) (7 + q) := ⟨h.2.2.1.2 q hq, h.2.2.2.1.2 q hq⟩
theorem C_asks {G : q_G} {d : Nat} {B M : q_Mem} {N : q_MemL} {p : Nat} (hd : 3 ≤ d) (hR : RN B M) (htl : B 3 0 = 1) (hp : p < (B 3 4).toNat) : AC0 G d m_X11_asks [.ref 112, I p] M N (CN (fun M' N' => Exc [143] M M' ∧ (∀ q, q < (B 3 4).toNat → M' 143 q = nowV B 0 q) ∧ (∀ a, ¬ a = 141 → N' a = N a) ∧ ∀ j, j < 11 → N' 141 j = wdL B (nowV B 0) p j)) := by
  obtain ⟨hB, hT, hP, hW, hb6⟩ := id hR
  obtain ⟨h0, h1, h2, h3, h4, h5, h6, h11, h12, h13, h15, -, -, -, -, -, -, -, -, ht1, -⟩ := id hB
  have h31 := ht1 htl
  have hnv := nowV_rng hB (B 3 11) 0
  have g4p := g4_lt (B 3 13) p
  have g8p := g8_lt (B 3 12) p
  have c1 := cnt_rng (fun k => g4 (B 3 13) k = g4 (B 3 13) p - 1 ∧ g8 (B 3 12) k = g8 (B 3 12) p) (B 3 4).toNat
  have c2 := cnt_rng (fun k => g4 (B 3 13) k = g4 (B 3 13) p + 1 ∧ g8 (B 3 12) k = g8 (B 3 12) p) (B 3 4).toNat
  have c0 := cnt_rng (fun k => g4 (B 3 13) k = g4 (B 3 13) p ∧ g8 (B 3 12) k = g8 (B 3 12) p) (B 3 4).toNat
  have ct := cnt_rng (fun t => g4 (B 3 13) (7 + t) = g4 (B 3 13) p ∧ g8 (B 3 12) (7 + t) = g8 (B 3 12) p) (B 3 5).toNat
  have hh := hearP_rng (n := (B 3 4).toNat) (df := B 3 6) (st := g8 (B 3 12)) (rm := g4 (B 3 13)) (v := nowV B 0) hp (by omega) (fun q _ => hnv q)
  have ho := hourOf_rng (h := B 3 2) (b := B 3 11) h11.1
  have ho2 : hourOf (B 3 2) (B 3 11) < 10 := by
    by_cases c : 0 < B 3 2
    · have := ho.2.1 c; omega
    · rw [ho.2.2 c]; omega
  have hvp := hnv p
  refine AC.of (L0 := [_, _, none, none, none]) pn_X11 (Nat.le_of_ble_eq_true rfl) rfl ?_
  refine st_aload_n dX11_asks_0 rfl ?_
  refine c_V0v (d' := d - 1) dX11_asks_1 l_X11_412 k_X11_laysNow i_X11_laysNow (Or.inl ⟨_, _, _, _, _, (by first | with_reducible assumption | rfl), by rfl⟩) (by omega) (Nat.le_of_ble_eq_true rfl) (C_laysNow (by omega) hB hT hb6 (by omega) htl) (fun M1 N1 hx1 => ?_)
  obtain ⟨rfl, hE1, hv1, -⟩ := hx1
  have hR1 : RN B M1 := hR.exc hE1 (by decide)
  have hp1 := hR1.o hp
  obtain ⟨t0, t1, t2, t3, t4, t5, t7⟩ := hR1.2.1.1
  have hb61 := hR1.2.2.2.2
  refine st_iconst dX11_asks_4 ?_
  refine st_istore_n (L' := [_, _, _, _, _]) dX11_asks_5 (by decide) rfl rfl ?_
  refine st_iconst dX11_asks_6 ?_
  refine st_istore_n (L' := [_, _, _, _, _]) dX11_asks_7 (by decide) rfl rfl ?_
  refine st_iconst dX11_asks_8 ?_
  refine st_istore (L' := [_, _, _, _, _]) dX11_asks_9 (by decide) rfl rfl ?_
  -- the rest
  have rest : ∀ (k : Nat), AW0 G d m_X11_asks 132 [some (.ref 112), some (I p), some (I (cnt (fun k => g8 (B 3 12) k = g8 (B 3 12) p ∧ (if g4 (B 3 13) k < g4 (B 3 13) p then g4 (B 3 13) p - g4 (B 3 13) k else g4 (B 3 13) k - g4 (B 3 13) p) = 1) (B 3 4).toNat)), some (I (cnt (fun t => g4 (B 3 13) (7 + t) = g4 (B 3 13) p ∧ g8 (B 3 12) (7 + t) = g8 (B 3 12) p) (B 3 5).toNat)), some (I k)] [] M1 N1 (CN (fun M' N' => Exc [143] M M' ∧ (∀ q, q < (B 3 4).toNat → M' 143 q = nowV B 0 q) ∧ (∀ a, ¬ a = 141 → N' a = N1 a) ∧ ∀ j, j < 11 → N' 141 j = wdL B (nowV B 0) p j)) := by
    intro k
    rw [near_cnt]
    refine st_aload_n dX11_asks_132 rfl ?_
    refine st_getfr dX11_asks_133 f_X11_100 (by first | with_reducible assumption | rfl) (by rfl) ?_
    refine st_iconst dX11_asks_136 ?_
    refine st_iload_n dX11_asks_137 rfl ?_
    refine st_i2lK dX11_asks_138 (by omega) ?_
    refine st_lastK (k' := 0) dX11_asks_139 sh_141 rfl (by omega) (hn := by decide) ?_
    refine st_aload_n dX11_asks_140 rfl ?_
    refine st_getfr dX11_asks_141 f_X11_100 (by first | with_reducible assumption | rfl) (by rfl) ?_
    refine st_iconst dX11_asks_144 ?_
    refine st_aload_n dX11_asks_145 rfl ?_
    refine st_getfr dX11_asks_146 f_X11_16 (by first | with_reducible assumption | rfl) (by rfl) ?_
    refine st_iload_n dX11_asks_149 rfl ?_
    first | refine st_ialdK (k' := _) dX11_asks_150 (by first | with_reducible assumption | rfl) rfl (by omega) (hn := by first | decide | omega) ?_ | refine st_iald dX11_asks_150 (by first | with_reducible assumption | rfl) (by omega) (by omega) (hn := by first | decide | omega) ?_
    rw [hp1.1]
    refine st_i2lK dX11_asks_151 (by omega) ?_
    refine st_lastK (k' := 1) dX11_asks_152 sh_141 rfl (by omega) (hn := by decide) ?_
    refine st_aload_n dX11_asks_153 rfl ?_
    refine st_getfr dX11_asks_154 f_X11_100 (by first | with_reducible assumption | rfl) (by rfl) ?_
    refine st_iconst dX11_asks_157 ?_
    refine st_aload_n dX11_asks_158 rfl ?_
    refine st_getfr dX11_asks_159 f_X11_19 (by first | with_reducible assumption | rfl) (by rfl) ?_
    refine st_iload_n dX11_asks_162 rfl ?_
    first | refine st_ialdK (k' := _) dX11_asks_163 (by first | with_reducible assumption | rfl) rfl (by omega) (hn := by first | decide | omega) ?_ | refine st_iald dX11_asks_163 (by first | with_reducible assumption | rfl) (by omega) (by omega) (hn := by first | decide | omega) ?_
    rw [hp1.2]
    refine st_i2lK dX11_asks_164 (by omega) ?_
    refine st_lastK (k' := 2) dX11_asks_165 sh_141 rfl (by omega) (hn := by decide) ?_
    refine st_aload_n dX11_asks_166 rfl ?_
    refine st_getfr dX11_asks_167 f_X11_100 (by first | with_reducible assumption | rfl) (by rfl) ?_
    refine st_iconst dX11_asks_170 ?_
    refine st_aload_n dX11_asks_171 rfl ?_
    refine st_getfr dX11_asks_172 f_X11_107 (by first | with_reducible assumption | rfl) (by rfl) ?_
    refine st_iload_n dX11_asks_175 rfl ?_
    first | refine st_ialdK (k' := _) dX11_asks_176 (by first | with_reducible assumption | rfl) rfl (by omega) (hn := by first | decide | omega) ?_ | refine st_iald dX11_asks_176 (by first | with_reducible assumption | rfl) (by omega) (by omega) (hn := by first | decide | omega) ?_
    rw [hv1 p hp]
    refine st_i2lK dX11_asks_177 (by omega) ?_
    refine st_lastK (k' := 3) dX11_asks_178 sh_141 rfl (by omega) (hn := by decide) ?_
    refine st_aload_n dX11_asks_179 rfl ?_
    refine st_getfr dX11_asks_180 f_X11_100 (by first | with_reducible assumption | rfl) (by rfl) ?_
    refine st_iconst dX11_asks_183 ?_
    refine st_aload_n dX11_asks_184 rfl ?_
    refine st_iload_n dX11_asks_185 rfl ?_
    refine c_V1p (d' := d - 1) dX11_asks_186 l_X11_399 k_X11_heardOf i_X11_heardOf (Or.inl ⟨_, _, _, _, _, (by first | with_reducible assumption | rfl), by rfl⟩) (by omega) (Nat.le_of_ble_eq_true rfl) (C_rHeardV (v := nowV B 0) (by omega) hB hR1.2 hv1 (fun o _ => hnv o) hp) ?_
    refine st_i2lK dX11_asks_189 (by omega) ?_
    refine st_lastK (k' := 4) dX11_asks_190 sh_141 rfl (by omega) (hn := by decide) ?_
    refine st_aload_n dX11_asks_191 rfl ?_
    refine st_getfr dX11_asks_192 f_X11_100 (by first | with_reducible assumption | rfl) (by rfl) ?_
    refine st_iconst dX11_asks_195 ?_
    refine st_aload_n dX11_asks_196 rfl ?_
    refine c_V0p (d' := d - 1) dX11_asks_197 l_X11_390 k_X11_hourNow i_X11_hourNow (Or.inl ⟨_, _, _, _, _, (by first | with_reducible assumption | rfl), by rfl⟩) (by omega) (Nat.le_of_ble_eq_true rfl) (C_hourNow hB hR1.2.1 hb61 (by omega) htl) ?_
    refine st_i2lK dX11_asks_200 (by omega) ?_
    refine st_lastK (k' := 5) dX11_asks_201 sh_141 rfl (by omega) (hn := by decide) ?_
    refine st_aload_n dX11_asks_202 rfl ?_
    refine st_getfr dX11_asks_203 f_X11_100 (by first | with_reducible assumption | rfl) (by rfl) ?_
    refine st_bipush dX11_asks_206 (by decide) ?_
    refine st_aload_n dX11_asks_208 rfl ?_
    refine st_getfr dX11_asks_209 f_X11_9 (by first | with_reducible assumption | rfl) (by rfl) ?_
    refine st_bipush dX11_asks_212 (by decide) ?_
    refine st_ialdK (k' := 6) dX11_asks_214 (by first | with_reducible assumption | rfl) rfl (by omega) (hn := by first | decide | omega) ?_
    rw [hb61]
    refine st_i2lK dX11_asks_215 (by omega) ?_
    refine st_lastK (k' := 6) dX11_asks_216 sh_141 rfl (by omega) (hn := by decide) ?_
    refine st_aload_n dX11_asks_217 rfl ?_
    refine st_getfr dX11_asks_218 f_X11_100 (by first | with_reducible assumption | rfl) (by rfl) ?_
    refine st_bipush dX11_asks_221 (by decide) ?_
    refine st_aload_n dX11_asks_223 rfl ?_
    refine st_aload_n dX11_asks_224 rfl ?_
    refine st_getfr dX11_asks_225 f_X11_16 (by first | with_reducible assumption | rfl) (by rfl) ?_
    refine st_iload_n dX11_asks_228 rfl ?_
    first | refine st_ialdK (k' := _) dX11_asks_229 (by first | with_reducible assumption | rfl) rfl (by omega) (hn := by first | decide | omega) ?_ | refine st_iald dX11_asks_229 (by first | with_reducible assumption | rfl) (by omega) (by omega) (hn := by first | decide | omega) ?_
    rw [hp1.1]
    refine st_aload_n dX11_asks_230 rfl ?_
    refine st_getfr dX11_asks_231 f_X11_19 (by first | with_reducible assumption | rfl) (by rfl) ?_
    refine st_iload_n dX11_asks_234 rfl ?_
    first | refine st_ialdK (k' := _) dX11_asks_235 (by first | with_reducible assumption | rfl) rfl (by omega) (hn := by first | decide | omega) ?_ | refine st_iald dX11_asks_235 (by first | with_reducible assumption | rfl) (by omega) (by omega) (hn := by first | decide | omega) ?_
    rw [hp1.2]
    refine c_V2p (d' := d - 1) dX11_asks_236 l_X11_429 k_X11_peopleAt i_X11_peopleAt (Or.inl ⟨_, _, _, _, _, (by first | with_reducible assumption | rfl), by rfl⟩) (by omega) (Nat.le_of_ble_eq_true rfl) (C_peopleAt hR1 (by unfold i32; omega) (by unfold i32; omega)) ?_
    have har := atF_rng B (g4 (B 3 13) p) (g8 (B 3 12) p) (B 3 4).toNat (by omega)
    refine c_S1p (d' := d - 1) dX11_asks_239 l_X11_461 k_X11_bits s_X11_bits (by omega) (Nat.le_of_ble_eq_true rfl) (C_bits (by omega)) ?_
    rw [bits_atF B _ _ (by omega)]
    refine st_iconst dX11_asks_242 ?_
    refine st_isub dX11_asks_243 ?_
    refine st_i2lK dX11_asks_244 (by omega) ?_
    refine st_lastK (k' := 7) dX11_asks_245 sh_141 rfl (by omega) (hn := by decide) ?_
    refine st_aload_n dX11_asks_246 rfl ?_
    refine st_getfr dX11_asks_247 f_X11_100 (by first | with_reducible assumption | rfl) (by rfl) ?_
    refine st_bipush dX11_asks_250 (by decide) ?_
    refine st_iload_n dX11_asks_252 rfl ?_
    refine st_i2lK dX11_asks_253 (by omega) ?_
    refine st_lastK (k' := 8) dX11_asks_254 sh_141 rfl (by omega) (hn := by decide) ?_
    refine st_aload_n dX11_asks_255 rfl ?_
    refine st_getfr dX11_asks_256 f_X11_100 (by first | with_reducible assumption | rfl) (by rfl) ?_
    refine st_bipush dX11_asks_259 (by decide) ?_
    refine st_iload_n dX11_asks_261 rfl ?_
    refine st_i2lK dX11_asks_262 (by omega) ?_
    refine st_lastK (k' := 9) dX11_asks_263 sh_141 rfl (by omega) (hn := by decide) ?_
    refine st_aload_n dX11_asks_264 rfl ?_
    refine st_getfr dX11_asks_265 f_X11_100 (by first | with_reducible assumption | rfl) (by rfl) ?_
    refine st_bipush dX11_asks_268 (by decide) ?_
    refine st_aload_n dX11_asks_270 rfl ?_
    refine st_getfr dX11_asks_271 f_X11_9 (by first | with_reducible assumption | rfl) (by rfl) ?_
    refine st_iconst dX11_asks_274 ?_
    refine st_ialdK (k' := 2) dX11_asks_275 (by first | with_reducible assumption | rfl) rfl (by omega) (hn := by first | decide | omega) ?_
    rw [t2, show max 0 (B 3 3 - 1) = B 3 3 - 1 by omega]
    refine st_i2lK dX11_asks_276 (by omega) ?_
    refine st_lastK (k' := 10) dX11_asks_277 sh_141 rfl (by omega) (hn := by decide) ?_
    refine r_v dX11_asks_278 rfl ⟨hE1, hv1, fun a ha => ?_, fun j hj => ?_⟩
    · rw [q_upL_ne ha, q_upL_ne ha, q_upL_ne ha, q_upL_ne ha, q_upL_ne ha, q_upL_ne ha, q_upL_ne ha, q_upL_ne ha, q_upL_ne ha, q_upL_ne ha, q_upL_ne ha]
    · have hc : j = 0 ∨ j = 1 ∨ j = 2 ∨ j = 3 ∨ j = 4 ∨ j = 5 ∨ j = 6 ∨ j = 7 ∨ j = 8 ∨ j = 9 ∨ j = 10 := by omega
      rcases hc with rfl | rfl | rfl | rfl | rfl | rfl | rfl | rfl | rfl | rfl | rfl <;> simp [q_upL, wdL, wdI]
  -- things
  have two : ∀ (m k : Nat), k + m = (B 3 5).toNat → AW0 G d m_X11_asks 75 [some (.ref 112), some (I p), some (I (cnt (fun k => g8 (B 3 12) k = g8 (B 3 12) p ∧ (if g4 (B 3 13) k < g4 (B 3 13) p then g4 (B 3 13) p - g4 (B 3 13) k else g4 (B 3 13) k - g4 (B 3 13) p) = 1) (B 3 4).toNat)), some (I (cnt (fun t => g4 (B 3 13) (7 + t) = g4 (B 3 13) p ∧ g8 (B 3 12) (7 + t) = g8 (B 3 12) p) k)), some (I k)] [] M1 N1 (CN (fun M' N' => Exc [143] M M' ∧ (∀ q, q < (B 3 4).toNat → M' 143 q = nowV B 0 q) ∧ (∀ a, ¬ a = 141 → N' a = N1 a) ∧ ∀ j, j < 11 → N' 141 j = wdL B (nowV B 0) p j)) := by
    intro m
    induction m with
    | zero =>
      intro k hk
      refine st_iload dX11_asks_75 rfl ?_
      refine st_aload_n dX11_asks_77 rfl ?_
      refine st_getfr dX11_asks_78 f_X11_9 (by first | with_reducible assumption | rfl) (by rfl) ?_
      refine st_iconst dX11_asks_81 ?_
      refine st_ialdK (k' := 4) dX11_asks_82 (by first | with_reducible assumption | rfl) rfl (by omega) (hn := by first | decide | omega) ?_
      rw [t4]
      refine st_icmp_ge (tgt := 132) dX11_asks_83 (by omega) (by omega) rfl (fun c => ?_) (fun c => ?_)
      · skip
        have e : k = (B 3 5).toNat := by omega
        subst e
        exact rest _
      · skip
        omega
    | succ m ih =>
      intro k hk
      have hs := cnt_succ (fun t => g4 (B 3 13) (7 + t) = g4 (B 3 13) p ∧ g8 (B 3 12) (7 + t) = g8 (B 3 12) p) k
      have hk1 := hR1.t (q := k) (by omega)
      have gk4 := g4_lt (B 3 13) (7 + k)
      have gk8 := g8_lt (B 3 12) (7 + k)
      have e1 : ((k : Int) + 1) = ((k + 1 : Nat) : Int) := by omega
      refine st_iload dX11_asks_75 rfl ?_
      refine st_aload_n dX11_asks_77 rfl ?_
      refine st_getfr dX11_asks_78 f_X11_9 (by first | with_reducible assumption | rfl) (by rfl) ?_
      refine st_iconst dX11_asks_81 ?_
      refine st_ialdK (k' := 4) dX11_asks_82 (by first | with_reducible assumption | rfl) rfl (by omega) (hn := by first | decide | omega) ?_
      rw [t4]
      refine st_icmp_ge (tgt := 132) dX11_asks_83 (by omega) (by omega) rfl (fun c => ?_) (fun c => ?_)
      · skip
        omega
      · refine st_iload_n dX11_asks_86 rfl ?_
        refine st_aload_n dX11_asks_87 rfl ?_
        refine st_getfr dX11_asks_88 f_X11_28 (by first | with_reducible assumption | rfl) (by rfl) ?_
        refine st_iload dX11_asks_91 rfl ?_
        first | refine st_ialdK (k' := _) dX11_asks_93 (by first | with_reducible assumption | rfl) rfl (by omega) (hn := by first | decide | omega) ?_ | refine st_iald dX11_asks_93 (by first | with_reducible assumption | rfl) (by omega) (by omega) (hn := by first | decide | omega) ?_
        rw [hk1.1]
        refine st_aload_n dX11_asks_94 rfl ?_
        refine st_getfr dX11_asks_95 f_X11_16 (by first | with_reducible assumption | rfl) (by rfl) ?_
        refine st_iload_n dX11_asks_98 rfl ?_
        first | refine st_ialdK (k' := _) dX11_asks_99 (by first | with_reducible assumption | rfl) rfl (by omega) (hn := by first | decide | omega) ?_ | refine st_iald dX11_asks_99 (by first | with_reducible assumption | rfl) (by omega) (by omega) (hn := by first | decide | omega) ?_
        rw [hp1.1]
        refine st_icmp_ne (tgt := 123) dX11_asks_100 (by omega) (by omega) rfl (fun d1 => ?_) (fun d1 => ?_)
        · refine st_iconst dX11_asks_123 ?_
          refine st_iadd dX11_asks_124 ?_
          refine st_istore_n (L' := [_, _, _, _, _]) dX11_asks_125 (by decide) rfl rfl ?_
          refine st_iinc (L' := [_, _, _, _, _]) dX11_asks_126 rfl (by decide) rfl rfl ?_
          refine st_goto (tgt := 75) dX11_asks_129 rfl ?_
          refine AW.to (ih (k + 1) (by omega)) (h2 := ?_)
          rw [hs, if_neg (fun z => d1 z.1), e1]
        · refine st_aload_n dX11_asks_103 rfl ?_
          refine st_getfr dX11_asks_104 f_X11_31 (by first | with_reducible assumption | rfl) (by rfl) ?_
          refine st_iload dX11_asks_107 rfl ?_
          first | refine st_ialdK (k' := _) dX11_asks_109 (by first | with_reducible assumption | rfl) rfl (by omega) (hn := by first | decide | omega) ?_ | refine st_iald dX11_asks_109 (by first | with_reducible assumption | rfl) (by omega) (by omega) (hn := by first | decide | omega) ?_
          rw [hk1.2]
          refine st_aload_n dX11_asks_110 rfl ?_
          refine st_getfr dX11_asks_111 f_X11_19 (by first | with_reducible assumption | rfl) (by rfl) ?_
          refine st_iload_n dX11_asks_114 rfl ?_
          first | refine st_ialdK (k' := _) dX11_asks_115 (by first | with_reducible assumption | rfl) rfl (by omega) (hn := by first | decide | omega) ?_ | refine st_iald dX11_asks_115 (by first | with_reducible assumption | rfl) (by omega) (by omega) (hn := by first | decide | omega) ?_
          rw [hp1.2]
          refine st_icmp_ne (tgt := 123) dX11_asks_116 (by omega) (by omega) rfl (fun d2 => ?_) (fun d2 => ?_)
          · refine st_iconst dX11_asks_123 ?_
            refine st_iadd dX11_asks_124 ?_
            refine st_istore_n (L' := [_, _, _, _, _]) dX11_asks_125 (by decide) rfl rfl ?_
            refine st_iinc (L' := [_, _, _, _, _]) dX11_asks_126 rfl (by decide) rfl rfl ?_
            refine st_goto (tgt := 75) dX11_asks_129 rfl ?_
            refine AW.to (ih (k + 1) (by omega)) (h2 := ?_)
            rw [hs, if_neg (fun z => d2 z.2), e1]
          · refine st_iconst dX11_asks_119 ?_
            refine st_goto (tgt := 124) dX11_asks_120 rfl ?_
            refine st_iadd dX11_asks_124 ?_
            refine st_istore_n (L' := [_, _, _, _, _]) dX11_asks_125 (by decide) rfl rfl ?_
            refine st_iinc (L' := [_, _, _, _, _]) dX11_asks_126 rfl (by decide) rfl rfl ?_
            refine st_goto (tgt := 75) dX11_asks_129 rfl ?_
            refine AW.to (ih (k + 1) (by omega)) (h2 := ?_)
            rw [hs, if_pos ⟨by omega, by omega⟩, e1]
  have one : ∀ (m k : Nat), k + m = (B 3 4).toNat → AW0 G d m_X11_asks 11 [some (.ref 112), some (I p), some (I (cnt (fun k => g8 (B 3 12) k = g8 (B 3 12) p ∧ (if g4 (B 3 13) k < g4 (B 3 13) p then g4 (B 3 13) p - g4 (B 3 13) k else g4 (B 3 13) k - g4 (B 3 13) p) = 1) k)), some (I 0), some (I k)] [] M1 N1 (CN (fun M' N' => Exc [143] M M' ∧ (∀ q, q < (B 3 4).toNat → M' 143 q = nowV B 0 q) ∧ (∀ a, ¬ a = 141 → N' a = N1 a) ∧ ∀ j, j < 11 → N' 141 j = wdL B (nowV B 0) p j)) := by
    intro m
    induction m with
    | zero =>
      intro k hk
      refine st_iload dX11_asks_11 rfl ?_
      refine st_aload_n dX11_asks_13 rfl ?_
      refine st_getfr dX11_asks_14 f_X11_9 (by first | with_reducible assumption | rfl) (by rfl) ?_
      refine st_iconst dX11_asks_17 ?_
      refine st_ialdK (k' := 3) dX11_asks_18 (by first | with_reducible assumption | rfl) rfl (by omega) (hn := by first | decide | omega) ?_
      rw [t3]
      refine st_icmp_ge (tgt := 72) dX11_asks_19 (by omega) (by omega) rfl (fun c => ?_) (fun c => ?_)
      · refine st_iconst dX11_asks_72 ?_
        refine st_istore (L' := [_, _, _, _, _]) dX11_asks_73 (by decide) rfl rfl ?_
        have e : k = (B 3 4).toNat := by omega
        subst e
        exact two (B 3 5).toNat 0 (by omega)
      · skip
        omega
    | succ m ih =>
      intro k hk
      have hs := cnt_succ (fun k => g8 (B 3 12) k = g8 (B 3 12) p ∧ (if g4 (B 3 13) k < g4 (B 3 13) p then g4 (B 3 13) p - g4 (B 3 13) k else g4 (B 3 13) k - g4 (B 3 13) p) = 1) k
      have hk1 := hR1.o (q := k) (by omega)
      have gk4 := g4_lt (B 3 13) k
      have gk8 := g8_lt (B 3 12) k
      have e1 : ((k : Int) + 1) = ((k + 1 : Nat) : Int) := by omega
      refine st_iload dX11_asks_11 rfl ?_
      refine st_aload_n dX11_asks_13 rfl ?_
      refine st_getfr dX11_asks_14 f_X11_9 (by first | with_reducible assumption | rfl) (by rfl) ?_
      refine st_iconst dX11_asks_17 ?_
      refine st_ialdK (k' := 3) dX11_asks_18 (by first | with_reducible assumption | rfl) rfl (by omega) (hn := by first | decide | omega) ?_
      rw [t3]
      refine st_icmp_ge (tgt := 72) dX11_asks_19 (by omega) (by omega) rfl (fun c => ?_) (fun c => ?_)
      · skip
        omega
      · refine st_iload_n dX11_asks_22 rfl ?_
        refine st_aload_n dX11_asks_23 rfl ?_
        refine st_getfr dX11_asks_24 f_X11_19 (by first | with_reducible assumption | rfl) (by rfl) ?_
        refine st_iload dX11_asks_27 rfl ?_
        first | refine st_ialdK (k' := _) dX11_asks_29 (by first | with_reducible assumption | rfl) rfl (by omega) (hn := by first | decide | omega) ?_ | refine st_iald dX11_asks_29 (by first | with_reducible assumption | rfl) (by omega) (by omega) (hn := by first | decide | omega) ?_
        rw [hk1.2]
        refine st_aload_n dX11_asks_30 rfl ?_
        refine st_getfr dX11_asks_31 f_X11_19 (by first | with_reducible assumption | rfl) (by rfl) ?_
        refine st_iload_n dX11_asks_34 rfl ?_
        first | refine st_ialdK (k' := _) dX11_asks_35 (by first | with_reducible assumption | rfl) rfl (by omega) (hn := by first | decide | omega) ?_ | refine st_iald dX11_asks_35 (by first | with_reducible assumption | rfl) (by omega) (by omega) (hn := by first | decide | omega) ?_
        rw [hp1.2]
        refine st_icmp_ne (tgt := 63) dX11_asks_36 (by omega) (by omega) rfl (fun d1 => ?_) (fun d1 => ?_)
        · refine st_iconst dX11_asks_63 ?_
          refine st_iadd dX11_asks_64 ?_
          refine st_istore_n (L' := [_, _, _, _, _]) dX11_asks_65 (by decide) rfl rfl ?_
          refine st_iinc (L' := [_, _, _, _, _]) dX11_asks_66 rfl (by decide) rfl rfl ?_
          refine st_goto (tgt := 11) dX11_asks_69 rfl ?_
          refine AW.to (ih (k + 1) (by omega)) (h2 := ?_)
          rw [hs, if_neg (fun z => d1 z.1), e1]
        · refine st_aload_n dX11_asks_39 rfl ?_
          refine st_getfr dX11_asks_40 f_X11_16 (by first | with_reducible assumption | rfl) (by rfl) ?_
          refine st_iload dX11_asks_43 rfl ?_
          first | refine st_ialdK (k' := _) dX11_asks_45 (by first | with_reducible assumption | rfl) rfl (by omega) (hn := by first | decide | omega) ?_ | refine st_iald dX11_asks_45 (by first | with_reducible assumption | rfl) (by omega) (by omega) (hn := by first | decide | omega) ?_
          rw [hk1.1]
          refine st_aload_n dX11_asks_46 rfl ?_
          refine st_getfr dX11_asks_47 f_X11_16 (by first | with_reducible assumption | rfl) (by rfl) ?_
          refine st_iload_n dX11_asks_50 rfl ?_
          first | refine st_ialdK (k' := _) dX11_asks_51 (by first | with_reducible assumption | rfl) rfl (by omega) (hn := by first | decide | omega) ?_ | refine st_iald dX11_asks_51 (by first | with_reducible assumption | rfl) (by omega) (by omega) (hn := by first | decide | omega) ?_
          rw [hp1.1]
          refine c_S2p (d' := d - 1) dX11_asks_52 l_X11_396 k_X11_apart s_X11_apart (by omega) (Nat.le_of_ble_eq_true rfl) (C_apart (by omega) (by omega)) ?_
          refine st_iconst dX11_asks_55 ?_
          have hap : -2147483648 ≤ (if g4 (B 3 13) k < g4 (B 3 13) p then g4 (B 3 13) p - g4 (B 3 13) k else g4 (B 3 13) k - g4 (B 3 13) p) ∧ (if g4 (B 3 13) k < g4 (B 3 13) p then g4 (B 3 13) p - g4 (B 3 13) k else g4 (B 3 13) k - g4 (B 3 13) p) < 2147483648 := by split <;> omega
          refine st_icmp_ne (tgt := 63) dX11_asks_56 hap (by omega) rfl (fun d2 => ?_) (fun d2 => ?_)
          · refine st_iconst dX11_asks_63 ?_
            refine st_iadd dX11_asks_64 ?_
            refine st_istore_n (L' := [_, _, _, _, _]) dX11_asks_65 (by decide) rfl rfl ?_
            refine st_iinc (L' := [_, _, _, _, _]) dX11_asks_66 rfl (by decide) rfl rfl ?_
            refine st_goto (tgt := 11) dX11_asks_69 rfl ?_
            refine AW.to (ih (k + 1) (by omega)) (h2 := ?_)
            rw [hs, if_neg (fun z => d2 z.2), e1]
          · refine st_iconst dX11_asks_59 ?_
            refine st_goto (tgt := 64) dX11_asks_60 rfl ?_
            refine st_iadd dX11_asks_64 ?_
            refine st_istore_n (L' := [_, _, _, _, _]) dX11_asks_65 (by decide) rfl rfl ?_
            refine st_iinc (L' := [_, _, _, _, _]) dX11_asks_66 rfl (by decide) rfl rfl ?_
            refine st_goto (tgt := 11) dX11_asks_69 rfl ?_
            refine AW.to (ih (k + 1) (by omega)) (h2 := ?_)
            rw [hs, if_pos ⟨by omega, d2⟩, e1]
  exact one (B 3 4).toNat 0 (by omega)


/-! the law: one call after another -/
abbrev m_law : q_M := (⟨"LoudHouseLaw", "law", "([I)Z"⟩, code, 4, ret)
theorem val_I (v : Int32) : Value.int v = I v.toInt := by
  show _ = Value.int (Int32.ofInt _)
  rw [Int32.ofInt_toInt]
theorem i32_to (v : Int32) : i32 v.toInt := by
  unfold i32
  have h1 := Int32.toInt_lt v
  have h2 := Int32.le_toInt v
  omega
theorem z_63 (z : Int) : zi z &&& zi 63 = zi (z % 64) := by
  apply Int32.toBitVec_inj.1
  show BitVec.ofInt 32 z &&& BitVec.ofInt 32 63 = BitVec.ofInt 32 (z % 64)
  apply BitVec.eq_of_toNat_eq
  rw [BitVec.toNat_and, BitVec.toNat_ofInt, BitVec.toNat_ofInt, BitVec.toNat_ofInt]
  rw [show ((63 : Int) % (2 ^ 32 : Nat)).toNat = 2 ^ 6 - 1 by decide, Nat.and_two_pow_sub_one_eq_mod]
  have e : ((2 ^ 32 : Nat) : Int) = 4294967296 := by decide
  rw [e]
  omega
abbrev lawQ : q_Q0 := CV (fun x _ _ => x = I 1)
abbrev lawL (i : Nat) : List (Option Value) := [some (.ref 1999), some (.ref 0), some (.ref 112), some (I i)]
theorem LW_0 {G : q_G} {d : Nat} {M : q_Mem} {N : q_MemL} {i : Nat} (hd : 21 ≤ d) (hW : WI M) (hi : i + 6 ≤ G.2.2.2.2.2.1) (hL : G.2.2.2.2.2.1 ≤ 3072) (kk : ∀ M2 N2, WI M2 → AW0 G d m_law 1176 (lawL i) [] M2 N2 lawQ) : AW0 G d m_law 184 (lawL i) [] M N lawQ := by
  refine st_aload_n dL_law_184 rfl ?_
  refine st_aload_n dL_law_185 rfl ?_
  refine st_iload_n dL_law_186 rfl ?_
  refine st_iconst dL_law_187 ?_
  refine st_iadd dL_law_188 ?_
  refine st_sld dL_law_189 (by omega) (by omega) (by omega) ?_
  refine st_aload_n dL_law_190 rfl ?_
  refine st_iload_n dL_law_191 rfl ?_
  refine st_iconst dL_law_192 ?_
  refine st_iadd dL_law_193 ?_
  refine st_sld dL_law_194 (by omega) (by omega) (by omega) ?_
  refine st_aload_n dL_law_195 rfl ?_
  refine st_iload_n dL_law_196 rfl ?_
  refine st_iconst dL_law_197 ?_
  refine st_iadd dL_law_198 ?_
  refine st_sld dL_law_199 (by omega) (by omega) (by omega) ?_
  refine st_aload_n dL_law_200 rfl ?_
  refine st_iload_n dL_law_201 rfl ?_
  refine st_iconst dL_law_202 ?_
  refine st_iadd dL_law_203 ?_
  refine st_sld dL_law_204 (by omega) (by omega) (by omega) ?_
  refine st_aload_n dL_law_205 rfl ?_
  refine st_iload_n dL_law_206 rfl ?_
  refine st_iconst dL_law_207 ?_
  refine st_iadd dL_law_208 ?_
  refine st_sld dL_law_209 (by omega) (by omega) (by omega) ?_
  refine c_V5i (d' := d - 1) dL_law_210 l_L_13 k_X10_feed i_X10_feed (Or.inl ⟨_, _, _, _, _, (by first | with_reducible assumption | rfl), by rfl⟩) (by omega) (Nat.le_of_ble_eq_true rfl) (P_feed (by omega) hW) (fun x M1 N1 hx => ?_)
  obtain ⟨v, rfl, hx⟩ := hx
  refine st_aload_n dL_law_213 rfl ?_
  refine st_aload_n dL_law_214 rfl ?_
  refine st_iload_n dL_law_215 rfl ?_
  refine st_iconst dL_law_216 ?_
  refine st_iadd dL_law_217 ?_
  refine st_sld dL_law_218 (by omega) (by omega) (by omega) ?_
  refine st_aload_n dL_law_219 rfl ?_
  refine st_iload_n dL_law_220 rfl ?_
  refine st_iconst dL_law_221 ?_
  refine st_iadd dL_law_222 ?_
  refine st_sld dL_law_223 (by omega) (by omega) (by omega) ?_
  refine st_aload_n dL_law_224 rfl ?_
  refine st_iload_n dL_law_225 rfl ?_
  refine st_iconst dL_law_226 ?_
  refine st_iadd dL_law_227 ?_
  refine st_sld dL_law_228 (by omega) (by omega) (by omega) ?_
  refine st_aload_n dL_law_229 rfl ?_
  refine st_iload_n dL_law_230 rfl ?_
  refine st_iconst dL_law_231 ?_
  refine st_iadd dL_law_232 ?_
  refine st_sld dL_law_233 (by omega) (by omega) (by omega) ?_
  refine st_aload_n dL_law_234 rfl ?_
  refine st_iload_n dL_law_235 rfl ?_
  refine st_iconst dL_law_236 ?_
  refine st_iadd dL_law_237 ?_
  refine st_sld dL_law_238 (by omega) (by omega) (by omega) ?_
  refine c_V5i (d' := d - 1) dL_law_239 l_L_17 k_X11_feed i_X11_feed (Or.inl ⟨_, _, _, _, _, (by first | with_reducible assumption | rfl), by rfl⟩) (by omega) (Nat.le_of_ble_eq_true rfl) (hx) (fun y M2 N2 hy => ?_)
  obtain ⟨rfl, hW2⟩ := hy
  rw [val_I v]
  have hv := i32_to v
  unfold i32 at hv
  refine st_icmp_eq (tgt := 1176) dL_law_242 (by omega) (by omega) rfl (fun c1 => ?_) (fun c1 => ?_)
  · skip
    exact kk M2 N2 hW2
  · skip
    exact absurd rfl c1
theorem LW_1 {G : q_G} {d : Nat} {M : q_Mem} {N : q_MemL} {i : Nat} (hd : 21 ≤ d) (hW : WI M) (hi : i + 6 ≤ G.2.2.2.2.2.1) (hL : G.2.2.2.2.2.1 ≤ 3072) (kk : ∀ M2 N2, WI M2 → AW0 G d m_law 1176 (lawL i) [] M2 N2 lawQ) : AW0 G d m_law 247 (lawL i) [] M N lawQ := by
  refine st_aload_n dL_law_247 rfl ?_
  refine st_aload_n dL_law_248 rfl ?_
  refine st_iload_n dL_law_249 rfl ?_
  refine st_iconst dL_law_250 ?_
  refine st_iadd dL_law_251 ?_
  refine st_sld dL_law_252 (by omega) (by omega) (by omega) ?_
  refine c_V1i (d' := d - 1) dL_law_253 l_L_18 k_X10_end i_X10_end (Or.inl ⟨_, _, _, _, _, (by first | with_reducible assumption | rfl), by rfl⟩) (by omega) (Nat.le_of_ble_eq_true rfl) (P_end hW (i32_to _)) (fun x M1 N1 hx => ?_)
  obtain ⟨v, rfl, hx⟩ := hx
  refine st_aload_n dL_law_256 rfl ?_
  refine st_aload_n dL_law_257 rfl ?_
  refine st_iload_n dL_law_258 rfl ?_
  refine st_iconst dL_law_259 ?_
  refine st_iadd dL_law_260 ?_
  refine st_sld dL_law_261 (by omega) (by omega) (by omega) ?_
  refine c_V1i (d' := d - 1) dL_law_262 l_L_22 k_X11_end i_X11_end (Or.inl ⟨_, _, _, _, _, (by first | with_reducible assumption | rfl), by rfl⟩) (by omega) (Nat.le_of_ble_eq_true rfl) (hx) (fun y M2 N2 hy => ?_)
  obtain ⟨rfl, hW2⟩ := hy
  rw [val_I v]
  have hv := i32_to v
  unfold i32 at hv
  refine st_icmp_eq (tgt := 1176) dL_law_265 (by omega) (by omega) rfl (fun c1 => ?_) (fun c1 => ?_)
  · skip
    exact kk M2 N2 hW2
  · skip
    exact absurd rfl c1
theorem LW_2 {G : q_G} {d : Nat} {M : q_Mem} {N : q_MemL} {i : Nat} (hd : 21 ≤ d) (hW : WI M) (hi : i + 6 ≤ G.2.2.2.2.2.1) (hL : G.2.2.2.2.2.1 ≤ 3072) (kk : ∀ M2 N2, WI M2 → AW0 G d m_law 1176 (lawL i) [] M2 N2 lawQ) : AW0 G d m_law 270 (lawL i) [] M N lawQ := by
  refine st_aload_n dL_law_270 rfl ?_
  refine c_V0i (d' := d - 1) dL_law_271 l_L_23 k_X10_house i_X10_house (Or.inl ⟨_, _, _, _, _, (by first | with_reducible assumption | rfl), by rfl⟩) (by omega) (Nat.le_of_ble_eq_true rfl) (P_house (by omega) hW) (fun x M1 N1 hx => ?_)
  obtain ⟨v, rfl, hx⟩ := hx
  refine st_aload_n dL_law_274 rfl ?_
  refine c_V0i (d' := d - 1) dL_law_275 l_L_27 k_X11_house i_X11_house (Or.inl ⟨_, _, _, _, _, (by first | with_reducible assumption | rfl), by rfl⟩) (by omega) (Nat.le_of_ble_eq_true rfl) (hx) (fun y M2 N2 hy => ?_)
  obtain ⟨rfl, hW2⟩ := hy
  rw [val_I v]
  have hv := i32_to v
  unfold i32 at hv
  refine st_icmp_eq (tgt := 1176) dL_law_278 (by omega) (by omega) rfl (fun c1 => ?_) (fun c1 => ?_)
  · skip
    exact kk M2 N2 hW2
  · skip
    exact absurd rfl c1
theorem LW_3 {G : q_G} {d : Nat} {M : q_Mem} {N : q_MemL} {i : Nat} (hd : 21 ≤ d) (hW : WI M) (hi : i + 6 ≤ G.2.2.2.2.2.1) (hL : G.2.2.2.2.2.1 ≤ 3072) (kk : ∀ M2 N2, WI M2 → AW0 G d m_law 1176 (lawL i) [] M2 N2 lawQ) : AW0 G d m_law 283 (lawL i) [] M N lawQ := by
  refine st_aload_n dL_law_283 rfl ?_
  refine c_V0i (d' := d - 1) dL_law_284 l_L_28 k_X10_rule i_X10_rule (Or.inl ⟨_, _, _, _, _, (by first | with_reducible assumption | rfl), by rfl⟩) (by omega) (Nat.le_of_ble_eq_true rfl) (P_rule (by omega) hW) (fun x M1 N1 hx => ?_)
  obtain ⟨v, rfl, hx⟩ := hx
  refine st_aload_n dL_law_287 rfl ?_
  refine c_V0i (d' := d - 1) dL_law_288 l_L_31 k_X11_rule i_X11_rule (Or.inl ⟨_, _, _, _, _, (by first | with_reducible assumption | rfl), by rfl⟩) (by omega) (Nat.le_of_ble_eq_true rfl) (hx) (fun y M2 N2 hy => ?_)
  obtain ⟨rfl, hW2⟩ := hy
  rw [val_I v]
  have hv := i32_to v
  unfold i32 at hv
  refine st_icmp_eq (tgt := 1176) dL_law_291 (by omega) (by omega) rfl (fun c1 => ?_) (fun c1 => ?_)
  · skip
    exact kk M2 N2 hW2
  · skip
    exact absurd rfl c1
theorem LW_4 {G : q_G} {d : Nat} {M : q_Mem} {N : q_MemL} {i : Nat} (hd : 21 ≤ d) (hW : WI M) (hi : i + 6 ≤ G.2.2.2.2.2.1) (hL : G.2.2.2.2.2.1 ≤ 3072) (kk : ∀ M2 N2, WI M2 → AW0 G d m_law 1176 (lawL i) [] M2 N2 lawQ) : AW0 G d m_law 296 (lawL i) [] M N lawQ := by
  refine st_aload_n dL_law_296 rfl ?_
  refine st_aload_n dL_law_297 rfl ?_
  refine st_iload_n dL_law_298 rfl ?_
  refine st_iconst dL_law_299 ?_
  refine st_iadd dL_law_300 ?_
  refine st_sld dL_law_301 (by omega) (by omega) (by omega) ?_
  refine st_aload_n dL_law_302 rfl ?_
  refine st_iload_n dL_law_303 rfl ?_
  refine st_iconst dL_law_304 ?_
  refine st_iadd dL_law_305 ?_
  refine st_sld dL_law_306 (by omega) (by omega) (by omega) ?_
  refine c_V2i (d' := d - 1) dL_law_307 l_L_32 k_X10_person i_X10_person (Or.inl ⟨_, _, _, _, _, (by first | with_reducible assumption | rfl), by rfl⟩) (by omega) (Nat.le_of_ble_eq_true rfl) (P_person (by omega) hW (i32_to _) (i32_to _)) (fun x M1 N1 hx => ?_)
  obtain ⟨v, rfl, hx⟩ := hx
  refine st_aload_n dL_law_310 rfl ?_
  refine st_aload_n dL_law_311 rfl ?_
  refine st_iload_n dL_law_312 rfl ?_
  refine st_iconst dL_law_313 ?_
  refine st_iadd dL_law_314 ?_
  refine st_sld dL_law_315 (by omega) (by omega) (by omega) ?_
  refine st_aload_n dL_law_316 rfl ?_
  refine st_iload_n dL_law_317 rfl ?_
  refine st_iconst dL_law_318 ?_
  refine st_iadd dL_law_319 ?_
  refine st_sld dL_law_320 (by omega) (by omega) (by omega) ?_
  refine c_V2i (d' := d - 1) dL_law_321 l_L_36 k_X11_person i_X11_person (Or.inl ⟨_, _, _, _, _, (by first | with_reducible assumption | rfl), by rfl⟩) (by omega) (Nat.le_of_ble_eq_true rfl) (hx) (fun y M2 N2 hy => ?_)
  obtain ⟨rfl, hW2⟩ := hy
  rw [val_I v]
  have hv := i32_to v
  unfold i32 at hv
  refine st_icmp_eq (tgt := 1176) dL_law_324 (by omega) (by omega) rfl (fun c1 => ?_) (fun c1 => ?_)
  · skip
    exact kk M2 N2 hW2
  · skip
    exact absurd rfl c1
theorem LW_5 {G : q_G} {d : Nat} {M : q_Mem} {N : q_MemL} {i : Nat} (hd : 21 ≤ d) (hW : WI M) (hi : i + 6 ≤ G.2.2.2.2.2.1) (hL : G.2.2.2.2.2.1 ≤ 3072) (kk : ∀ M2 N2, WI M2 → AW0 G d m_law 1176 (lawL i) [] M2 N2 lawQ) : AW0 G d m_law 329 (lawL i) [] M N lawQ := by
  refine st_aload_n dL_law_329 rfl ?_
  refine st_aload_n dL_law_330 rfl ?_
  refine st_iload_n dL_law_331 rfl ?_
  refine st_iconst dL_law_332 ?_
  refine st_iadd dL_law_333 ?_
  refine st_sld dL_law_334 (by omega) (by omega) (by omega) ?_
  refine st_aload_n dL_law_335 rfl ?_
  refine st_iload_n dL_law_336 rfl ?_
  refine st_iconst dL_law_337 ?_
  refine st_iadd dL_law_338 ?_
  refine st_sld dL_law_339 (by omega) (by omega) (by omega) ?_
  refine c_V2i (d' := d - 1) dL_law_340 l_L_37 k_X10_thing i_X10_thing (Or.inl ⟨_, _, _, _, _, (by first | with_reducible assumption | rfl), by rfl⟩) (by omega) (Nat.le_of_ble_eq_true rfl) (P_thing (by omega) hW (i32_to _) (i32_to _)) (fun x M1 N1 hx => ?_)
  obtain ⟨v, rfl, hx⟩ := hx
  refine st_aload_n dL_law_343 rfl ?_
  refine st_aload_n dL_law_344 rfl ?_
  refine st_iload_n dL_law_345 rfl ?_
  refine st_iconst dL_law_346 ?_
  refine st_iadd dL_law_347 ?_
  refine st_sld dL_law_348 (by omega) (by omega) (by omega) ?_
  refine st_aload_n dL_law_349 rfl ?_
  refine st_iload_n dL_law_350 rfl ?_
  refine st_iconst dL_law_351 ?_
  refine st_iadd dL_law_352 ?_
  refine st_sld dL_law_353 (by omega) (by omega) (by omega) ?_
  refine c_V2i (d' := d - 1) dL_law_354 l_L_40 k_X11_thing i_X11_thing (Or.inl ⟨_, _, _, _, _, (by first | with_reducible assumption | rfl), by rfl⟩) (by omega) (Nat.le_of_ble_eq_true rfl) (hx) (fun y M2 N2 hy => ?_)
  obtain ⟨rfl, hW2⟩ := hy
  rw [val_I v]
  have hv := i32_to v
  unfold i32 at hv
  refine st_icmp_eq (tgt := 1176) dL_law_357 (by omega) (by omega) rfl (fun c1 => ?_) (fun c1 => ?_)
  · skip
    exact kk M2 N2 hW2
  · skip
    exact absurd rfl c1
theorem LW_6 {G : q_G} {d : Nat} {M : q_Mem} {N : q_MemL} {i : Nat} (hd : 21 ≤ d) (hW : WI M) (hi : i + 6 ≤ G.2.2.2.2.2.1) (hL : G.2.2.2.2.2.1 ≤ 3072) (kk : ∀ M2 N2, WI M2 → AW0 G d m_law 1176 (lawL i) [] M2 N2 lawQ) : AW0 G d m_law 362 (lawL i) [] M N lawQ := by
  refine st_aload_n dL_law_362 rfl ?_
  refine st_aload_n dL_law_363 rfl ?_
  refine st_iload_n dL_law_364 rfl ?_
  refine st_iconst dL_law_365 ?_
  refine st_iadd dL_law_366 ?_
  refine st_sld dL_law_367 (by omega) (by omega) (by omega) ?_
  refine c_V1i (d' := d - 1) dL_law_368 l_L_41 k_X10_storey i_X10_storey (Or.inl ⟨_, _, _, _, _, (by first | with_reducible assumption | rfl), by rfl⟩) (by omega) (Nat.le_of_ble_eq_true rfl) (P_storey (by omega) hW (i32_to _)) (fun x M1 N1 hx => ?_)
  obtain ⟨v, rfl, hx⟩ := hx
  refine st_aload_n dL_law_371 rfl ?_
  refine st_aload_n dL_law_372 rfl ?_
  refine st_iload_n dL_law_373 rfl ?_
  refine st_iconst dL_law_374 ?_
  refine st_iadd dL_law_375 ?_
  refine st_sld dL_law_376 (by omega) (by omega) (by omega) ?_
  refine c_V1i (d' := d - 1) dL_law_377 l_L_44 k_X11_storey i_X11_storey (Or.inl ⟨_, _, _, _, _, (by first | with_reducible assumption | rfl), by rfl⟩) (by omega) (Nat.le_of_ble_eq_true rfl) (hx) (fun y M2 N2 hy => ?_)
  obtain ⟨rfl, hW2⟩ := hy
  rw [val_I v]
  have hv := i32_to v
  unfold i32 at hv
  refine st_icmp_eq (tgt := 1176) dL_law_380 (by omega) (by omega) rfl (fun c1 => ?_) (fun c1 => ?_)
  · skip
    exact kk M2 N2 hW2
  · skip
    exact absurd rfl c1
theorem LW_7 {G : q_G} {d : Nat} {M : q_Mem} {N : q_MemL} {i : Nat} (hd : 21 ≤ d) (hW : WI M) (hi : i + 6 ≤ G.2.2.2.2.2.1) (hL : G.2.2.2.2.2.1 ≤ 3072) (kk : ∀ M2 N2, WI M2 → AW0 G d m_law 1176 (lawL i) [] M2 N2 lawQ) : AW0 G d m_law 385 (lawL i) [] M N lawQ := by
  refine st_aload_n dL_law_385 rfl ?_
  refine st_aload_n dL_law_386 rfl ?_
  refine st_iload_n dL_law_387 rfl ?_
  refine st_iconst dL_law_388 ?_
  refine st_iadd dL_law_389 ?_
  refine st_sld dL_law_390 (by omega) (by omega) (by omega) ?_
  refine st_aload_n dL_law_391 rfl ?_
  refine st_iload_n dL_law_392 rfl ?_
  refine st_iconst dL_law_393 ?_
  refine st_iadd dL_law_394 ?_
  refine st_sld dL_law_395 (by omega) (by omega) (by omega) ?_
  refine c_V2i (d' := d - 1) dL_law_396 l_L_45 k_X10_at i_X10_at (Or.inl ⟨_, _, _, _, _, (by first | with_reducible assumption | rfl), by rfl⟩) (by omega) (Nat.le_of_ble_eq_true rfl) (P_at (by omega) hW (i32_to _) (i32_to _)) (fun x M1 N1 hx => ?_)
  obtain ⟨v, rfl, hx⟩ := hx
  refine st_aload_n dL_law_399 rfl ?_
  refine st_aload_n dL_law_400 rfl ?_
  refine st_iload_n dL_law_401 rfl ?_
  refine st_iconst dL_law_402 ?_
  refine st_iadd dL_law_403 ?_
  refine st_sld dL_law_404 (by omega) (by omega) (by omega) ?_
  refine st_aload_n dL_law_405 rfl ?_
  refine st_iload_n dL_law_406 rfl ?_
  refine st_iconst dL_law_407 ?_
  refine st_iadd dL_law_408 ?_
  refine st_sld dL_law_409 (by omega) (by omega) (by omega) ?_
  refine c_V2i (d' := d - 1) dL_law_410 l_L_48 k_X11_at i_X11_at (Or.inl ⟨_, _, _, _, _, (by first | with_reducible assumption | rfl), by rfl⟩) (by omega) (Nat.le_of_ble_eq_true rfl) (hx) (fun y M2 N2 hy => ?_)
  obtain ⟨rfl, hW2⟩ := hy
  rw [val_I v]
  have hv := i32_to v
  unfold i32 at hv
  refine st_icmp_eq (tgt := 1176) dL_law_413 (by omega) (by omega) rfl (fun c1 => ?_) (fun c1 => ?_)
  · skip
    exact kk M2 N2 hW2
  · skip
    exact absurd rfl c1
theorem LW_8 {G : q_G} {d : Nat} {M : q_Mem} {N : q_MemL} {i : Nat} (hd : 21 ≤ d) (hW : WI M) (hi : i + 6 ≤ G.2.2.2.2.2.1) (hL : G.2.2.2.2.2.1 ≤ 3072) (kk : ∀ M2 N2, WI M2 → AW0 G d m_law 1176 (lawL i) [] M2 N2 lawQ) : AW0 G d m_law 418 (lawL i) [] M N lawQ := by
  refine st_aload_n dL_law_418 rfl ?_
  refine c_V0i (d' := d - 1) dL_law_419 l_L_49 k_X10_beat i_X10_beat (Or.inl ⟨_, _, _, _, _, (by first | with_reducible assumption | rfl), by rfl⟩) (by omega) (Nat.le_of_ble_eq_true rfl) (P_beat (by omega) hW) (fun x M1 N1 hx => ?_)
  obtain ⟨v, rfl, hx⟩ := hx
  refine st_aload_n dL_law_422 rfl ?_
  refine c_V0i (d' := d - 1) dL_law_423 l_L_52 k_X11_beat i_X11_beat (Or.inl ⟨_, _, _, _, _, (by first | with_reducible assumption | rfl), by rfl⟩) (by omega) (Nat.le_of_ble_eq_true rfl) (hx) (fun y M2 N2 hy => ?_)
  obtain ⟨rfl, hW2⟩ := hy
  rw [val_I v]
  have hv := i32_to v
  unfold i32 at hv
  refine st_icmp_eq (tgt := 1176) dL_law_426 (by omega) (by omega) rfl (fun c1 => ?_) (fun c1 => ?_)
  · skip
    exact kk M2 N2 hW2
  · skip
    exact absurd rfl c1
theorem LW_9 {G : q_G} {d : Nat} {M : q_Mem} {N : q_MemL} {i : Nat} (hd : 21 ≤ d) (hW : WI M) (hi : i + 6 ≤ G.2.2.2.2.2.1) (hL : G.2.2.2.2.2.1 ≤ 3072) (kk : ∀ M2 N2, WI M2 → AW0 G d m_law 1176 (lawL i) [] M2 N2 lawQ) : AW0 G d m_law 431 (lawL i) [] M N lawQ := by
  refine st_aload_n dL_law_431 rfl ?_
  refine st_aload_n dL_law_432 rfl ?_
  refine st_iload_n dL_law_433 rfl ?_
  refine st_iconst dL_law_434 ?_
  refine st_iadd dL_law_435 ?_
  refine st_sld dL_law_436 (by omega) (by omega) (by omega) ?_
  refine st_aload_n dL_law_437 rfl ?_
  refine st_iload_n dL_law_438 rfl ?_
  refine st_iconst dL_law_439 ?_
  refine st_iadd dL_law_440 ?_
  refine st_sld dL_law_441 (by omega) (by omega) (by omega) ?_
  refine c_V2i (d' := d - 1) dL_law_442 l_L_53 k_X10_sing i_X10_sing (Or.inl ⟨_, _, _, _, _, (by first | with_reducible assumption | rfl), by rfl⟩) (by omega) (Nat.le_of_ble_eq_true rfl) (P_sing (by omega) hW (i32_to _) (i32_to _)) (fun x M1 N1 hx => ?_)
  obtain ⟨v, rfl, hx⟩ := hx
  refine st_aload_n dL_law_445 rfl ?_
  refine st_aload_n dL_law_446 rfl ?_
  refine st_iload_n dL_law_447 rfl ?_
  refine st_iconst dL_law_448 ?_
  refine st_iadd dL_law_449 ?_
  refine st_sld dL_law_450 (by omega) (by omega) (by omega) ?_
  refine st_aload_n dL_law_451 rfl ?_
  refine st_iload_n dL_law_452 rfl ?_
  refine st_iconst dL_law_453 ?_
  refine st_iadd dL_law_454 ?_
  refine st_sld dL_law_455 (by omega) (by omega) (by omega) ?_
  refine c_V2i (d' := d - 1) dL_law_456 l_L_56 k_X11_sing i_X11_sing (Or.inl ⟨_, _, _, _, _, (by first | with_reducible assumption | rfl), by rfl⟩) (by omega) (Nat.le_of_ble_eq_true rfl) (hx) (fun y M2 N2 hy => ?_)
  obtain ⟨rfl, hW2⟩ := hy
  rw [val_I v]
  have hv := i32_to v
  unfold i32 at hv
  refine st_icmp_eq (tgt := 1176) dL_law_459 (by omega) (by omega) rfl (fun c1 => ?_) (fun c1 => ?_)
  · skip
    exact kk M2 N2 hW2
  · skip
    exact absurd rfl c1
theorem LW_10 {G : q_G} {d : Nat} {M : q_Mem} {N : q_MemL} {i : Nat} (hd : 21 ≤ d) (hW : WI M) (hi : i + 6 ≤ G.2.2.2.2.2.1) (hL : G.2.2.2.2.2.1 ≤ 3072) (kk : ∀ M2 N2, WI M2 → AW0 G d m_law 1176 (lawL i) [] M2 N2 lawQ) : AW0 G d m_law 464 (lawL i) [] M N lawQ := by
  refine st_aload_n dL_law_464 rfl ?_
  refine st_aload_n dL_law_465 rfl ?_
  refine st_iload_n dL_law_466 rfl ?_
  refine st_iconst dL_law_467 ?_
  refine st_iadd dL_law_468 ?_
  refine st_sld dL_law_469 (by omega) (by omega) (by omega) ?_
  refine st_aload_n dL_law_470 rfl ?_
  refine st_iload_n dL_law_471 rfl ?_
  refine st_iconst dL_law_472 ?_
  refine st_iadd dL_law_473 ?_
  refine st_sld dL_law_474 (by omega) (by omega) (by omega) ?_
  refine st_aload_n dL_law_475 rfl ?_
  refine st_iload_n dL_law_476 rfl ?_
  refine st_iconst dL_law_477 ?_
  refine st_iadd dL_law_478 ?_
  refine st_sld dL_law_479 (by omega) (by omega) (by omega) ?_
  refine c_V3i (d' := d - 1) dL_law_480 l_L_57 k_X10_tune i_X10_tune (Or.inl ⟨_, _, _, _, _, (by first | with_reducible assumption | rfl), by rfl⟩) (by omega) (Nat.le_of_ble_eq_true rfl) (P_tune (by omega) hW (i32_to _) (i32_to _) (i32_to _)) (fun x M1 N1 hx => ?_)
  obtain ⟨v, rfl, hx⟩ := hx
  refine st_aload_n dL_law_483 rfl ?_
  refine st_aload_n dL_law_484 rfl ?_
  refine st_iload_n dL_law_485 rfl ?_
  refine st_iconst dL_law_486 ?_
  refine st_iadd dL_law_487 ?_
  refine st_sld dL_law_488 (by omega) (by omega) (by omega) ?_
  refine st_aload_n dL_law_489 rfl ?_
  refine st_iload_n dL_law_490 rfl ?_
  refine st_iconst dL_law_491 ?_
  refine st_iadd dL_law_492 ?_
  refine st_sld dL_law_493 (by omega) (by omega) (by omega) ?_
  refine st_aload_n dL_law_494 rfl ?_
  refine st_iload_n dL_law_495 rfl ?_
  refine st_iconst dL_law_496 ?_
  refine st_iadd dL_law_497 ?_
  refine st_sld dL_law_498 (by omega) (by omega) (by omega) ?_
  refine c_V3i (d' := d - 1) dL_law_499 l_L_61 k_X11_tune i_X11_tune (Or.inl ⟨_, _, _, _, _, (by first | with_reducible assumption | rfl), by rfl⟩) (by omega) (Nat.le_of_ble_eq_true rfl) (hx) (fun y M2 N2 hy => ?_)
  obtain ⟨rfl, hW2⟩ := hy
  rw [val_I v]
  have hv := i32_to v
  unfold i32 at hv
  refine st_icmp_eq (tgt := 1176) dL_law_502 (by omega) (by omega) rfl (fun c1 => ?_) (fun c1 => ?_)
  · skip
    exact kk M2 N2 hW2
  · skip
    exact absurd rfl c1
theorem LW_11 {G : q_G} {d : Nat} {M : q_Mem} {N : q_MemL} {i : Nat} (hd : 21 ≤ d) (hW : WI M) (hi : i + 6 ≤ G.2.2.2.2.2.1) (hL : G.2.2.2.2.2.1 ≤ 3072) (kk : ∀ M2 N2, WI M2 → AW0 G d m_law 1176 (lawL i) [] M2 N2 lawQ) : AW0 G d m_law 507 (lawL i) [] M N lawQ := by
  refine st_aload_n dL_law_507 rfl ?_
  refine st_aload_n dL_law_508 rfl ?_
  refine st_iload_n dL_law_509 rfl ?_
  refine st_iconst dL_law_510 ?_
  refine st_iadd dL_law_511 ?_
  refine st_sld dL_law_512 (by omega) (by omega) (by omega) ?_
  refine st_aload_n dL_law_513 rfl ?_
  refine st_iload_n dL_law_514 rfl ?_
  refine st_iconst dL_law_515 ?_
  refine st_iadd dL_law_516 ?_
  refine st_sld dL_law_517 (by omega) (by omega) (by omega) ?_
  refine c_V2i (d' := d - 1) dL_law_518 l_L_62 k_X10_walk i_X10_walk (Or.inl ⟨_, _, _, _, _, (by first | with_reducible assumption | rfl), by rfl⟩) (by omega) (Nat.le_of_ble_eq_true rfl) (P_walk (by omega) hW (i32_to _) (i32_to _)) (fun x M1 N1 hx => ?_)
  obtain ⟨v, rfl, hx⟩ := hx
  refine st_aload_n dL_law_521 rfl ?_
  refine st_aload_n dL_law_522 rfl ?_
  refine st_iload_n dL_law_523 rfl ?_
  refine st_iconst dL_law_524 ?_
  refine st_iadd dL_law_525 ?_
  refine st_sld dL_law_526 (by omega) (by omega) (by omega) ?_
  refine st_aload_n dL_law_527 rfl ?_
  refine st_iload_n dL_law_528 rfl ?_
  refine st_iconst dL_law_529 ?_
  refine st_iadd dL_law_530 ?_
  refine st_sld dL_law_531 (by omega) (by omega) (by omega) ?_
  refine c_V2i (d' := d - 1) dL_law_532 l_L_65 k_X11_walk i_X11_walk (Or.inl ⟨_, _, _, _, _, (by first | with_reducible assumption | rfl), by rfl⟩) (by omega) (Nat.le_of_ble_eq_true rfl) (hx) (fun y M2 N2 hy => ?_)
  obtain ⟨rfl, hW2⟩ := hy
  rw [val_I v]
  have hv := i32_to v
  unfold i32 at hv
  refine st_icmp_eq (tgt := 1176) dL_law_535 (by omega) (by omega) rfl (fun c1 => ?_) (fun c1 => ?_)
  · skip
    exact kk M2 N2 hW2
  · skip
    exact absurd rfl c1
theorem LW_12 {G : q_G} {d : Nat} {M : q_Mem} {N : q_MemL} {i : Nat} (hd : 21 ≤ d) (hW : WI M) (hi : i + 6 ≤ G.2.2.2.2.2.1) (hL : G.2.2.2.2.2.1 ≤ 3072) (kk : ∀ M2 N2, WI M2 → AW0 G d m_law 1176 (lawL i) [] M2 N2 lawQ) : AW0 G d m_law 540 (lawL i) [] M N lawQ := by
  refine st_aload_n dL_law_540 rfl ?_
  refine st_aload_n dL_law_541 rfl ?_
  refine st_iload_n dL_law_542 rfl ?_
  refine st_iconst dL_law_543 ?_
  refine st_iadd dL_law_544 ?_
  refine st_sld dL_law_545 (by omega) (by omega) (by omega) ?_
  refine st_aload_n dL_law_546 rfl ?_
  refine st_iload_n dL_law_547 rfl ?_
  refine st_iconst dL_law_548 ?_
  refine st_iadd dL_law_549 ?_
  refine st_sld dL_law_550 (by omega) (by omega) (by omega) ?_
  refine c_V2i (d' := d - 1) dL_law_551 l_L_66 k_X10_push i_X10_push (Or.inl ⟨_, _, _, _, _, (by first | with_reducible assumption | rfl), by rfl⟩) (by omega) (Nat.le_of_ble_eq_true rfl) (P_push (by omega) hW (i32_to _) (i32_to _)) (fun x M1 N1 hx => ?_)
  obtain ⟨v, rfl, hx⟩ := hx
  refine st_aload_n dL_law_554 rfl ?_
  refine st_aload_n dL_law_555 rfl ?_
  refine st_iload_n dL_law_556 rfl ?_
  refine st_iconst dL_law_557 ?_
  refine st_iadd dL_law_558 ?_
  refine st_sld dL_law_559 (by omega) (by omega) (by omega) ?_
  refine st_aload_n dL_law_560 rfl ?_
  refine st_iload_n dL_law_561 rfl ?_
  refine st_iconst dL_law_562 ?_
  refine st_iadd dL_law_563 ?_
  refine st_sld dL_law_564 (by omega) (by omega) (by omega) ?_
  refine c_V2i (d' := d - 1) dL_law_565 l_L_69 k_X11_push i_X11_push (Or.inl ⟨_, _, _, _, _, (by first | with_reducible assumption | rfl), by rfl⟩) (by omega) (Nat.le_of_ble_eq_true rfl) (hx) (fun y M2 N2 hy => ?_)
  obtain ⟨rfl, hW2⟩ := hy
  rw [val_I v]
  have hv := i32_to v
  unfold i32 at hv
  refine st_icmp_eq (tgt := 1176) dL_law_568 (by omega) (by omega) rfl (fun c1 => ?_) (fun c1 => ?_)
  · skip
    exact kk M2 N2 hW2
  · skip
    exact absurd rfl c1
theorem LW_13 {G : q_G} {d : Nat} {M : q_Mem} {N : q_MemL} {i : Nat} (hd : 21 ≤ d) (hW : WI M) (hi : i + 6 ≤ G.2.2.2.2.2.1) (hL : G.2.2.2.2.2.1 ≤ 3072) (kk : ∀ M2 N2, WI M2 → AW0 G d m_law 1176 (lawL i) [] M2 N2 lawQ) : AW0 G d m_law 573 (lawL i) [] M N lawQ := by
  refine st_aload_n dL_law_573 rfl ?_
  refine c_V0i (d' := d - 1) dL_law_574 l_L_70 k_X10_undo i_X10_undo (Or.inl ⟨_, _, _, _, _, (by first | with_reducible assumption | rfl), by rfl⟩) (by omega) (Nat.le_of_ble_eq_true rfl) (P_undo (by omega) hW) (fun x M1 N1 hx => ?_)
  obtain ⟨v, rfl, hx⟩ := hx
  refine st_aload_n dL_law_577 rfl ?_
  refine c_V0i (d' := d - 1) dL_law_578 l_L_73 k_X11_undo i_X11_undo (Or.inl ⟨_, _, _, _, _, (by first | with_reducible assumption | rfl), by rfl⟩) (by omega) (Nat.le_of_ble_eq_true rfl) (hx) (fun y M2 N2 hy => ?_)
  obtain ⟨rfl, hW2⟩ := hy
  rw [val_I v]
  have hv := i32_to v
  unfold i32 at hv
  refine st_icmp_eq (tgt := 1176) dL_law_581 (by omega) (by omega) rfl (fun c1 => ?_) (fun c1 => ?_)
  · skip
    exact kk M2 N2 hW2
  · skip
    exact absurd rfl c1
theorem LW_14 {G : q_G} {d : Nat} {M : q_Mem} {N : q_MemL} {i : Nat} (hd : 21 ≤ d) (hW : WI M) (hi : i + 6 ≤ G.2.2.2.2.2.1) (hL : G.2.2.2.2.2.1 ≤ 3072) (kk : ∀ M2 N2, WI M2 → AW0 G d m_law 1176 (lawL i) [] M2 N2 lawQ) : AW0 G d m_law 586 (lawL i) [] M N lawQ := by
  refine st_aload_n dL_law_586 rfl ?_
  refine st_aload_n dL_law_587 rfl ?_
  refine st_iload_n dL_law_588 rfl ?_
  refine st_iconst dL_law_589 ?_
  refine st_iadd dL_law_590 ?_
  refine st_sld dL_law_591 (by omega) (by omega) (by omega) ?_
  refine st_aload_n dL_law_592 rfl ?_
  refine st_iload_n dL_law_593 rfl ?_
  refine st_iconst dL_law_594 ?_
  refine st_iadd dL_law_595 ?_
  refine st_sld dL_law_596 (by omega) (by omega) (by omega) ?_
  refine c_V2i (d' := d - 1) dL_law_597 l_L_74 k_X10_run i_X10_run (Or.inl ⟨_, _, _, _, _, (by first | with_reducible assumption | rfl), by rfl⟩) (by omega) (Nat.le_of_ble_eq_true rfl) (P_run (by omega) hW (i32_to _) (i32_to _)) (fun x M1 N1 hx => ?_)
  obtain ⟨v, rfl, hx⟩ := hx
  refine st_aload_n dL_law_600 rfl ?_
  refine st_aload_n dL_law_601 rfl ?_
  refine st_iload_n dL_law_602 rfl ?_
  refine st_iconst dL_law_603 ?_
  refine st_iadd dL_law_604 ?_
  refine st_sld dL_law_605 (by omega) (by omega) (by omega) ?_
  refine st_aload_n dL_law_606 rfl ?_
  refine st_iload_n dL_law_607 rfl ?_
  refine st_iconst dL_law_608 ?_
  refine st_iadd dL_law_609 ?_
  refine st_sld dL_law_610 (by omega) (by omega) (by omega) ?_
  refine c_V2i (d' := d - 1) dL_law_611 l_L_77 k_X11_run i_X11_run (Or.inl ⟨_, _, _, _, _, (by first | with_reducible assumption | rfl), by rfl⟩) (by omega) (Nat.le_of_ble_eq_true rfl) (hx) (fun y M2 N2 hy => ?_)
  obtain ⟨rfl, hW2⟩ := hy
  rw [val_I v]
  have hv := i32_to v
  unfold i32 at hv
  refine st_icmp_eq (tgt := 1176) dL_law_614 (by omega) (by omega) rfl (fun c1 => ?_) (fun c1 => ?_)
  · skip
    exact kk M2 N2 hW2
  · skip
    exact absurd rfl c1
theorem LW_15 {G : q_G} {d : Nat} {M : q_Mem} {N : q_MemL} {i : Nat} (hd : 21 ≤ d) (hW : WI M) (hi : i + 6 ≤ G.2.2.2.2.2.1) (hL : G.2.2.2.2.2.1 ≤ 3072) (kk : ∀ M2 N2, WI M2 → AW0 G d m_law 1176 (lawL i) [] M2 N2 lawQ) : AW0 G d m_law 619 (lawL i) [] M N lawQ := by
  refine st_aload_n dL_law_619 rfl ?_
  refine st_aload_n dL_law_620 rfl ?_
  refine st_iload_n dL_law_621 rfl ?_
  refine st_iconst dL_law_622 ?_
  refine st_iadd dL_law_623 ?_
  refine st_sld dL_law_624 (by omega) (by omega) (by omega) ?_
  refine st_aload_n dL_law_625 rfl ?_
  refine st_iload_n dL_law_626 rfl ?_
  refine st_iconst dL_law_627 ?_
  refine st_iadd dL_law_628 ?_
  refine st_sld dL_law_629 (by omega) (by omega) (by omega) ?_
  refine c_V2i (d' := d - 1) dL_law_630 l_L_78 k_X10_ahead i_X10_ahead (Or.inl ⟨_, _, _, _, _, (by first | with_reducible assumption | rfl), by rfl⟩) (by omega) (Nat.le_of_ble_eq_true rfl) (P_ahead (by omega) hW (i32_to _) (i32_to _)) (fun x M1 N1 hx => ?_)
  obtain ⟨v, rfl, hx⟩ := hx
  refine st_aload_n dL_law_633 rfl ?_
  refine st_aload_n dL_law_634 rfl ?_
  refine st_iload_n dL_law_635 rfl ?_
  refine st_iconst dL_law_636 ?_
  refine st_iadd dL_law_637 ?_
  refine st_sld dL_law_638 (by omega) (by omega) (by omega) ?_
  refine st_aload_n dL_law_639 rfl ?_
  refine st_iload_n dL_law_640 rfl ?_
  refine st_iconst dL_law_641 ?_
  refine st_iadd dL_law_642 ?_
  refine st_sld dL_law_643 (by omega) (by omega) (by omega) ?_
  refine c_V2i (d' := d - 1) dL_law_644 l_L_81 k_X11_ahead i_X11_ahead (Or.inl ⟨_, _, _, _, _, (by first | with_reducible assumption | rfl), by rfl⟩) (by omega) (Nat.le_of_ble_eq_true rfl) (hx) (fun y M2 N2 hy => ?_)
  obtain ⟨rfl, hW2⟩ := hy
  rw [val_I v]
  have hv := i32_to v
  unfold i32 at hv
  refine st_icmp_eq (tgt := 1176) dL_law_647 (by omega) (by omega) rfl (fun c1 => ?_) (fun c1 => ?_)
  · skip
    exact kk M2 N2 hW2
  · skip
    exact absurd rfl c1
theorem LW_16 {G : q_G} {d : Nat} {M : q_Mem} {N : q_MemL} {i : Nat} (hd : 21 ≤ d) (hW : WI M) (hi : i + 6 ≤ G.2.2.2.2.2.1) (hL : G.2.2.2.2.2.1 ≤ 3072) (kk : ∀ M2 N2, WI M2 → AW0 G d m_law 1176 (lawL i) [] M2 N2 lawQ) : AW0 G d m_law 652 (lawL i) [] M N lawQ := by
  refine st_aload_n dL_law_652 rfl ?_
  refine st_aload_n dL_law_653 rfl ?_
  refine st_iload_n dL_law_654 rfl ?_
  refine st_iconst dL_law_655 ?_
  refine st_iadd dL_law_656 ?_
  refine st_sld dL_law_657 (by omega) (by omega) (by omega) ?_
  refine c_V1i (d' := d - 1) dL_law_658 l_L_82 k_X10_loop i_X10_loop (Or.inl ⟨_, _, _, _, _, (by first | with_reducible assumption | rfl), by rfl⟩) (by omega) (Nat.le_of_ble_eq_true rfl) (P_loop (by omega) hW (i32_to _)) (fun x M1 N1 hx => ?_)
  obtain ⟨v, rfl, hx⟩ := hx
  refine st_aload_n dL_law_661 rfl ?_
  refine st_aload_n dL_law_662 rfl ?_
  refine st_iload_n dL_law_663 rfl ?_
  refine st_iconst dL_law_664 ?_
  refine st_iadd dL_law_665 ?_
  refine st_sld dL_law_666 (by omega) (by omega) (by omega) ?_
  refine c_V1i (d' := d - 1) dL_law_667 l_L_85 k_X11_loop i_X11_loop (Or.inl ⟨_, _, _, _, _, (by first | with_reducible assumption | rfl), by rfl⟩) (by omega) (Nat.le_of_ble_eq_true rfl) (hx) (fun y M2 N2 hy => ?_)
  obtain ⟨rfl, hW2⟩ := hy
  rw [val_I v]
  have hv := i32_to v
  unfold i32 at hv
  refine st_icmp_eq (tgt := 1176) dL_law_670 (by omega) (by omega) rfl (fun c1 => ?_) (fun c1 => ?_)
  · skip
    exact kk M2 N2 hW2
  · skip
    exact absurd rfl c1
theorem LW_17 {G : q_G} {d : Nat} {M : q_Mem} {N : q_MemL} {i : Nat} (hd : 21 ≤ d) (hW : WI M) (hi : i + 6 ≤ G.2.2.2.2.2.1) (hL : G.2.2.2.2.2.1 ≤ 3072) (kk : ∀ M2 N2, WI M2 → AW0 G d m_law 1176 (lawL i) [] M2 N2 lawQ) : AW0 G d m_law 675 (lawL i) [] M N lawQ := by
  refine st_aload_n dL_law_675 rfl ?_
  refine st_aload_n dL_law_676 rfl ?_
  refine st_iload_n dL_law_677 rfl ?_
  refine st_iconst dL_law_678 ?_
  refine st_iadd dL_law_679 ?_
  refine st_sld dL_law_680 (by omega) (by omega) (by omega) ?_
  refine st_aload_n dL_law_681 rfl ?_
  refine st_iload_n dL_law_682 rfl ?_
  refine st_iconst dL_law_683 ?_
  refine st_iadd dL_law_684 ?_
  refine st_sld dL_law_685 (by omega) (by omega) (by omega) ?_
  refine st_aload_n dL_law_686 rfl ?_
  refine st_iload_n dL_law_687 rfl ?_
  refine st_iconst dL_law_688 ?_
  refine st_iadd dL_law_689 ?_
  refine st_sld dL_law_690 (by omega) (by omega) (by omega) ?_
  refine c_V3i (d' := d - 1) dL_law_691 l_L_86 k_X10_meet i_X10_meet (Or.inl ⟨_, _, _, _, _, (by first | with_reducible assumption | rfl), by rfl⟩) (by omega) (Nat.le_of_ble_eq_true rfl) (P_meet (by omega) hW (i32_to _) (i32_to _) (i32_to _)) (fun x M1 N1 hx => ?_)
  obtain ⟨v, rfl, hx⟩ := hx
  refine st_aload_n dL_law_694 rfl ?_
  refine st_aload_n dL_law_695 rfl ?_
  refine st_iload_n dL_law_696 rfl ?_
  refine st_iconst dL_law_697 ?_
  refine st_iadd dL_law_698 ?_
  refine st_sld dL_law_699 (by omega) (by omega) (by omega) ?_
  refine st_aload_n dL_law_700 rfl ?_
  refine st_iload_n dL_law_701 rfl ?_
  refine st_iconst dL_law_702 ?_
  refine st_iadd dL_law_703 ?_
  refine st_sld dL_law_704 (by omega) (by omega) (by omega) ?_
  refine st_aload_n dL_law_705 rfl ?_
  refine st_iload_n dL_law_706 rfl ?_
  refine st_iconst dL_law_707 ?_
  refine st_iadd dL_law_708 ?_
  refine st_sld dL_law_709 (by omega) (by omega) (by omega) ?_
  refine c_V3i (d' := d - 1) dL_law_710 l_L_89 k_X11_meet i_X11_meet (Or.inl ⟨_, _, _, _, _, (by first | with_reducible assumption | rfl), by rfl⟩) (by omega) (Nat.le_of_ble_eq_true rfl) (hx) (fun y M2 N2 hy => ?_)
  obtain ⟨rfl, hW2⟩ := hy
  rw [val_I v]
  have hv := i32_to v
  unfold i32 at hv
  refine st_icmp_eq (tgt := 1176) dL_law_713 (by omega) (by omega) rfl (fun c1 => ?_) (fun c1 => ?_)
  · skip
    exact kk M2 N2 hW2
  · skip
    exact absurd rfl c1
theorem LW_18 {G : q_G} {d : Nat} {M : q_Mem} {N : q_MemL} {i : Nat} (hd : 21 ≤ d) (hW : WI M) (hi : i + 6 ≤ G.2.2.2.2.2.1) (hL : G.2.2.2.2.2.1 ≤ 3072) (kk : ∀ M2 N2, WI M2 → AW0 G d m_law 1176 (lawL i) [] M2 N2 lawQ) : AW0 G d m_law 718 (lawL i) [] M N lawQ := by
  refine st_aload_n dL_law_718 rfl ?_
  refine st_aload_n dL_law_719 rfl ?_
  refine st_iload_n dL_law_720 rfl ?_
  refine st_iconst dL_law_721 ?_
  refine st_iadd dL_law_722 ?_
  refine st_sld dL_law_723 (by omega) (by omega) (by omega) ?_
  refine st_aload_n dL_law_724 rfl ?_
  refine st_iload_n dL_law_725 rfl ?_
  refine st_iconst dL_law_726 ?_
  refine st_iadd dL_law_727 ?_
  refine st_sld dL_law_728 (by omega) (by omega) (by omega) ?_
  refine st_aload_n dL_law_729 rfl ?_
  refine st_iload_n dL_law_730 rfl ?_
  refine st_iconst dL_law_731 ?_
  refine st_iadd dL_law_732 ?_
  refine st_sld dL_law_733 (by omega) (by omega) (by omega) ?_
  refine c_V3i (d' := d - 1) dL_law_734 l_L_90 k_X10_carry i_X10_carry (Or.inl ⟨_, _, _, _, _, (by first | with_reducible assumption | rfl), by rfl⟩) (by omega) (Nat.le_of_ble_eq_true rfl) (P_carry (by omega) hW (i32_to _) (i32_to _) (i32_to _)) (fun x M1 N1 hx => ?_)
  obtain ⟨v, rfl, hx⟩ := hx
  refine st_aload_n dL_law_737 rfl ?_
  refine st_aload_n dL_law_738 rfl ?_
  refine st_iload_n dL_law_739 rfl ?_
  refine st_iconst dL_law_740 ?_
  refine st_iadd dL_law_741 ?_
  refine st_sld dL_law_742 (by omega) (by omega) (by omega) ?_
  refine st_aload_n dL_law_743 rfl ?_
  refine st_iload_n dL_law_744 rfl ?_
  refine st_iconst dL_law_745 ?_
  refine st_iadd dL_law_746 ?_
  refine st_sld dL_law_747 (by omega) (by omega) (by omega) ?_
  refine st_aload_n dL_law_748 rfl ?_
  refine st_iload_n dL_law_749 rfl ?_
  refine st_iconst dL_law_750 ?_
  refine st_iadd dL_law_751 ?_
  refine st_sld dL_law_752 (by omega) (by omega) (by omega) ?_
  refine c_V3i (d' := d - 1) dL_law_753 l_L_93 k_X11_carry i_X11_carry (Or.inl ⟨_, _, _, _, _, (by first | with_reducible assumption | rfl), by rfl⟩) (by omega) (Nat.le_of_ble_eq_true rfl) (hx) (fun y M2 N2 hy => ?_)
  obtain ⟨rfl, hW2⟩ := hy
  rw [val_I v]
  have hv := i32_to v
  unfold i32 at hv
  refine st_icmp_eq (tgt := 1176) dL_law_756 (by omega) (by omega) rfl (fun c1 => ?_) (fun c1 => ?_)
  · skip
    exact kk M2 N2 hW2
  · skip
    exact absurd rfl c1
theorem LW_19 {G : q_G} {d : Nat} {M : q_Mem} {N : q_MemL} {i : Nat} (hd : 21 ≤ d) (hW : WI M) (hi : i + 6 ≤ G.2.2.2.2.2.1) (hL : G.2.2.2.2.2.1 ≤ 3072) (kk : ∀ M2 N2, WI M2 → AW0 G d m_law 1176 (lawL i) [] M2 N2 lawQ) : AW0 G d m_law 761 (lawL i) [] M N lawQ := by
  refine st_aload_n dL_law_761 rfl ?_
  refine st_aload_n dL_law_762 rfl ?_
  refine st_iload_n dL_law_763 rfl ?_
  refine st_iconst dL_law_764 ?_
  refine st_iadd dL_law_765 ?_
  refine st_sld dL_law_766 (by omega) (by omega) (by omega) ?_
  refine c_V1i (d' := d - 1) dL_law_767 l_L_94 k_X10_lifted i_X10_lifted (Or.inl ⟨_, _, _, _, _, (by first | with_reducible assumption | rfl), by rfl⟩) (by omega) (Nat.le_of_ble_eq_true rfl) (P_lifted (by omega) hW (i32_to _)) (fun x M1 N1 hx => ?_)
  obtain ⟨v, rfl, hx⟩ := hx
  refine st_aload_n dL_law_770 rfl ?_
  refine st_aload_n dL_law_771 rfl ?_
  refine st_iload_n dL_law_772 rfl ?_
  refine st_iconst dL_law_773 ?_
  refine st_iadd dL_law_774 ?_
  refine st_sld dL_law_775 (by omega) (by omega) (by omega) ?_
  refine c_V1i (d' := d - 1) dL_law_776 l_L_97 k_X11_lifted i_X11_lifted (Or.inl ⟨_, _, _, _, _, (by first | with_reducible assumption | rfl), by rfl⟩) (by omega) (Nat.le_of_ble_eq_true rfl) (hx) (fun y M2 N2 hy => ?_)
  obtain ⟨rfl, hW2⟩ := hy
  rw [val_I v]
  have hv := i32_to v
  unfold i32 at hv
  refine st_icmp_eq (tgt := 1176) dL_law_779 (by omega) (by omega) rfl (fun c1 => ?_) (fun c1 => ?_)
  · skip
    exact kk M2 N2 hW2
  · skip
    exact absurd rfl c1
theorem LW_20 {G : q_G} {d : Nat} {M : q_Mem} {N : q_MemL} {i : Nat} (hd : 21 ≤ d) (hW : WI M) (hi : i + 6 ≤ G.2.2.2.2.2.1) (hL : G.2.2.2.2.2.1 ≤ 3072) (kk : ∀ M2 N2, WI M2 → AW0 G d m_law 1176 (lawL i) [] M2 N2 lawQ) : AW0 G d m_law 784 (lawL i) [] M N lawQ := by
  refine st_aload_n dL_law_784 rfl ?_
  refine st_aload_n dL_law_785 rfl ?_
  refine st_iload_n dL_law_786 rfl ?_
  refine st_iconst dL_law_787 ?_
  refine st_iadd dL_law_788 ?_
  refine st_sld dL_law_789 (by omega) (by omega) (by omega) ?_
  refine st_aload_n dL_law_790 rfl ?_
  refine st_iload_n dL_law_791 rfl ?_
  refine st_iconst dL_law_792 ?_
  refine st_iadd dL_law_793 ?_
  refine st_sld dL_law_794 (by omega) (by omega) (by omega) ?_
  refine c_V2i (d' := d - 1) dL_law_795 l_L_98 k_X10_each i_X10_each (Or.inl ⟨_, _, _, _, _, (by first | with_reducible assumption | rfl), by rfl⟩) (by omega) (Nat.le_of_ble_eq_true rfl) (P_each (by omega) hW (i32_to _) (i32_to _)) (fun x M1 N1 hx => ?_)
  obtain ⟨v, rfl, hx⟩ := hx
  refine st_aload_n dL_law_798 rfl ?_
  refine st_aload_n dL_law_799 rfl ?_
  refine st_iload_n dL_law_800 rfl ?_
  refine st_iconst dL_law_801 ?_
  refine st_iadd dL_law_802 ?_
  refine st_sld dL_law_803 (by omega) (by omega) (by omega) ?_
  refine st_aload_n dL_law_804 rfl ?_
  refine st_iload_n dL_law_805 rfl ?_
  refine st_iconst dL_law_806 ?_
  refine st_iadd dL_law_807 ?_
  refine st_sld dL_law_808 (by omega) (by omega) (by omega) ?_
  refine c_V2i (d' := d - 1) dL_law_809 l_L_101 k_X11_each i_X11_each (Or.inl ⟨_, _, _, _, _, (by first | with_reducible assumption | rfl), by rfl⟩) (by omega) (Nat.le_of_ble_eq_true rfl) (hx) (fun y M2 N2 hy => ?_)
  obtain ⟨rfl, hW2⟩ := hy
  rw [val_I v]
  have hv := i32_to v
  unfold i32 at hv
  refine st_icmp_eq (tgt := 1176) dL_law_812 (by omega) (by omega) rfl (fun c1 => ?_) (fun c1 => ?_)
  · skip
    exact kk M2 N2 hW2
  · skip
    exact absurd rfl c1
theorem LW_21 {G : q_G} {d : Nat} {M : q_Mem} {N : q_MemL} {i : Nat} (hd : 21 ≤ d) (hW : WI M) (hi : i + 6 ≤ G.2.2.2.2.2.1) (hL : G.2.2.2.2.2.1 ≤ 3072) (kk : ∀ M2 N2, WI M2 → AW0 G d m_law 1176 (lawL i) [] M2 N2 lawQ) : AW0 G d m_law 817 (lawL i) [] M N lawQ := by
  refine st_aload_n dL_law_817 rfl ?_
  refine st_aload_n dL_law_818 rfl ?_
  refine st_iload_n dL_law_819 rfl ?_
  refine st_iconst dL_law_820 ?_
  refine st_iadd dL_law_821 ?_
  refine st_sld dL_law_822 (by omega) (by omega) (by omega) ?_
  refine st_aload_n dL_law_823 rfl ?_
  refine st_iload_n dL_law_824 rfl ?_
  refine st_iconst dL_law_825 ?_
  refine st_iadd dL_law_826 ?_
  refine st_sld dL_law_827 (by omega) (by omega) (by omega) ?_
  refine st_aload_n dL_law_828 rfl ?_
  refine st_iload_n dL_law_829 rfl ?_
  refine st_iconst dL_law_830 ?_
  refine st_iadd dL_law_831 ?_
  refine st_sld dL_law_832 (by omega) (by omega) (by omega) ?_
  refine c_V3i (d' := d - 1) dL_law_833 l_L_102 k_X10_beds i_X10_beds (Or.inl ⟨_, _, _, _, _, (by first | with_reducible assumption | rfl), by rfl⟩) (by omega) (Nat.le_of_ble_eq_true rfl) (P_beds (by omega) hW (i32_to _) (i32_to _) (i32_to _)) (fun x M1 N1 hx => ?_)
  obtain ⟨v, rfl, hx⟩ := hx
  refine st_aload_n dL_law_836 rfl ?_
  refine st_aload_n dL_law_837 rfl ?_
  refine st_iload_n dL_law_838 rfl ?_
  refine st_iconst dL_law_839 ?_
  refine st_iadd dL_law_840 ?_
  refine st_sld dL_law_841 (by omega) (by omega) (by omega) ?_
  refine st_aload_n dL_law_842 rfl ?_
  refine st_iload_n dL_law_843 rfl ?_
  refine st_iconst dL_law_844 ?_
  refine st_iadd dL_law_845 ?_
  refine st_sld dL_law_846 (by omega) (by omega) (by omega) ?_
  refine st_aload_n dL_law_847 rfl ?_
  refine st_iload_n dL_law_848 rfl ?_
  refine st_iconst dL_law_849 ?_
  refine st_iadd dL_law_850 ?_
  refine st_sld dL_law_851 (by omega) (by omega) (by omega) ?_
  refine c_V3i (d' := d - 1) dL_law_852 l_L_105 k_X11_beds i_X11_beds (Or.inl ⟨_, _, _, _, _, (by first | with_reducible assumption | rfl), by rfl⟩) (by omega) (Nat.le_of_ble_eq_true rfl) (hx) (fun y M2 N2 hy => ?_)
  obtain ⟨rfl, hW2⟩ := hy
  rw [val_I v]
  have hv := i32_to v
  unfold i32 at hv
  refine st_icmp_eq (tgt := 1176) dL_law_855 (by omega) (by omega) rfl (fun c1 => ?_) (fun c1 => ?_)
  · skip
    exact kk M2 N2 hW2
  · skip
    exact absurd rfl c1
theorem LW_22 {G : q_G} {d : Nat} {M : q_Mem} {N : q_MemL} {i : Nat} (hd : 21 ≤ d) (hW : WI M) (hi : i + 6 ≤ G.2.2.2.2.2.1) (hL : G.2.2.2.2.2.1 ≤ 3072) (kk : ∀ M2 N2, WI M2 → AW0 G d m_law 1176 (lawL i) [] M2 N2 lawQ) : AW0 G d m_law 860 (lawL i) [] M N lawQ := by
  refine st_aload_n dL_law_860 rfl ?_
  refine st_aload_n dL_law_861 rfl ?_
  refine st_iload_n dL_law_862 rfl ?_
  refine st_iconst dL_law_863 ?_
  refine st_iadd dL_law_864 ?_
  refine st_sld dL_law_865 (by omega) (by omega) (by omega) ?_
  refine st_aload_n dL_law_866 rfl ?_
  refine st_iload_n dL_law_867 rfl ?_
  refine st_iconst dL_law_868 ?_
  refine st_iadd dL_law_869 ?_
  refine st_sld dL_law_870 (by omega) (by omega) (by omega) ?_
  refine c_V2i (d' := d - 1) dL_law_871 l_L_106 k_X10_quiet i_X10_quiet (Or.inl ⟨_, _, _, _, _, (by first | with_reducible assumption | rfl), by rfl⟩) (by omega) (Nat.le_of_ble_eq_true rfl) (P_quiet (by omega) hW (i32_to _) (i32_to _)) (fun x M1 N1 hx => ?_)
  obtain ⟨v, rfl, hx⟩ := hx
  refine st_aload_n dL_law_874 rfl ?_
  refine st_aload_n dL_law_875 rfl ?_
  refine st_iload_n dL_law_876 rfl ?_
  refine st_iconst dL_law_877 ?_
  refine st_iadd dL_law_878 ?_
  refine st_sld dL_law_879 (by omega) (by omega) (by omega) ?_
  refine st_aload_n dL_law_880 rfl ?_
  refine st_iload_n dL_law_881 rfl ?_
  refine st_iconst dL_law_882 ?_
  refine st_iadd dL_law_883 ?_
  refine st_sld dL_law_884 (by omega) (by omega) (by omega) ?_
  refine c_V2i (d' := d - 1) dL_law_885 l_L_109 k_X11_quiet i_X11_quiet (Or.inl ⟨_, _, _, _, _, (by first | with_reducible assumption | rfl), by rfl⟩) (by omega) (Nat.le_of_ble_eq_true rfl) (hx) (fun y M2 N2 hy => ?_)
  obtain ⟨rfl, hW2⟩ := hy
  rw [val_I v]
  have hv := i32_to v
  unfold i32 at hv
  refine st_icmp_eq (tgt := 1176) dL_law_888 (by omega) (by omega) rfl (fun c1 => ?_) (fun c1 => ?_)
  · skip
    exact kk M2 N2 hW2
  · skip
    exact absurd rfl c1
theorem LW_23 {G : q_G} {d : Nat} {M : q_Mem} {N : q_MemL} {i : Nat} (hd : 21 ≤ d) (hW : WI M) (hi : i + 6 ≤ G.2.2.2.2.2.1) (hL : G.2.2.2.2.2.1 ≤ 3072) (kk : ∀ M2 N2, WI M2 → AW0 G d m_law 1176 (lawL i) [] M2 N2 lawQ) : AW0 G d m_law 893 (lawL i) [] M N lawQ := by
  refine st_aload_n dL_law_893 rfl ?_
  refine st_aload_n dL_law_894 rfl ?_
  refine st_iload_n dL_law_895 rfl ?_
  refine st_iconst dL_law_896 ?_
  refine st_iadd dL_law_897 ?_
  refine st_sld dL_law_898 (by omega) (by omega) (by omega) ?_
  refine st_aload_n dL_law_899 rfl ?_
  refine st_iload_n dL_law_900 rfl ?_
  refine st_iconst dL_law_901 ?_
  refine st_iadd dL_law_902 ?_
  refine st_sld dL_law_903 (by omega) (by omega) (by omega) ?_
  refine st_aload_n dL_law_904 rfl ?_
  refine st_iload_n dL_law_905 rfl ?_
  refine st_iconst dL_law_906 ?_
  refine st_iadd dL_law_907 ?_
  refine st_sld dL_law_908 (by omega) (by omega) (by omega) ?_
  refine c_V3i (d' := d - 1) dL_law_909 l_L_110 k_X10_ear i_X10_ear (Or.inl ⟨_, _, _, _, _, (by first | with_reducible assumption | rfl), by rfl⟩) (by omega) (Nat.le_of_ble_eq_true rfl) (P_ear (by omega) hW (i32_to _) (i32_to _) (i32_to _)) (fun x M1 N1 hx => ?_)
  obtain ⟨v, rfl, hx⟩ := hx
  refine st_aload_n dL_law_912 rfl ?_
  refine st_aload_n dL_law_913 rfl ?_
  refine st_iload_n dL_law_914 rfl ?_
  refine st_iconst dL_law_915 ?_
  refine st_iadd dL_law_916 ?_
  refine st_sld dL_law_917 (by omega) (by omega) (by omega) ?_
  refine st_aload_n dL_law_918 rfl ?_
  refine st_iload_n dL_law_919 rfl ?_
  refine st_iconst dL_law_920 ?_
  refine st_iadd dL_law_921 ?_
  refine st_sld dL_law_922 (by omega) (by omega) (by omega) ?_
  refine st_aload_n dL_law_923 rfl ?_
  refine st_iload_n dL_law_924 rfl ?_
  refine st_iconst dL_law_925 ?_
  refine st_iadd dL_law_926 ?_
  refine st_sld dL_law_927 (by omega) (by omega) (by omega) ?_
  refine c_V3i (d' := d - 1) dL_law_928 l_L_113 k_X11_ear i_X11_ear (Or.inl ⟨_, _, _, _, _, (by first | with_reducible assumption | rfl), by rfl⟩) (by omega) (Nat.le_of_ble_eq_true rfl) (hx) (fun y M2 N2 hy => ?_)
  obtain ⟨rfl, hW2⟩ := hy
  rw [val_I v]
  have hv := i32_to v
  unfold i32 at hv
  refine st_icmp_eq (tgt := 1176) dL_law_931 (by omega) (by omega) rfl (fun c1 => ?_) (fun c1 => ?_)
  · skip
    exact kk M2 N2 hW2
  · skip
    exact absurd rfl c1
theorem LW_24 {G : q_G} {d : Nat} {M : q_Mem} {N : q_MemL} {i : Nat} (hd : 21 ≤ d) (hW : WI M) (hi : i + 6 ≤ G.2.2.2.2.2.1) (hL : G.2.2.2.2.2.1 ≤ 3072) (kk : ∀ M2 N2, WI M2 → AW0 G d m_law 1176 (lawL i) [] M2 N2 lawQ) : AW0 G d m_law 936 (lawL i) [] M N lawQ := by
  refine st_aload_n dL_law_936 rfl ?_
  refine st_aload_n dL_law_937 rfl ?_
  refine st_iload_n dL_law_938 rfl ?_
  refine st_iconst dL_law_939 ?_
  refine st_iadd dL_law_940 ?_
  refine st_sld dL_law_941 (by omega) (by omega) (by omega) ?_
  refine c_V1i (d' := d - 1) dL_law_942 l_L_114 k_X10_thief i_X10_thief (Or.inl ⟨_, _, _, _, _, (by first | with_reducible assumption | rfl), by rfl⟩) (by omega) (Nat.le_of_ble_eq_true rfl) (P_thief (by omega) hW (i32_to _)) (fun x M1 N1 hx => ?_)
  obtain ⟨v, rfl, hx⟩ := hx
  refine st_aload_n dL_law_945 rfl ?_
  refine st_aload_n dL_law_946 rfl ?_
  refine st_iload_n dL_law_947 rfl ?_
  refine st_iconst dL_law_948 ?_
  refine st_iadd dL_law_949 ?_
  refine st_sld dL_law_950 (by omega) (by omega) (by omega) ?_
  refine c_V1i (d' := d - 1) dL_law_951 l_L_117 k_X11_thief i_X11_thief (Or.inl ⟨_, _, _, _, _, (by first | with_reducible assumption | rfl), by rfl⟩) (by omega) (Nat.le_of_ble_eq_true rfl) (hx) (fun y M2 N2 hy => ?_)
  obtain ⟨rfl, hW2⟩ := hy
  rw [val_I v]
  have hv := i32_to v
  unfold i32 at hv
  refine st_icmp_eq (tgt := 1176) dL_law_954 (by omega) (by omega) rfl (fun c1 => ?_) (fun c1 => ?_)
  · skip
    exact kk M2 N2 hW2
  · skip
    exact absurd rfl c1
theorem LW_25 {G : q_G} {d : Nat} {M : q_Mem} {N : q_MemL} {i : Nat} (hd : 21 ≤ d) (hW : WI M) (hi : i + 6 ≤ G.2.2.2.2.2.1) (hL : G.2.2.2.2.2.1 ≤ 3072) (kk : ∀ M2 N2, WI M2 → AW0 G d m_law 1176 (lawL i) [] M2 N2 lawQ) : AW0 G d m_law 959 (lawL i) [] M N lawQ := by
  refine st_aload_n dL_law_959 rfl ?_
  refine st_aload_n dL_law_960 rfl ?_
  refine st_iload_n dL_law_961 rfl ?_
  refine st_iconst dL_law_962 ?_
  refine st_iadd dL_law_963 ?_
  refine st_sld dL_law_964 (by omega) (by omega) (by omega) ?_
  refine c_V1i (d' := d - 1) dL_law_965 l_L_118 k_X10_nextEar i_X10_nextEar (Or.inl ⟨_, _, _, _, _, (by first | with_reducible assumption | rfl), by rfl⟩) (by omega) (Nat.le_of_ble_eq_true rfl) (P_nextEar (by omega) hW (i32_to _)) (fun x M1 N1 hx => ?_)
  obtain ⟨v, rfl, hx⟩ := hx
  refine st_aload_n dL_law_968 rfl ?_
  refine st_aload_n dL_law_969 rfl ?_
  refine st_iload_n dL_law_970 rfl ?_
  refine st_iconst dL_law_971 ?_
  refine st_iadd dL_law_972 ?_
  refine st_sld dL_law_973 (by omega) (by omega) (by omega) ?_
  refine c_V1i (d' := d - 1) dL_law_974 l_L_121 k_X11_nextEar i_X11_nextEar (Or.inl ⟨_, _, _, _, _, (by first | with_reducible assumption | rfl), by rfl⟩) (by omega) (Nat.le_of_ble_eq_true rfl) (hx) (fun y M2 N2 hy => ?_)
  obtain ⟨rfl, hW2⟩ := hy
  rw [val_I v]
  have hv := i32_to v
  unfold i32 at hv
  refine st_icmp_eq (tgt := 1176) dL_law_977 (by omega) (by omega) rfl (fun c1 => ?_) (fun c1 => ?_)
  · skip
    exact kk M2 N2 hW2
  · skip
    exact absurd rfl c1
theorem LW_26 {G : q_G} {d : Nat} {M : q_Mem} {N : q_MemL} {i : Nat} (hd : 21 ≤ d) (hW : WI M) (hi : i + 6 ≤ G.2.2.2.2.2.1) (hL : G.2.2.2.2.2.1 ≤ 3072) (kk : ∀ M2 N2, WI M2 → AW0 G d m_law 1176 (lawL i) [] M2 N2 lawQ) : AW0 G d m_law 982 (lawL i) [] M N lawQ := by
  refine st_aload_n dL_law_982 rfl ?_
  refine st_aload_n dL_law_983 rfl ?_
  refine st_iload_n dL_law_984 rfl ?_
  refine st_iconst dL_law_985 ?_
  refine st_iadd dL_law_986 ?_
  refine st_sld dL_law_987 (by omega) (by omega) (by omega) ?_
  refine c_V1i (d' := d - 1) dL_law_988 l_L_122 k_X10_fire i_X10_fire (Or.inl ⟨_, _, _, _, _, (by first | with_reducible assumption | rfl), by rfl⟩) (by omega) (Nat.le_of_ble_eq_true rfl) (P_fire (by omega) hW (i32_to _)) (fun x M1 N1 hx => ?_)
  obtain ⟨v, rfl, hx⟩ := hx
  refine st_aload_n dL_law_991 rfl ?_
  refine st_aload_n dL_law_992 rfl ?_
  refine st_iload_n dL_law_993 rfl ?_
  refine st_iconst dL_law_994 ?_
  refine st_iadd dL_law_995 ?_
  refine st_sld dL_law_996 (by omega) (by omega) (by omega) ?_
  refine c_V1i (d' := d - 1) dL_law_997 l_L_125 k_X11_fire i_X11_fire (Or.inl ⟨_, _, _, _, _, (by first | with_reducible assumption | rfl), by rfl⟩) (by omega) (Nat.le_of_ble_eq_true rfl) (hx) (fun y M2 N2 hy => ?_)
  obtain ⟨rfl, hW2⟩ := hy
  rw [val_I v]
  have hv := i32_to v
  unfold i32 at hv
  refine st_icmp_eq (tgt := 1176) dL_law_1000 (by omega) (by omega) rfl (fun c1 => ?_) (fun c1 => ?_)
  · skip
    exact kk M2 N2 hW2
  · skip
    exact absurd rfl c1
theorem LW_27 {G : q_G} {d : Nat} {M : q_Mem} {N : q_MemL} {i : Nat} (hd : 21 ≤ d) (hW : WI M) (hi : i + 6 ≤ G.2.2.2.2.2.1) (hL : G.2.2.2.2.2.1 ≤ 3072) (kk : ∀ M2 N2, WI M2 → AW0 G d m_law 1176 (lawL i) [] M2 N2 lawQ) : AW0 G d m_law 1005 (lawL i) [] M N lawQ := by
  refine st_aload_n dL_law_1005 rfl ?_
  refine st_aload_n dL_law_1006 rfl ?_
  refine st_iload_n dL_law_1007 rfl ?_
  refine st_iconst dL_law_1008 ?_
  refine st_iadd dL_law_1009 ?_
  refine st_sld dL_law_1010 (by omega) (by omega) (by omega) ?_
  refine c_V1i (d' := d - 1) dL_law_1011 l_L_126 k_X10_rent i_X10_rent (Or.inl ⟨_, _, _, _, _, (by first | with_reducible assumption | rfl), by rfl⟩) (by omega) (Nat.le_of_ble_eq_true rfl) (P_rent (by omega) hW (i32_to _)) (fun x M1 N1 hx => ?_)
  obtain ⟨v, rfl, hx⟩ := hx
  refine st_aload_n dL_law_1014 rfl ?_
  refine st_aload_n dL_law_1015 rfl ?_
  refine st_iload_n dL_law_1016 rfl ?_
  refine st_iconst dL_law_1017 ?_
  refine st_iadd dL_law_1018 ?_
  refine st_sld dL_law_1019 (by omega) (by omega) (by omega) ?_
  refine c_V1i (d' := d - 1) dL_law_1020 l_L_129 k_X11_rent i_X11_rent (Or.inl ⟨_, _, _, _, _, (by first | with_reducible assumption | rfl), by rfl⟩) (by omega) (Nat.le_of_ble_eq_true rfl) (hx) (fun y M2 N2 hy => ?_)
  obtain ⟨rfl, hW2⟩ := hy
  rw [val_I v]
  have hv := i32_to v
  unfold i32 at hv
  refine st_icmp_eq (tgt := 1176) dL_law_1023 (by omega) (by omega) rfl (fun c1 => ?_) (fun c1 => ?_)
  · skip
    exact kk M2 N2 hW2
  · skip
    exact absurd rfl c1
theorem LW_28 {G : q_G} {d : Nat} {M : q_Mem} {N : q_MemL} {i : Nat} (hd : 21 ≤ d) (hW : WI M) (hi : i + 6 ≤ G.2.2.2.2.2.1) (hL : G.2.2.2.2.2.1 ≤ 3072) (kk : ∀ M2 N2, WI M2 → AW0 G d m_law 1176 (lawL i) [] M2 N2 lawQ) : AW0 G d m_law 1028 (lawL i) [] M N lawQ := by
  refine st_aload_n dL_law_1028 rfl ?_
  refine c_V0i (d' := d - 1) dL_law_1029 l_L_130 k_X10_highest i_X10_highest (Or.inl ⟨_, _, _, _, _, (by first | with_reducible assumption | rfl), by rfl⟩) (by omega) (Nat.le_of_ble_eq_true rfl) (P_highest (by omega) hW) (fun x M1 N1 hx => ?_)
  obtain ⟨v, rfl, hx⟩ := hx
  refine st_aload_n dL_law_1032 rfl ?_
  refine c_V0i (d' := d - 1) dL_law_1033 l_L_133 k_X11_highest i_X11_highest (Or.inl ⟨_, _, _, _, _, (by first | with_reducible assumption | rfl), by rfl⟩) (by omega) (Nat.le_of_ble_eq_true rfl) (hx) (fun y M2 N2 hy => ?_)
  obtain ⟨rfl, hW2⟩ := hy
  rw [val_I v]
  have hv := i32_to v
  unfold i32 at hv
  refine st_icmp_eq (tgt := 1176) dL_law_1036 (by omega) (by omega) rfl (fun c1 => ?_) (fun c1 => ?_)
  · skip
    exact kk M2 N2 hW2
  · skip
    exact absurd rfl c1
theorem LW_29 {G : q_G} {d : Nat} {M : q_Mem} {N : q_MemL} {i : Nat} (hd : 21 ≤ d) (hW : WI M) (hi : i + 6 ≤ G.2.2.2.2.2.1) (hL : G.2.2.2.2.2.1 ≤ 3072) (kk : ∀ M2 N2, WI M2 → AW0 G d m_law 1176 (lawL i) [] M2 N2 lawQ) : AW0 G d m_law 1041 (lawL i) [] M N lawQ := by
  refine st_aload_n dL_law_1041 rfl ?_
  refine st_aload_n dL_law_1042 rfl ?_
  refine st_iload_n dL_law_1043 rfl ?_
  refine st_iconst dL_law_1044 ?_
  refine st_iadd dL_law_1045 ?_
  refine st_sld dL_law_1046 (by omega) (by omega) (by omega) ?_
  refine c_V1i (d' := d - 1) dL_law_1047 l_L_134 k_X10_seed i_X10_seed (Or.inl ⟨_, _, _, _, _, (by first | with_reducible assumption | rfl), by rfl⟩) (by omega) (Nat.le_of_ble_eq_true rfl) (P_seed (by omega) hW (i32_to _)) (fun x M1 N1 hx => ?_)
  obtain ⟨v, rfl, hx⟩ := hx
  refine st_aload_n dL_law_1050 rfl ?_
  refine st_aload_n dL_law_1051 rfl ?_
  refine st_iload_n dL_law_1052 rfl ?_
  refine st_iconst dL_law_1053 ?_
  refine st_iadd dL_law_1054 ?_
  refine st_sld dL_law_1055 (by omega) (by omega) (by omega) ?_
  refine c_V1i (d' := d - 1) dL_law_1056 l_L_137 k_X11_seed i_X11_seed (Or.inl ⟨_, _, _, _, _, (by first | with_reducible assumption | rfl), by rfl⟩) (by omega) (Nat.le_of_ble_eq_true rfl) (hx) (fun y M2 N2 hy => ?_)
  obtain ⟨rfl, hW2⟩ := hy
  rw [val_I v]
  have hv := i32_to v
  unfold i32 at hv
  refine st_icmp_eq (tgt := 1176) dL_law_1059 (by omega) (by omega) rfl (fun c1 => ?_) (fun c1 => ?_)
  · skip
    exact kk M2 N2 hW2
  · skip
    exact absurd rfl c1
theorem LW_30 {G : q_G} {d : Nat} {M : q_Mem} {N : q_MemL} {i : Nat} (hd : 21 ≤ d) (hW : WI M) (hi : i + 6 ≤ G.2.2.2.2.2.1) (hL : G.2.2.2.2.2.1 ≤ 3072) (kk : ∀ M2 N2, WI M2 → AW0 G d m_law 1176 (lawL i) [] M2 N2 lawQ) : AW0 G d m_law 1064 (lawL i) [] M N lawQ := by
  refine st_aload_n dL_law_1064 rfl ?_
  refine st_aload_n dL_law_1065 rfl ?_
  refine st_iload_n dL_law_1066 rfl ?_
  refine st_iconst dL_law_1067 ?_
  refine st_iadd dL_law_1068 ?_
  refine st_sld dL_law_1069 (by omega) (by omega) (by omega) ?_
  refine st_aload_n dL_law_1070 rfl ?_
  refine st_iload_n dL_law_1071 rfl ?_
  refine st_iconst dL_law_1072 ?_
  refine st_iadd dL_law_1073 ?_
  refine st_sld dL_law_1074 (by omega) (by omega) (by omega) ?_
  refine st_aload_n dL_law_1075 rfl ?_
  refine st_iload_n dL_law_1076 rfl ?_
  refine st_iconst dL_law_1077 ?_
  refine st_iadd dL_law_1078 ?_
  refine st_sld dL_law_1079 (by omega) (by omega) (by omega) ?_
  refine c_V3i (d' := d - 1) dL_law_1080 l_L_138 k_X10_drawn i_X10_drawn (Or.inl ⟨_, _, _, _, _, (by first | with_reducible assumption | rfl), by rfl⟩) (by omega) (Nat.le_of_ble_eq_true rfl) (P_drawn (by omega) hW (i32_to _) (i32_to _) (i32_to _)) (fun x M1 N1 hx => ?_)
  obtain ⟨v, rfl, hx⟩ := hx
  refine st_aload_n dL_law_1083 rfl ?_
  refine st_aload_n dL_law_1084 rfl ?_
  refine st_iload_n dL_law_1085 rfl ?_
  refine st_iconst dL_law_1086 ?_
  refine st_iadd dL_law_1087 ?_
  refine st_sld dL_law_1088 (by omega) (by omega) (by omega) ?_
  refine st_aload_n dL_law_1089 rfl ?_
  refine st_iload_n dL_law_1090 rfl ?_
  refine st_iconst dL_law_1091 ?_
  refine st_iadd dL_law_1092 ?_
  refine st_sld dL_law_1093 (by omega) (by omega) (by omega) ?_
  refine st_aload_n dL_law_1094 rfl ?_
  refine st_iload_n dL_law_1095 rfl ?_
  refine st_iconst dL_law_1096 ?_
  refine st_iadd dL_law_1097 ?_
  refine st_sld dL_law_1098 (by omega) (by omega) (by omega) ?_
  refine c_V3i (d' := d - 1) dL_law_1099 l_L_141 k_X11_drawn i_X11_drawn (Or.inl ⟨_, _, _, _, _, (by first | with_reducible assumption | rfl), by rfl⟩) (by omega) (Nat.le_of_ble_eq_true rfl) (hx) (fun y M2 N2 hy => ?_)
  obtain ⟨rfl, hW2⟩ := hy
  rw [val_I v]
  have hv := i32_to v
  unfold i32 at hv
  refine st_icmp_eq (tgt := 1176) dL_law_1102 (by omega) (by omega) rfl (fun c1 => ?_) (fun c1 => ?_)
  · skip
    exact kk M2 N2 hW2
  · skip
    exact absurd rfl c1
theorem LW_31 {G : q_G} {d : Nat} {M : q_Mem} {N : q_MemL} {i : Nat} (hd : 21 ≤ d) (hW : WI M) (hi : i + 6 ≤ G.2.2.2.2.2.1) (hL : G.2.2.2.2.2.1 ≤ 3072) (kk : ∀ M2 N2, WI M2 → AW0 G d m_law 1176 (lawL i) [] M2 N2 lawQ) : AW0 G d m_law 1107 (lawL i) [] M N lawQ := by
  refine st_aload_n dL_law_1107 rfl ?_
  refine st_aload_n dL_law_1108 rfl ?_
  refine st_iload_n dL_law_1109 rfl ?_
  refine st_iconst dL_law_1110 ?_
  refine st_iadd dL_law_1111 ?_
  refine st_sld dL_law_1112 (by omega) (by omega) (by omega) ?_
  refine c_V1i (d' := d - 1) dL_law_1113 l_L_142 k_X10_count i_X10_count (Or.inl ⟨_, _, _, _, _, (by first | with_reducible assumption | rfl), by rfl⟩) (by omega) (Nat.le_of_ble_eq_true rfl) (P_count (by omega) hW (i32_to _)) (fun x M1 N1 hx => ?_)
  obtain ⟨v, rfl, hx⟩ := hx
  refine st_aload_n dL_law_1116 rfl ?_
  refine st_aload_n dL_law_1117 rfl ?_
  refine st_iload_n dL_law_1118 rfl ?_
  refine st_iconst dL_law_1119 ?_
  refine st_iadd dL_law_1120 ?_
  refine st_sld dL_law_1121 (by omega) (by omega) (by omega) ?_
  refine c_V1i (d' := d - 1) dL_law_1122 l_L_145 k_X11_count i_X11_count (Or.inl ⟨_, _, _, _, _, (by first | with_reducible assumption | rfl), by rfl⟩) (by omega) (Nat.le_of_ble_eq_true rfl) (hx) (fun y M2 N2 hy => ?_)
  obtain ⟨rfl, hW2⟩ := hy
  rw [val_I v]
  have hv := i32_to v
  unfold i32 at hv
  refine st_icmp_eq (tgt := 1176) dL_law_1125 (by omega) (by omega) rfl (fun c1 => ?_) (fun c1 => ?_)
  · skip
    exact kk M2 N2 hW2
  · skip
    exact absurd rfl c1
theorem LW_32 {G : q_G} {d : Nat} {M : q_Mem} {N : q_MemL} {i : Nat} (hd : 21 ≤ d) (hW : WI M) (hi : i + 6 ≤ G.2.2.2.2.2.1) (hL : G.2.2.2.2.2.1 ≤ 3072) (kk : ∀ M2 N2, WI M2 → AW0 G d m_law 1176 (lawL i) [] M2 N2 lawQ) : AW0 G d m_law 1130 (lawL i) [] M N lawQ := by
  refine st_aload_n dL_law_1130 rfl ?_
  refine st_aload_n dL_law_1131 rfl ?_
  refine st_iload_n dL_law_1132 rfl ?_
  refine st_iconst dL_law_1133 ?_
  refine st_iadd dL_law_1134 ?_
  refine st_sld dL_law_1135 (by omega) (by omega) (by omega) ?_
  refine c_V1i (d' := d - 1) dL_law_1136 l_L_146 k_X10_image i_X10_image (Or.inl ⟨_, _, _, _, _, (by first | with_reducible assumption | rfl), by rfl⟩) (by omega) (Nat.le_of_ble_eq_true rfl) (P_image (by omega) hW (i32_to _)) (fun x M1 N1 hx => ?_)
  obtain ⟨v, rfl, hx⟩ := hx
  refine st_aload_n dL_law_1139 rfl ?_
  refine st_aload_n dL_law_1140 rfl ?_
  refine st_iload_n dL_law_1141 rfl ?_
  refine st_iconst dL_law_1142 ?_
  refine st_iadd dL_law_1143 ?_
  refine st_sld dL_law_1144 (by omega) (by omega) (by omega) ?_
  refine c_V1i (d' := d - 1) dL_law_1145 l_L_149 k_X11_image i_X11_image (Or.inl ⟨_, _, _, _, _, (by first | with_reducible assumption | rfl), by rfl⟩) (by omega) (Nat.le_of_ble_eq_true rfl) (hx) (fun y M2 N2 hy => ?_)
  obtain ⟨rfl, hW2⟩ := hy
  rw [val_I v]
  have hv := i32_to v
  unfold i32 at hv
  refine st_icmp_eq (tgt := 1176) dL_law_1148 (by omega) (by omega) rfl (fun c1 => ?_) (fun c1 => ?_)
  · skip
    exact kk M2 N2 hW2
  · skip
    exact absurd rfl c1
theorem LW_33 {G : q_G} {d : Nat} {M : q_Mem} {N : q_MemL} {i : Nat} (hd : 21 ≤ d) (hW : WI M) (hi : i + 6 ≤ G.2.2.2.2.2.1) (hL : G.2.2.2.2.2.1 ≤ 3072) (kk : ∀ M2 N2, WI M2 → AW0 G d m_law 1176 (lawL i) [] M2 N2 lawQ) : AW0 G d m_law 1153 (lawL i) [] M N lawQ := by
  refine st_aload_n dL_law_1153 rfl ?_
  refine st_aload_n dL_law_1154 rfl ?_
  refine st_iload_n dL_law_1155 rfl ?_
  refine st_iconst dL_law_1156 ?_
  refine st_iadd dL_law_1157 ?_
  refine st_sld dL_law_1158 (by omega) (by omega) (by omega) ?_
  refine c_V1i (d' := d - 1) dL_law_1159 l_L_150 k_X10_back i_X10_back (Or.inl ⟨_, _, _, _, _, (by first | with_reducible assumption | rfl), by rfl⟩) (by omega) (Nat.le_of_ble_eq_true rfl) (P_back (by omega) hW (i32_to _)) (fun x M1 N1 hx => ?_)
  obtain ⟨v, rfl, hx⟩ := hx
  refine st_aload_n dL_law_1162 rfl ?_
  refine st_aload_n dL_law_1163 rfl ?_
  refine st_iload_n dL_law_1164 rfl ?_
  refine st_iconst dL_law_1165 ?_
  refine st_iadd dL_law_1166 ?_
  refine st_sld dL_law_1167 (by omega) (by omega) (by omega) ?_
  refine c_V1i (d' := d - 1) dL_law_1168 l_L_153 k_X11_back i_X11_back (Or.inl ⟨_, _, _, _, _, (by first | with_reducible assumption | rfl), by rfl⟩) (by omega) (Nat.le_of_ble_eq_true rfl) (hx) (fun y M2 N2 hy => ?_)
  obtain ⟨rfl, hW2⟩ := hy
  rw [val_I v]
  have hv := i32_to v
  unfold i32 at hv
  refine st_icmp_eq (tgt := 1176) dL_law_1171 (by omega) (by omega) rfl (fun c1 => ?_) (fun c1 => ?_)
  · skip
    exact kk M2 N2 hW2
  · skip
    exact absurd rfl c1
theorem LW_loop {G : q_G} {d : Nat} (hd : 21 ≤ d) (hL : G.2.2.2.2.2.1 ≤ 3072) : ∀ (m i : Nat) (M : q_Mem) (N : q_MemL), G.2.2.2.2.2.1 < i + m → i ≤ 4000 → WI M → AW0 G d m_law 18 (lawL i) [] M N lawQ := by
  intro m
  induction m with
  | zero =>
    intro i M N hm hi4 hW
    refine st_iload_n dL_law_18 rfl ?_
    refine st_aload_n dL_law_19 rfl ?_
    refine st_slen dL_law_20 ?_
    refine st_bipush dL_law_21 (by decide) ?_
    refine st_isub dL_law_23 ?_
    refine st_icmp_gt (tgt := 1182) dL_law_24 (by omega) (by omega) rfl (fun c1 => ?_) (fun c1 => ?_)
    · refine st_iconst dL_law_1182 ?_
      exact r_z dL_law_1183 rfl (Or.inr rfl) rfl
    · skip
      omega
  | succ m ih =>
    intro i M N hm hi4 hW
    refine st_iload_n dL_law_18 rfl ?_
    refine st_aload_n dL_law_19 rfl ?_
    refine st_slen dL_law_20 ?_
    refine st_bipush dL_law_21 (by decide) ?_
    refine st_isub dL_law_23 ?_
    refine st_icmp_gt (tgt := 1182) dL_law_24 (by omega) (by omega) rfl (fun c1 => ?_) (fun c1 => ?_)
    · refine st_iconst dL_law_1182 ?_
      exact r_z dL_law_1183 rfl (Or.inr rfl) rfl
    · refine st_aload_n dL_law_27 rfl ?_
      refine st_iload_n dL_law_28 rfl ?_
      refine st_sld dL_law_29 (by omega) (by omega) (by omega) ?_
      refine st_bipush dL_law_30 (by decide) ?_
      refine st_iand dL_law_32 ?_
      rw [z_63]
      have hnx : ∀ M2 N2, WI M2 → AW0 G d m_law 1176 (lawL i) [] M2 N2 lawQ := by
        intro M2 N2 hW2
        refine st_iinc (L' := [_, _, _, _]) dL_law_1176 rfl (by decide) rfl rfl ?_
        refine st_goto (tgt := 18) dL_law_1179 rfl ?_
        exact AW.to (ih (i + 6) M2 N2 (by omega) (by omega) hW2) (h2 := by simp)
      have hz := Int.emod_nonneg ((G.2.2.2.2.2.2 ((i : Int)).toNat).toInt) (show (64 : Int) ≠ 0 by decide)
      have hz2 := Int.emod_lt_of_pos ((G.2.2.2.2.2.2 ((i : Int)).toNat).toInt) (show (0 : Int) < 64 by decide)
      generalize (G.2.2.2.2.2.2 ((i : Int)).toNat).toInt % 64 = z at *
      by_cases hz3 : z < 34
      · have hc : z = 0 ∨ z = 1 ∨ z = 2 ∨ z = 3 ∨ z = 4 ∨ z = 5 ∨ z = 6 ∨ z = 7 ∨ z = 8 ∨ z = 9 ∨ z = 10 ∨ z = 11 ∨ z = 12 ∨ z = 13 ∨ z = 14 ∨ z = 15 ∨ z = 16 ∨ z = 17 ∨ z = 18 ∨ z = 19 ∨ z = 20 ∨ z = 21 ∨ z = 22 ∨ z = 23 ∨ z = 24 ∨ z = 25 ∨ z = 26 ∨ z = 27 ∨ z = 28 ∨ z = 29 ∨ z = 30 ∨ z = 31 ∨ z = 32 ∨ z = 33 := by omega
        rcases hc with rfl | rfl | rfl | rfl | rfl | rfl | rfl | rfl | rfl | rfl | rfl | rfl | rfl | rfl | rfl | rfl | rfl | rfl | rfl | rfl | rfl | rfl | rfl | rfl | rfl | rfl | rfl | rfl | rfl | rfl | rfl | rfl | rfl | rfl
        · skip
          refine st_tsIn (off := 151) (tgt := 184) dL_law_33 (by decide) (by decide) (by decide) rfl rfl ?_
          exact LW_0 hd hW (by omega) hL hnx
        · skip
          refine st_tsIn (off := 214) (tgt := 247) dL_law_33 (by decide) (by decide) (by decide) rfl rfl ?_
          exact LW_1 hd hW (by omega) hL hnx
        · skip
          refine st_tsIn (off := 237) (tgt := 270) dL_law_33 (by decide) (by decide) (by decide) rfl rfl ?_
          exact LW_2 hd hW (by omega) hL hnx
        · skip
          refine st_tsIn (off := 250) (tgt := 283) dL_law_33 (by decide) (by decide) (by decide) rfl rfl ?_
          exact LW_3 hd hW (by omega) hL hnx
        · skip
          refine st_tsIn (off := 263) (tgt := 296) dL_law_33 (by decide) (by decide) (by decide) rfl rfl ?_
          exact LW_4 hd hW (by omega) hL hnx
        · skip
          refine st_tsIn (off := 296) (tgt := 329) dL_law_33 (by decide) (by decide) (by decide) rfl rfl ?_
          exact LW_5 hd hW (by omega) hL hnx
        · skip
          refine st_tsIn (off := 329) (tgt := 362) dL_law_33 (by decide) (by decide) (by decide) rfl rfl ?_
          exact LW_6 hd hW (by omega) hL hnx
        · skip
          refine st_tsIn (off := 352) (tgt := 385) dL_law_33 (by decide) (by decide) (by decide) rfl rfl ?_
          exact LW_7 hd hW (by omega) hL hnx
        · skip
          refine st_tsIn (off := 385) (tgt := 418) dL_law_33 (by decide) (by decide) (by decide) rfl rfl ?_
          exact LW_8 hd hW (by omega) hL hnx
        · skip
          refine st_tsIn (off := 398) (tgt := 431) dL_law_33 (by decide) (by decide) (by decide) rfl rfl ?_
          exact LW_9 hd hW (by omega) hL hnx
        · skip
          refine st_tsIn (off := 431) (tgt := 464) dL_law_33 (by decide) (by decide) (by decide) rfl rfl ?_
          exact LW_10 hd hW (by omega) hL hnx
        · skip
          refine st_tsIn (off := 474) (tgt := 507) dL_law_33 (by decide) (by decide) (by decide) rfl rfl ?_
          exact LW_11 hd hW (by omega) hL hnx
        · skip
          refine st_tsIn (off := 507) (tgt := 540) dL_law_33 (by decide) (by decide) (by decide) rfl rfl ?_
          exact LW_12 hd hW (by omega) hL hnx
        · skip
          refine st_tsIn (off := 540) (tgt := 573) dL_law_33 (by decide) (by decide) (by decide) rfl rfl ?_
          exact LW_13 hd hW (by omega) hL hnx
        · skip
          refine st_tsIn (off := 553) (tgt := 586) dL_law_33 (by decide) (by decide) (by decide) rfl rfl ?_
          exact LW_14 hd hW (by omega) hL hnx
        · skip
          refine st_tsIn (off := 586) (tgt := 619) dL_law_33 (by decide) (by decide) (by decide) rfl rfl ?_
          exact LW_15 hd hW (by omega) hL hnx
        · skip
          refine st_tsIn (off := 619) (tgt := 652) dL_law_33 (by decide) (by decide) (by decide) rfl rfl ?_
          exact LW_16 hd hW (by omega) hL hnx
        · skip
          refine st_tsIn (off := 642) (tgt := 675) dL_law_33 (by decide) (by decide) (by decide) rfl rfl ?_
          exact LW_17 hd hW (by omega) hL hnx
        · skip
          refine st_tsIn (off := 685) (tgt := 718) dL_law_33 (by decide) (by decide) (by decide) rfl rfl ?_
          exact LW_18 hd hW (by omega) hL hnx
        · skip
          refine st_tsIn (off := 728) (tgt := 761) dL_law_33 (by decide) (by decide) (by decide) rfl rfl ?_
          exact LW_19 hd hW (by omega) hL hnx
        · skip
          refine st_tsIn (off := 751) (tgt := 784) dL_law_33 (by decide) (by decide) (by decide) rfl rfl ?_
          exact LW_20 hd hW (by omega) hL hnx
        · skip
          refine st_tsIn (off := 784) (tgt := 817) dL_law_33 (by decide) (by decide) (by decide) rfl rfl ?_
          exact LW_21 hd hW (by omega) hL hnx
        · skip
          refine st_tsIn (off := 827) (tgt := 860) dL_law_33 (by decide) (by decide) (by decide) rfl rfl ?_
          exact LW_22 hd hW (by omega) hL hnx
        · skip
          refine st_tsIn (off := 860) (tgt := 893) dL_law_33 (by decide) (by decide) (by decide) rfl rfl ?_
          exact LW_23 hd hW (by omega) hL hnx
        · skip
          refine st_tsIn (off := 903) (tgt := 936) dL_law_33 (by decide) (by decide) (by decide) rfl rfl ?_
          exact LW_24 hd hW (by omega) hL hnx
        · skip
          refine st_tsIn (off := 926) (tgt := 959) dL_law_33 (by decide) (by decide) (by decide) rfl rfl ?_
          exact LW_25 hd hW (by omega) hL hnx
        · skip
          refine st_tsIn (off := 949) (tgt := 982) dL_law_33 (by decide) (by decide) (by decide) rfl rfl ?_
          exact LW_26 hd hW (by omega) hL hnx
        · skip
          refine st_tsIn (off := 972) (tgt := 1005) dL_law_33 (by decide) (by decide) (by decide) rfl rfl ?_
          exact LW_27 hd hW (by omega) hL hnx
        · skip
          refine st_tsIn (off := 995) (tgt := 1028) dL_law_33 (by decide) (by decide) (by decide) rfl rfl ?_
          exact LW_28 hd hW (by omega) hL hnx
        · skip
          refine st_tsIn (off := 1008) (tgt := 1041) dL_law_33 (by decide) (by decide) (by decide) rfl rfl ?_
          exact LW_29 hd hW (by omega) hL hnx
        · skip
          refine st_tsIn (off := 1031) (tgt := 1064) dL_law_33 (by decide) (by decide) (by decide) rfl rfl ?_
          exact LW_30 hd hW (by omega) hL hnx
        · skip
          refine st_tsIn (off := 1074) (tgt := 1107) dL_law_33 (by decide) (by decide) (by decide) rfl rfl ?_
          exact LW_31 hd hW (by omega) hL hnx
        · skip
          refine st_tsIn (off := 1097) (tgt := 1130) dL_law_33 (by decide) (by decide) (by decide) rfl rfl ?_
          exact LW_32 hd hW (by omega) hL hnx
        · skip
          refine st_tsIn (off := 1120) (tgt := 1153) dL_law_33 (by decide) (by decide) (by decide) rfl rfl ?_
          exact LW_33 hd hW (by omega) hL hnx
      · skip
        refine st_tsOut (tgt := 1176) dL_law_33 (by omega) (by omega) rfl ?_
        exact hnx M N hW


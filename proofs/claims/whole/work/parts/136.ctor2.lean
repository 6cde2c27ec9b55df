/-! the constructors: the reference -/
set_option maxRecDepth 100000 in
set_option maxHeartbeats 40000000 in
theorem N_X11 {G : q_G} {d : Nat} {P : q_Sh} {M : q_Mem} {N : q_MemL} (hd : 1 ≤ d) (ha : P.length = 112) (hM : ∀ r j, 112 < r → M r j = 0) (hN : ∀ r j, 112 < r → N r j = 0) : AC G d m_X11_init [.ref 112] (P ++ [(11, 82, [.int 0, .null, .null, .null, .null, .null, .null, .null, .null, .null, .null, .null, .null, .null, .null, .null, .null, .null, .null, .null, .int 0, .int 0, .int 0, .int 0, .int 0, .int 0, .int 0, .int 0, .int 0, .int 0, .null, .null, .null, .null, .null, .null, .null, .null, .null, .null, .null, .null, .null, .null, .null, .int 0, .int 0, .int 0, .null, .null, .null, .int 0, .int 0, .null, .null, .int 0, .int 0, .int 0, .null, .null, .null, .int 0, .int 0, .int 0, .null, .int 0, .null, .null, .null, .null, .int 0, .null, .null, .int 0, .null, .null, .int 0, .null, .null, .null, .int 0, .int 0])]) M N 54 22741 (fun v S1 M1 N1 => v = none ∧ S1 = P ++ S0.drop 112 ∧ M1 = q_up M 112 29 11 ∧ N1 = N) := by
  refine AC.of (L0 := [some (.ref 112)]) pn_X11 (Nat.le_of_ble_eq_true rfl) rfl ?_
  refine st_aload_n dX11_init_0 rfl ?_
  refine st_objInit dX11_init_1 l_X11_3 o_inst o_code hd (Nat.le_of_ble_eq_true rfl) ?_
  refine st_aload_n dX11_init_4 rfl ?_
  refine st_bipush dX11_init_5 (by decide) ?_
  refine k_newi (a := 112) (r := 113) dX11_init_7 ha rfl (by omega) (fun j => hM _ j (by omega)) (Nat.le_of_ble_eq_true rfl) ?_
  refine k_putf (a := 112) dX11_init_9 v_X11_9 rfl ha rfl (fun _ => rfl) (fun _ => rfl) ?_
  refine st_aload_n dX11_init_12 rfl ?_
  refine st_bipush dX11_init_13 (by decide) ?_
  refine k_newi (a := 112) (r := 114) dX11_init_15 ha rfl (by omega) (fun j => hM _ j (by omega)) (Nat.le_of_ble_eq_true rfl) ?_
  refine k_putf (a := 112) dX11_init_17 v_X11_13 rfl ha rfl (fun _ => rfl) (fun _ => rfl) ?_
  refine st_aload_n dX11_init_20 rfl ?_
  refine st_bipush dX11_init_21 (by decide) ?_
  refine k_newi (a := 112) (r := 115) dX11_init_23 ha rfl (by omega) (fun j => hM _ j (by omega)) (Nat.le_of_ble_eq_true rfl) ?_
  refine k_putf (a := 112) dX11_init_25 v_X11_16 rfl ha rfl (fun _ => rfl) (fun _ => rfl) ?_
  refine st_aload_n dX11_init_28 rfl ?_
  refine st_bipush dX11_init_29 (by decide) ?_
  refine k_newi (a := 112) (r := 116) dX11_init_31 ha rfl (by omega) (fun j => hM _ j (by omega)) (Nat.le_of_ble_eq_true rfl) ?_
  refine k_putf (a := 112) dX11_init_33 v_X11_19 rfl ha rfl (fun _ => rfl) (fun _ => rfl) ?_
  refine st_aload_n dX11_init_36 rfl ?_
  refine st_bipush dX11_init_37 (by decide) ?_
  refine k_newi (a := 112) (r := 117) dX11_init_39 ha rfl (by omega) (fun j => hM _ j (by omega)) (Nat.le_of_ble_eq_true rfl) ?_
  refine k_putf (a := 112) dX11_init_41 v_X11_22 rfl ha rfl (fun _ => rfl) (fun _ => rfl) ?_
  refine st_aload_n dX11_init_44 rfl ?_
  refine st_bipush dX11_init_45 (by decide) ?_
  refine k_newi (a := 112) (r := 118) dX11_init_47 ha rfl (by omega) (fun j => hM _ j (by omega)) (Nat.le_of_ble_eq_true rfl) ?_
  refine k_putf (a := 112) dX11_init_49 v_X11_25 rfl ha rfl (fun _ => rfl) (fun _ => rfl) ?_
  refine st_aload_n dX11_init_52 rfl ?_
  refine st_iconst dX11_init_53 ?_
  refine k_newi (a := 112) (r := 119) dX11_init_54 ha rfl (by omega) (fun j => hM _ j (by omega)) (Nat.le_of_ble_eq_true rfl) ?_
  refine k_putf (a := 112) dX11_init_56 v_X11_28 rfl ha rfl (fun _ => rfl) (fun _ => rfl) ?_
  refine st_aload_n dX11_init_59 rfl ?_
  refine st_iconst dX11_init_60 ?_
  refine k_newi (a := 112) (r := 120) dX11_init_61 ha rfl (by omega) (fun j => hM _ j (by omega)) (Nat.le_of_ble_eq_true rfl) ?_
  refine k_putf (a := 112) dX11_init_63 v_X11_31 rfl ha rfl (fun _ => rfl) (fun _ => rfl) ?_
  refine st_aload_n dX11_init_66 rfl ?_
  refine st_iconst dX11_init_67 ?_
  refine k_newi (a := 112) (r := 121) dX11_init_68 ha rfl (by omega) (fun j => hM _ j (by omega)) (Nat.le_of_ble_eq_true rfl) ?_
  refine k_putf (a := 112) dX11_init_70 v_X11_34 rfl ha rfl (fun _ => rfl) (fun _ => rfl) ?_
  refine st_aload_n dX11_init_73 rfl ?_
  refine st_bipush dX11_init_74 (by decide) ?_
  refine k_newi (a := 112) (r := 122) dX11_init_76 ha rfl (by omega) (fun j => hM _ j (by omega)) (Nat.le_of_ble_eq_true rfl) ?_
  refine k_putf (a := 112) dX11_init_78 v_X11_37 rfl ha rfl (fun _ => rfl) (fun _ => rfl) ?_
  refine st_aload_n dX11_init_81 rfl ?_
  refine st_bipush dX11_init_82 (by decide) ?_
  refine k_newi (a := 112) (r := 123) dX11_init_84 ha rfl (by omega) (fun j => hM _ j (by omega)) (Nat.le_of_ble_eq_true rfl) ?_
  refine k_putf (a := 112) dX11_init_86 v_X11_40 rfl ha rfl (fun _ => rfl) (fun _ => rfl) ?_
  refine st_aload_n dX11_init_89 rfl ?_
  refine st_bipush dX11_init_90 (by decide) ?_
  refine k_newi (a := 112) (r := 124) dX11_init_92 ha rfl (by omega) (fun j => hM _ j (by omega)) (Nat.le_of_ble_eq_true rfl) ?_
  refine k_putf (a := 112) dX11_init_94 v_X11_43 rfl ha rfl (fun _ => rfl) (fun _ => rfl) ?_
  refine st_aload_n dX11_init_97 rfl ?_
  refine st_bipush dX11_init_98 (by decide) ?_
  refine k_newi (a := 112) (r := 125) dX11_init_100 ha rfl (by omega) (fun j => hM _ j (by omega)) (Nat.le_of_ble_eq_true rfl) ?_
  refine k_putf (a := 112) dX11_init_102 v_X11_46 rfl ha rfl (fun _ => rfl) (fun _ => rfl) ?_
  refine st_aload_n dX11_init_105 rfl ?_
  refine st_bipush dX11_init_106 (by decide) ?_
  refine k_newi (a := 112) (r := 126) dX11_init_108 ha rfl (by omega) (fun j => hM _ j (by omega)) (Nat.le_of_ble_eq_true rfl) ?_
  refine k_putf (a := 112) dX11_init_110 v_X11_49 rfl ha rfl (fun _ => rfl) (fun _ => rfl) ?_
  refine st_aload_n dX11_init_113 rfl ?_
  refine st_bipush dX11_init_114 (by decide) ?_
  refine k_newi (a := 112) (r := 127) dX11_init_116 ha rfl (by omega) (fun j => hM _ j (by omega)) (Nat.le_of_ble_eq_true rfl) ?_
  refine k_putf (a := 112) dX11_init_118 v_X11_52 rfl ha rfl (fun _ => rfl) (fun _ => rfl) ?_
  refine st_aload_n dX11_init_121 rfl ?_
  refine st_bipush dX11_init_122 (by decide) ?_
  refine k_newi (a := 112) (r := 128) dX11_init_124 ha rfl (by omega) (fun j => hM _ j (by omega)) (Nat.le_of_ble_eq_true rfl) ?_
  refine k_putf (a := 112) dX11_init_126 v_X11_55 rfl ha rfl (fun _ => rfl) (fun _ => rfl) ?_
  refine st_aload_n dX11_init_129 rfl ?_
  refine st_bipush dX11_init_130 (by decide) ?_
  refine k_newi (a := 112) (r := 129) dX11_init_132 ha rfl (by omega) (fun j => hM _ j (by omega)) (Nat.le_of_ble_eq_true rfl) ?_
  refine k_putf (a := 112) dX11_init_134 v_X11_58 rfl ha rfl (fun _ => rfl) (fun _ => rfl) ?_
  refine st_aload_n dX11_init_137 rfl ?_
  refine st_iconst dX11_init_138 ?_
  refine k_newi (a := 112) (r := 130) dX11_init_139 ha rfl (by omega) (fun j => hM _ j (by omega)) (Nat.le_of_ble_eq_true rfl) ?_
  refine k_putf (a := 112) dX11_init_141 v_X11_61 rfl ha rfl (fun _ => rfl) (fun _ => rfl) ?_
  refine st_aload_n dX11_init_144 rfl ?_
  refine st_iconst dX11_init_145 ?_
  refine k_newi (a := 112) (r := 131) dX11_init_146 ha rfl (by omega) (fun j => hM _ j (by omega)) (Nat.le_of_ble_eq_true rfl) ?_
  refine k_putf (a := 112) dX11_init_148 v_X11_64 rfl ha rfl (fun _ => rfl) (fun _ => rfl) ?_
  refine st_aload_n dX11_init_151 rfl ?_
  refine st_bipush dX11_init_152 (by decide) ?_
  refine k_puti (a := 112) dX11_init_154 w_X11_67 ha rfl rfl rfl ?_
  refine st_aload_n dX11_init_157 rfl ?_
  refine st_sipush dX11_init_158 (by decide) ?_
  refine k_newb (a := 112) (r := 132) dX11_init_161 ha rfl (by omega) (fun j => by rw [q_up_ne (by decide)]; exact hM _ j (by omega)) (Nat.le_of_ble_eq_true rfl) ?_
  refine k_putf (a := 112) dX11_init_163 v_X11_71 rfl ha rfl (fun _ => rfl) (fun _ => rfl) ?_
  refine st_aload_n dX11_init_166 rfl ?_
  refine st_sipush dX11_init_167 (by decide) ?_
  refine k_newi (a := 112) (r := 133) dX11_init_170 ha rfl (by omega) (fun j => by rw [q_up_ne (by decide)]; exact hM _ j (by omega)) (Nat.le_of_ble_eq_true rfl) ?_
  refine k_putf (a := 112) dX11_init_172 v_X11_75 rfl ha rfl (fun _ => rfl) (fun _ => rfl) ?_
  refine st_aload_n dX11_init_175 rfl ?_
  refine st_sipush dX11_init_176 (by decide) ?_
  refine k_newi (a := 112) (r := 134) dX11_init_179 ha rfl (by omega) (fun j => by rw [q_up_ne (by decide)]; exact hM _ j (by omega)) (Nat.le_of_ble_eq_true rfl) ?_
  refine k_putf (a := 112) dX11_init_181 v_X11_78 rfl ha rfl (fun _ => rfl) (fun _ => rfl) ?_
  refine st_aload_n dX11_init_184 rfl ?_
  refine st_bipush dX11_init_185 (by decide) ?_
  refine k_newi (a := 112) (r := 135) dX11_init_187 ha rfl (by omega) (fun j => by rw [q_up_ne (by decide)]; exact hM _ j (by omega)) (Nat.le_of_ble_eq_true rfl) ?_
  refine k_putf (a := 112) dX11_init_189 v_X11_81 rfl ha rfl (fun _ => rfl) (fun _ => rfl) ?_
  refine st_aload_n dX11_init_192 rfl ?_
  refine st_bipush dX11_init_193 (by decide) ?_
  refine k_newi (a := 112) (r := 136) dX11_init_195 ha rfl (by omega) (fun j => by rw [q_up_ne (by decide)]; exact hM _ j (by omega)) (Nat.le_of_ble_eq_true rfl) ?_
  refine k_putf (a := 112) dX11_init_197 v_X11_84 rfl ha rfl (fun _ => rfl) (fun _ => rfl) ?_
  refine st_aload_n dX11_init_200 rfl ?_
  refine st_bipush dX11_init_201 (by decide) ?_
  refine k_newi (a := 112) (r := 137) dX11_init_203 ha rfl (by omega) (fun j => by rw [q_up_ne (by decide)]; exact hM _ j (by omega)) (Nat.le_of_ble_eq_true rfl) ?_
  refine k_putf (a := 112) dX11_init_205 v_X11_87 rfl ha rfl (fun _ => rfl) (fun _ => rfl) ?_
  refine st_aload_n dX11_init_208 rfl ?_
  refine st_bipush dX11_init_209 (by decide) ?_
  refine k_newi (a := 112) (r := 138) dX11_init_211 ha rfl (by omega) (fun j => by rw [q_up_ne (by decide)]; exact hM _ j (by omega)) (Nat.le_of_ble_eq_true rfl) ?_
  refine k_putf (a := 112) dX11_init_213 v_X11_90 rfl ha rfl (fun _ => rfl) (fun _ => rfl) ?_
  refine st_aload_n dX11_init_216 rfl ?_
  refine st_sipush dX11_init_217 (by decide) ?_
  refine k_newi (a := 112) (r := 139) dX11_init_220 ha rfl (by omega) (fun j => by rw [q_up_ne (by decide)]; exact hM _ j (by omega)) (Nat.le_of_ble_eq_true rfl) ?_
  refine k_putf (a := 112) dX11_init_222 v_X11_93 rfl ha rfl (fun _ => rfl) (fun _ => rfl) ?_
  refine st_aload_n dX11_init_225 rfl ?_
  refine st_bipush dX11_init_226 (by decide) ?_
  refine k_newz (a := 112) (r := 140) dX11_init_228 ha rfl (by omega) (fun j => by rw [q_up_ne (by decide)]; exact hM _ j (by omega)) (Nat.le_of_ble_eq_true rfl) ?_
  refine k_putf (a := 112) dX11_init_230 v_X11_96 rfl ha rfl (fun _ => rfl) (fun _ => rfl) ?_
  refine st_aload_n dX11_init_233 rfl ?_
  refine st_bipush dX11_init_234 (by decide) ?_
  refine k_newl (a := 112) (r := 141) dX11_init_236 ha rfl (by omega) (fun j => hN _ j (by omega)) (Nat.le_of_ble_eq_true rfl) ?_
  refine k_putf (a := 112) dX11_init_238 v_X11_100 rfl ha rfl (fun _ => rfl) (fun _ => rfl) ?_
  refine st_aload_n dX11_init_241 rfl ?_
  refine st_sipush dX11_init_242 (by decide) ?_
  refine k_newl (a := 112) (r := 142) dX11_init_245 ha rfl (by omega) (fun j => hN _ j (by omega)) (Nat.le_of_ble_eq_true rfl) ?_
  refine k_putf (a := 112) dX11_init_247 v_X11_104 rfl ha rfl (fun _ => rfl) (fun _ => rfl) ?_
  refine st_aload_n dX11_init_250 rfl ?_
  refine st_bipush dX11_init_251 (by decide) ?_
  refine k_newi (a := 112) (r := 143) dX11_init_253 ha rfl (by omega) (fun j => by rw [q_up_ne (by decide)]; exact hM _ j (by omega)) (Nat.le_of_ble_eq_true rfl) ?_
  refine k_putf (a := 112) dX11_init_255 v_X11_107 rfl ha rfl (fun _ => rfl) (fun _ => rfl) ?_
  refine st_aload_n dX11_init_258 rfl ?_
  refine st_bipush dX11_init_259 (by decide) ?_
  refine k_newi (a := 112) (r := 144) dX11_init_261 ha rfl (by omega) (fun j => by rw [q_up_ne (by decide)]; exact hM _ j (by omega)) (Nat.le_of_ble_eq_true rfl) ?_
  refine k_putf (a := 112) dX11_init_263 v_X11_110 rfl ha rfl (fun _ => rfl) (fun _ => rfl) ?_
  refine st_aload_n dX11_init_266 rfl ?_
  refine st_sipush dX11_init_267 (by decide) ?_
  refine k_newi (a := 112) (r := 145) dX11_init_270 ha rfl (by omega) (fun j => by rw [q_up_ne (by decide)]; exact hM _ j (by omega)) (Nat.le_of_ble_eq_true rfl) ?_
  refine k_putf (a := 112) dX11_init_272 v_X11_113 rfl ha rfl (fun _ => rfl) (fun _ => rfl) ?_
  refine st_aload_n dX11_init_275 rfl ?_
  refine st_iconst dX11_init_276 ?_
  refine k_newi (a := 112) (r := 146) dX11_init_277 ha rfl (by omega) (fun j => by rw [q_up_ne (by decide)]; exact hM _ j (by omega)) (Nat.le_of_ble_eq_true rfl) ?_
  refine k_putf (a := 112) dX11_init_279 v_X11_116 rfl ha rfl (fun _ => rfl) (fun _ => rfl) ?_
  refine st_aload_n dX11_init_282 rfl ?_
  refine st_bipush dX11_init_283 (by decide) ?_
  refine k_newi (a := 112) (r := 147) dX11_init_285 ha rfl (by omega) (fun j => by rw [q_up_ne (by decide)]; exact hM _ j (by omega)) (Nat.le_of_ble_eq_true rfl) ?_
  refine k_putf (a := 112) dX11_init_287 v_X11_119 rfl ha rfl (fun _ => rfl) (fun _ => rfl) ?_
  refine st_aload_n dX11_init_290 rfl ?_
  refine st_sipush dX11_init_291 (by decide) ?_
  refine k_newl (a := 112) (r := 148) dX11_init_294 ha rfl (by omega) (fun j => hN _ j (by omega)) (Nat.le_of_ble_eq_true rfl) ?_
  refine k_putf (a := 112) dX11_init_296 v_X11_122 rfl ha rfl (fun _ => rfl) (fun _ => rfl) ?_
  refine st_aload_n dX11_init_299 rfl ?_
  refine st_sipush dX11_init_300 (by decide) ?_
  refine k_newi (a := 112) (r := 149) dX11_init_303 ha rfl (by omega) (fun j => by rw [q_up_ne (by decide)]; exact hM _ j (by omega)) (Nat.le_of_ble_eq_true rfl) ?_
  refine k_putf (a := 112) dX11_init_305 v_X11_125 rfl ha rfl (fun _ => rfl) (fun _ => rfl) ?_
  refine st_aload_n dX11_init_308 rfl ?_
  refine st_iconst dX11_init_309 ?_
  refine k_newi (a := 112) (r := 150) dX11_init_310 ha rfl (by omega) (fun j => by rw [q_up_ne (by decide)]; exact hM _ j (by omega)) (Nat.le_of_ble_eq_true rfl) ?_
  refine k_putf (a := 112) dX11_init_312 v_X11_128 rfl ha rfl (fun _ => rfl) (fun _ => rfl) ?_
  refine st_aload_n dX11_init_315 rfl ?_
  refine st_iconst dX11_init_316 ?_
  refine k_newi (a := 112) (r := 151) dX11_init_317 ha rfl (by omega) (fun j => by rw [q_up_ne (by decide)]; exact hM _ j (by omega)) (Nat.le_of_ble_eq_true rfl) ?_
  refine k_putf (a := 112) dX11_init_319 v_X11_131 rfl ha rfl (fun _ => rfl) (fun _ => rfl) ?_
  refine st_aload_n dX11_init_322 rfl ?_
  refine st_sipush dX11_init_323 (by decide) ?_
  refine k_newi (a := 112) (r := 152) dX11_init_326 ha rfl (by omega) (fun j => by rw [q_up_ne (by decide)]; exact hM _ j (by omega)) (Nat.le_of_ble_eq_true rfl) ?_
  refine k_putf (a := 112) dX11_init_328 v_X11_134 rfl ha rfl (fun _ => rfl) (fun _ => rfl) ?_
  refine st_aload_n dX11_init_331 rfl ?_
  refine st_sipush dX11_init_332 (by decide) ?_
  refine k_newi (a := 112) (r := 153) dX11_init_335 ha rfl (by omega) (fun j => by rw [q_up_ne (by decide)]; exact hM _ j (by omega)) (Nat.le_of_ble_eq_true rfl) ?_
  refine k_putf (a := 112) dX11_init_337 v_X11_137 rfl ha rfl (fun _ => rfl) (fun _ => rfl) ?_
  refine st_aload_n dX11_init_340 rfl ?_
  refine st_sipush dX11_init_341 (by decide) ?_
  refine k_newl (a := 112) (r := 154) dX11_init_344 ha rfl (by omega) (fun j => hN _ j (by omega)) (Nat.le_of_ble_eq_true rfl) ?_
  refine k_putf (a := 112) dX11_init_346 v_X11_140 rfl ha rfl (fun _ => rfl) (fun _ => rfl) ?_
  refine st_aload_n dX11_init_349 rfl ?_
  refine st_bipush dX11_init_350 (by decide) ?_
  refine k_newi (a := 112) (r := 155) dX11_init_352 ha rfl (by omega) (fun j => by rw [q_up_ne (by decide)]; exact hM _ j (by omega)) (Nat.le_of_ble_eq_true rfl) ?_
  refine k_putf (a := 112) dX11_init_354 v_X11_143 rfl ha rfl (fun _ => rfl) (fun _ => rfl) ?_
  refine st_aload_n dX11_init_357 rfl ?_
  refine st_sipush dX11_init_358 (by decide) ?_
  refine k_newi (a := 112) (r := 156) dX11_init_361 ha rfl (by omega) (fun j => by rw [q_up_ne (by decide)]; exact hM _ j (by omega)) (Nat.le_of_ble_eq_true rfl) ?_
  refine k_putf (a := 112) dX11_init_363 v_X11_146 rfl ha rfl (fun _ => rfl) (fun _ => rfl) ?_
  refine st_aload_n dX11_init_366 rfl ?_
  refine st_sipush dX11_init_367 (by decide) ?_
  refine k_newi (a := 112) (r := 157) dX11_init_370 ha rfl (by omega) (fun j => by rw [q_up_ne (by decide)]; exact hM _ j (by omega)) (Nat.le_of_ble_eq_true rfl) ?_
  refine k_putf (a := 112) dX11_init_372 v_X11_149 rfl ha rfl (fun _ => rfl) (fun _ => rfl) ?_
  refine st_aload_n dX11_init_375 rfl ?_
  refine st_sipush dX11_init_376 (by decide) ?_
  refine k_newi (a := 112) (r := 158) dX11_init_379 ha rfl (by omega) (fun j => by rw [q_up_ne (by decide)]; exact hM _ j (by omega)) (Nat.le_of_ble_eq_true rfl) ?_
  refine k_putf (a := 112) dX11_init_381 v_X11_152 rfl ha rfl (fun _ => rfl) (fun _ => rfl) ?_
  refine st_aload_n dX11_init_384 rfl ?_
  refine st_bipush dX11_init_385 (by decide) ?_
  refine k_newi (a := 112) (r := 159) dX11_init_387 ha rfl (by omega) (fun j => by rw [q_up_ne (by decide)]; exact hM _ j (by omega)) (Nat.le_of_ble_eq_true rfl) ?_
  refine k_putf (a := 112) dX11_init_389 v_X11_155 rfl ha rfl (fun _ => rfl) (fun _ => rfl) ?_
  refine st_aload_n dX11_init_392 rfl ?_
  refine st_bipush dX11_init_393 (by decide) ?_
  refine k_newi (a := 112) (r := 160) dX11_init_395 ha rfl (by omega) (fun j => by rw [q_up_ne (by decide)]; exact hM _ j (by omega)) (Nat.le_of_ble_eq_true rfl) ?_
  refine k_putf (a := 112) dX11_init_397 v_X11_158 rfl ha rfl (fun _ => rfl) (fun _ => rfl) ?_
  refine st_aload_n dX11_init_400 rfl ?_
  refine st_bipush dX11_init_401 (by decide) ?_
  refine k_newi (a := 112) (r := 161) dX11_init_403 ha rfl (by omega) (fun j => by rw [q_up_ne (by decide)]; exact hM _ j (by omega)) (Nat.le_of_ble_eq_true rfl) ?_
  refine k_putf (a := 112) dX11_init_405 v_X11_161 rfl ha rfl (fun _ => rfl) (fun _ => rfl) ?_
  refine st_aload_n dX11_init_408 rfl ?_
  refine st_bipush dX11_init_409 (by decide) ?_
  refine k_newi (a := 112) (r := 162) dX11_init_411 ha rfl (by omega) (fun j => by rw [q_up_ne (by decide)]; exact hM _ j (by omega)) (Nat.le_of_ble_eq_true rfl) ?_
  refine k_putf (a := 112) dX11_init_413 v_X11_164 rfl ha rfl (fun _ => rfl) (fun _ => rfl) ?_
  refine st_aload_n dX11_init_416 rfl ?_
  refine st_iconst dX11_init_417 ?_
  refine k_newi (a := 112) (r := 163) dX11_init_418 ha rfl (by omega) (fun j => by rw [q_up_ne (by decide)]; exact hM _ j (by omega)) (Nat.le_of_ble_eq_true rfl) ?_
  refine k_putf (a := 112) dX11_init_420 v_X11_167 rfl ha rfl (fun _ => rfl) (fun _ => rfl) ?_
  refine st_aload_n dX11_init_423 rfl ?_
  refine st_bipush dX11_init_424 (by decide) ?_
  refine k_newi (a := 112) (r := 164) dX11_init_426 ha rfl (by omega) (fun j => by rw [q_up_ne (by decide)]; exact hM _ j (by omega)) (Nat.le_of_ble_eq_true rfl) ?_
  refine k_putf (a := 112) dX11_init_428 v_X11_170 rfl ha rfl (fun _ => rfl) (fun _ => rfl) ?_
  refine st_aload_n dX11_init_431 rfl ?_
  refine st_sipush dX11_init_432 (by decide) ?_
  refine k_newi (a := 112) (r := 165) dX11_init_435 ha rfl (by omega) (fun j => by rw [q_up_ne (by decide)]; exact hM _ j (by omega)) (Nat.le_of_ble_eq_true rfl) ?_
  refine k_putf (a := 112) dX11_init_437 v_X11_173 rfl ha rfl (fun _ => rfl) (fun _ => rfl) ?_
  refine st_aload_n dX11_init_440 rfl ?_
  refine st_iconst dX11_init_441 ?_
  refine k_newz (a := 112) (r := 166) dX11_init_442 ha rfl (by omega) (fun j => by rw [q_up_ne (by decide)]; exact hM _ j (by omega)) (Nat.le_of_ble_eq_true rfl) ?_
  refine k_putf (a := 112) dX11_init_444 v_X11_176 rfl ha rfl (fun _ => rfl) (fun _ => rfl) ?_
  exact st_return dX11_init_447 rfl ⟨rfl, by rfl, rfl, rfl⟩


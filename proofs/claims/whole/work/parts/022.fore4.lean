/-! the system's Forecast: sneezes -/
def drs (x : Int) : Nat → Int
  | 0 => x
  | k + 1 => drw (drs x k)
theorem drs_rng {x : Int} (hx : 0 ≤ x ∧ x < 2147483648) : ∀ k, 0 ≤ drs x k ∧ drs x k < 2147483648
  | 0 => hx
  | _ + 1 => drw_rng _
/-- all sing as told, and who sneezes by this draw 30 -/
def snzV (M : q_Mem) (b y : Int) : Nat → Int := fun q => if (q : Int) = y / 65536 % max 1 (M 3 4 + 1) then 30 else toldV M 3 b 0 q
theorem snzV_rng {M : q_Mem} {b y : Int} (h : ∀ k, 0 ≤ M 7 k ∧ M 7 k ≤ 30) (q : Nat) : 0 ≤ snzV M b y q ∧ snzV M b y q ≤ 30 := by
  have := toldV_rng (M := M) (a := 3) (b := b) (s := 0) h q
  unfold snzV
  split <;> omega
def snw (M : q_Mem) (x : Int) : Nat → Int
  | 0 => M 3 12
  | k + 1 => nxt M 3 (snw M x k) (snzV M (M 3 11 + k) (drs x (k + 1)))
theorem snw_rng {M : q_Mem} {x : Int} (h : 0 ≤ M 3 3 ∧ M 3 3 ≤ 8) (h12 : 0 ≤ M 3 12 ∧ M 3 12 < 1073741824) : ∀ k, 0 ≤ snw M x k ∧ snw M x k < 1073741824
  | 0 => h12
  | _ + 1 => nxt_rng h
def snr (M : q_Mem) (x : Int) (n : Nat) : Int := hsum (fun k => cnt (fun q => g8 (snw M x k) q < g8 (snw M x (k + 1)) q) (M 3 4).toNat) n
def snt (M : q_Mem) (x : Int) (n : Nat) : Int := cnt (fun q => g8 (snw M x n) q = M 3 3 - 1) (M 3 4).toNat
theorem drs_add (x : Int) (a : Nat) : ∀ b, drs (drs x a) b = drs x (a + b)
  | 0 => rfl
  | b + 1 => by
    show drw (drs (drs x a) b) = drw (drs x (a + b))
    rw [drs_add x a b]
def A_sneezes (M : q_Mem) (t b : Nat) (what : Int) : Int := if what = 0 then hsum (fun i => snr M (drs (M 3 18) (i * b)) b) t else hsum (fun i => snt M (drs (M 3 18) (i * b)) b) t
theorem C_sneezes {G : q_G} {d : Nat} {M : q_Mem} {N : q_MemL} {t b : Nat} {what : Int} (hd : 4 ≤ d) (hM : Hrg M 3) (h11 : 0 ≤ M 3 11 ∧ M 3 11 ≤ 10000) (h12 : 0 ≤ M 3 12 ∧ M 3 12 < 1073741824) (h18 : 0 ≤ M 3 18 ∧ M 3 18 < 2147483648) (ht : t ≤ 20) (hb : b ≤ 60) (hw : 0 ≤ what ∧ what ≤ 1) : AC0 G d m_X1_sneezes [.ref 91, I t, I b, I what] M N (CV (fun x M' N' => x = I (A_sneezes M t b what) ∧ N' = N ∧ Exc [92] M M')) := by
  have hH : isHome 3 := Or.inl rfl
  have h4 := hM.2.2.1
  have hwr := fun x k => snw_rng (x := x) hM.2.1 h12 k
  refine AC.of (L0 := [_, _, _, _, none, none, none, none, none, none, none, none]) pn_X1 (Nat.le_of_ble_eq_true rfl) rfl ?_
  refine st_iconst dX1_sneezes_0 ?_
  refine st_aload_n dX1_sneezes_1 rfl ?_
  refine st_getfr dX1_sneezes_2 f_X1_18 (by first | assumption | rfl) (by rfl) ?_
  refine st_getfi dX1_sneezes_5 f_X1_62 (by first | assumption | rfl) (by rfl) ?_
  refine st_iconst dX1_sneezes_8 ?_
  refine st_iadd dX1_sneezes_9 ?_
  refine st_mmax dX1_sneezes_10 lm_X1_53 (by omega) (Nat.le_of_ble_eq_true rfl) (by omega) (by omega) ?_
  refine st_istore (L' := [_, _, _, _, _, _, _, _, _, _, _, _]) dX1_sneezes_13 (by decide) rfl rfl ?_
  refine st_aload_n dX1_sneezes_15 rfl ?_
  refine st_getfr dX1_sneezes_16 f_X1_18 (by first | assumption | rfl) (by rfl) ?_
  refine st_getfi dX1_sneezes_19 f_X1_68 (by first | assumption | rfl) (by rfl) ?_
  refine st_istore (L' := [_, _, _, _, _, _, _, _, _, _, _, _]) dX1_sneezes_22 (by decide) rfl rfl ?_
  refine st_iconst dX1_sneezes_24 ?_
  refine st_istore (L' := [_, _, _, _, _, _, _, _, _, _, _, _]) dX1_sneezes_25 (by decide) rfl rfl ?_
  refine st_iconst dX1_sneezes_27 ?_
  refine st_istore (L' := [_, _, _, _, _, _, _, _, _, _, _, _]) dX1_sneezes_28 (by decide) rfl rfl ?_
  refine st_iconst dX1_sneezes_30 ?_
  refine st_istore (L' := [_, _, _, _, _, _, _, _, _, _, _, _]) dX1_sneezes_31 (by decide) rfl rfl ?_
  have inner : ∀ (Q : q_Q0) (q k i : Nat) (R T : Int) (M1 : q_Mem), k + q = b → i < t → Exc [92] M M1 → {l11 : Option Value} →
      (∀ (M2 : q_Mem) (l11 : Option Value), Exc [92] M M2 → AW0 G d m_X1_sneezes 141 [some (.ref 91), some (I t), some (I b), some (I what), some (I (max 1 (M 3 4 + 1))), some (I (drs (M 3 18) (i * b + b))), some (I (R + snr M (drs (M 3 18) (i * b)) b)), some (I T), some (I i), some (I (snw M (drs (M 3 18) (i * b)) b)), some (I b), l11] [] M2 N Q) →
      AW0 G d m_X1_sneezes 51 [some (.ref 91), some (I t), some (I b), some (I what), some (I (max 1 (M 3 4 + 1))), some (I (drs (M 3 18) (i * b + k))), some (I (R + snr M (drs (M 3 18) (i * b)) k)), some (I T), some (I i), some (I (snw M (drs (M 3 18) (i * b)) k)), some (I k), l11] [] M1 N Q := by
    intro Q q
    induction q with
    | zero =>
      intro k i R T M1 hk hi hE l11 kk
      have hkb : k = b := by omega
      subst hkb
      refine st_iload dX1_sneezes_51 rfl ?_
      refine st_iload_n dX1_sneezes_53 rfl ?_
      refine st_icmp_ge (tgt := 141) dX1_sneezes_54 (by omega) (by omega) rfl (fun h => ?_) (fun h => ?_)
      · skip
        exact kk M1 l11 hE
      · skip
        omega
    | succ q ih =>
      intro k i R T M1 hk hi hE l11 kk
      have e3 := hE 3 (by decide)
      have hx := drs_rng h18 (i * b + k)
      have hy := drs_rng h18 (i * b + (k + 1))
      have hwk := hwr (drs (M 3 18) (i * b)) k
      have hwk1 := hwr (drs (M 3 18) (i * b)) (k + 1)
      refine st_iload dX1_sneezes_51 rfl ?_
      refine st_iload_n dX1_sneezes_53 rfl ?_
      refine st_icmp_ge (tgt := 141) dX1_sneezes_54 (by omega) (by omega) rfl (fun h => ?_) (fun h => ?_)
      · skip
        omega
      · refine st_iload dX1_sneezes_57 rfl ?_
        refine c_S1p (d' := d - 1) dX1_sneezes_59 l_X1_71 k_X1_nextDraw s_X1_nextDraw (by omega) (Nat.le_of_ble_eq_true rfl) (C_nextDraw hx) ?_
        rw [show drw (drs (M 3 18) (i * b + k)) = drs (M 3 18) (i * b + (k + 1)) from rfl]
        refine st_istore (L' := [_, _, _, _, _, _, _, _, _, _, _, _]) dX1_sneezes_62 (by decide) rfl rfl ?_
        refine st_aload_n dX1_sneezes_64 rfl ?_
        refine st_getfr dX1_sneezes_65 f_X1_18 (by first | assumption | rfl) (by rfl) ?_
        refine st_aload_n dX1_sneezes_68 rfl ?_
        refine st_getfr dX1_sneezes_69 f_X1_18 (by first | assumption | rfl) (by rfl) ?_
        refine st_getfi dX1_sneezes_72 f_X1_32 (by first | assumption | rfl) (by rfl) ?_
        refine st_iload dX1_sneezes_75 rfl ?_
        refine st_iadd dX1_sneezes_77 ?_
        refine st_iconst dX1_sneezes_78 ?_
        refine st_aload_n dX1_sneezes_79 rfl ?_
        refine st_getfr dX1_sneezes_80 f_X1_9 (by first | assumption | rfl) (by rfl) ?_
        refine c_V3v (d' := d - 1) dX1_sneezes_83 l_X1_35 k_X2_tell i_X2_tell (Or.inl ⟨_, _, _, _, _, (by first | assumption | rfl), by rfl⟩) (by omega) (Nat.le_of_ble_eq_true rfl) (C_tellV hH (by omega) (hM.exc hE (by decide) (by decide) (by decide) (by decide)) sh_92 (by decide) (by decide) (by rw [e3]; omega) (by omega)) (fun M2 N2 hx2 => ?_)
        obtain ⟨rfl, hE2, hv, -⟩ := hx2
        rw [toldV_congr e3 (hE 7 (by decide)), e3] at hv
        have hE3 := hE.tr hE2
        have e32 := hE3 3 (by decide)
        refine st_aload_n dX1_sneezes_86 rfl ?_
        refine st_getfr dX1_sneezes_87 f_X1_9 (by first | assumption | rfl) (by rfl) ?_
        refine st_iload dX1_sneezes_90 rfl ?_
        refine st_ldc dX1_sneezes_92 l_X1_75 ?_
        refine st_idiv dX1_sneezes_94 (zi_ne0 (by omega)) ?_
        refine AW.top (zi_divI hy (by omega)) ?_
        refine st_iload dX1_sneezes_95 rfl ?_
        refine st_irem dX1_sneezes_97 (zi_ne0 (by omega)) ?_
        refine AW.top (zi_remI (by omega) (by omega)) ?_
        refine st_bipush dX1_sneezes_98 (by decide) ?_
        have hz1 := Int.emod_nonneg (drs (M 3 18) (i * b + (k + 1)) / 65536) (show max 1 (M 3 4 + 1) ≠ 0 by omega)
        have hz2 := Int.emod_lt_of_pos (drs (M 3 18) (i * b + (k + 1)) / 65536) (show 0 < max 1 (M 3 4 + 1) by omega)
        refine c_S3v (d' := d - 1) dX1_sneezes_100 l_X1_76 k_X10_put s_X10_put (by omega) (Nat.le_of_ble_eq_true rfl) (C_put sh_92 (by omega) (by omega)) (fun M4 N4 hx4 => ?_)
        obtain ⟨rfl, hM4⟩ := hx4
        have hE4 : Exc [92] M2 M4 := by
          rw [hM4]
          split
          · exact Exc.up (by decide)
          · exact Exc.rf
        have hv4 : ∀ q, q < (M 3 4).toNat → M4 92 q = snzV M (M 3 11 + k) (drs (M 3 18) (i * b + (k + 1))) q := by
          intro q hq
          unfold snzV
          rw [hM4]
          by_cases q1 : (q : Int) = drs (M 3 18) (i * b + (k + 1)) / 65536 % max 1 (M 3 4 + 1)
          · rw [if_pos q1, if_pos (by omega), ← q1]
            simp [q_up]
          · rw [if_neg q1, ← hv q hq]
            split
            · simp only [q_up]
              rw [if_neg (by omega)]
            · rfl
        have hE5 := hE3.tr hE4
        have e5 := hE5 3 (by decide)
        refine st_aload_n dX1_sneezes_103 rfl ?_
        refine st_getfr dX1_sneezes_104 f_X1_18 (by first | assumption | rfl) (by rfl) ?_
        refine st_iload dX1_sneezes_107 rfl ?_
        refine st_aload_n dX1_sneezes_109 rfl ?_
        refine st_getfr dX1_sneezes_110 f_X1_9 (by first | assumption | rfl) (by rfl) ?_
        refine c_V2p (d' := d - 1) dX1_sneezes_113 l_X1_39 k_X2_after i_X2_after (Or.inl ⟨_, _, _, _, _, (by first | assumption | rfl), by rfl⟩) (by omega) (Nat.le_of_ble_eq_true rfl) (C_afterZ hH (by omega) (hM.exc hE5 (by decide) (by decide) (by decide) (by decide)) sh_92 (by decide) (by omega) (fun q hq => by rw [e5] at hq; rw [hv4 q hq]; exact snzV_rng hM.2.2.2.2.2.2.2.2 q)) ?_
        rw [← nxt_congr (M := M) (v := snzV M (M 3 11 + k) (drs (M 3 18) (i * b + (k + 1)))) e5 (hE5 4 (by decide)) (hE5 6 (by decide)) (fun q hq => (hv4 q hq).symm), show nxt M 3 (snw M (drs (M 3 18) (i * b)) k) (snzV M (M 3 11 + k) (drs (M 3 18) (i * b + (k + 1)))) = snw M (drs (M 3 18) (i * b)) (k + 1) from by rw [← drs_add]; rfl]
        refine st_istore (L' := [_, _, _, _, _, _, _, _, _, _, _, _]) dX1_sneezes_116 (by decide) rfl rfl ?_
        refine st_iload dX1_sneezes_118 rfl ?_
        refine st_aload_n dX1_sneezes_120 rfl ?_
        refine st_iload dX1_sneezes_121 rfl ?_
        refine st_iload dX1_sneezes_123 rfl ?_
        refine c_V2p (d' := d - 1) dX1_sneezes_125 l_X1_80 k_X1_risen i_X1_risen (Or.inl ⟨_, _, _, _, _, (by first | assumption | rfl), by rfl⟩) (by omega) (Nat.le_of_ble_eq_true rfl) (C_risen (by omega) (by rw [e5]; exact h4) hwk hwk1) ?_
        rw [e5]
        refine st_iadd dX1_sneezes_128 ?_
        refine st_istore (L' := [_, _, _, _, _, _, _, _, _, _, _, _]) dX1_sneezes_129 (by decide) rfl rfl ?_
        refine st_iload dX1_sneezes_131 rfl ?_
        refine st_istore (L' := [_, _, _, _, _, _, _, _, _, _, _, _]) dX1_sneezes_133 (by decide) rfl rfl ?_
        refine st_iinc (L' := [_, _, _, _, _, _, _, _, _, _, _, _]) dX1_sneezes_135 rfl (by decide) rfl rfl ?_
        refine st_goto (tgt := 51) dX1_sneezes_138 rfl ?_
        refine AW.to (ih (k + 1) i R T M4 (by omega) hi hE5 kk (l11 := some (I (snw M (drs (M 3 18) (i * b)) (k + 1))))) (h2 := ?_)
        rw [show snr M (drs (M 3 18) (i * b)) (k + 1) = snr M (drs (M 3 18) (i * b)) k + cnt (fun q => g8 (snw M (drs (M 3 18) (i * b)) k) q < g8 (snw M (drs (M 3 18) (i * b)) (k + 1)) q) (M 3 4).toNat from rfl]
        simp [Int.add_assoc]
  have outer : ∀ (q i : Nat) (M1 : q_Mem), i + q = t → Exc [92] M M1 → {l9 l10 l11 : Option Value} →
      AW0 G d m_X1_sneezes 33 [some (.ref 91), some (I t), some (I b), some (I what), some (I (max 1 (M 3 4 + 1))), some (I (drs (M 3 18) (i * b))), some (I (hsum (fun i => snr M (drs (M 3 18) (i * b)) b) i)), some (I (hsum (fun i => snt M (drs (M 3 18) (i * b)) b) i)), some (I i), l9, l10, l11] [] M1 N (CV (fun x M' N' => x = I (A_sneezes M t b what) ∧ N' = N ∧ Exc [92] M M')) := by
    intro q
    induction q with
    | zero =>
      intro i M1 hi hE l9 l10 l11
      have hkb : i = t := by omega
      subst hkb
      refine st_iload dX1_sneezes_33 rfl ?_
      refine st_iload_n dX1_sneezes_35 rfl ?_
      refine st_icmp_ge (tgt := 158) dX1_sneezes_36 (by omega) (by omega) rfl (fun h => ?_) (fun h => ?_)
      · refine st_iload_n dX1_sneezes_158 rfl ?_
        refine st_if_ne (tgt := 167) dX1_sneezes_159 (by omega) rfl (fun h2 => ?_) (fun h2 => ?_)
        · refine st_iload dX1_sneezes_167 rfl ?_
          exact r_i dX1_sneezes_169 rfl ⟨by rw [A_sneezes, if_neg h2], rfl, hE⟩
        · refine st_iload dX1_sneezes_162 rfl ?_
          refine st_goto (tgt := 169) dX1_sneezes_164 rfl ?_
          exact r_i dX1_sneezes_169 rfl ⟨by rw [A_sneezes, if_pos (by omega)], rfl, hE⟩
      · skip
        omega
    | succ q ih =>
      intro i M1 hi hE l9 l10 l11
      have e3 := hE 3 (by decide)
      have hwk := hwr (drs (M 3 18) (i * b)) b
      refine st_iload dX1_sneezes_33 rfl ?_
      refine st_iload_n dX1_sneezes_35 rfl ?_
      refine st_icmp_ge (tgt := 158) dX1_sneezes_36 (by omega) (by omega) rfl (fun h => ?_) (fun h => ?_)
      · skip
        omega
      · refine st_aload_n dX1_sneezes_39 rfl ?_
        refine st_getfr dX1_sneezes_40 f_X1_18 (by first | assumption | rfl) (by rfl) ?_
        refine st_getfi dX1_sneezes_43 f_X1_22 (by first | assumption | rfl) (by rfl) ?_
        refine st_istore (L' := [_, _, _, _, _, _, _, _, _, _, _, _]) dX1_sneezes_46 (by decide) rfl rfl ?_
        refine st_iconst dX1_sneezes_48 ?_
        refine st_istore (L' := [_, _, _, _, _, _, _, _, _, _, _, _]) dX1_sneezes_49 (by decide) rfl rfl ?_
        rw [e3]
        rw [show I (hsum (fun i => snr M (drs (M 3 18) (i * b)) b) i) = I (hsum (fun i => snr M (drs (M 3 18) (i * b)) b) i + snr M (drs (M 3 18) (i * b)) 0) from congrArg I (Int.add_zero _).symm]
        refine AW.to (inner _ b 0 i (hsum (fun i => snr M (drs (M 3 18) (i * b)) b) i) (hsum (fun i => snt M (drs (M 3 18) (i * b)) b) i) M1 (by omega) (by omega) hE (fun M2 l11 hE2 => ?_) (l11 := l11))
        have e32 := hE2 3 (by decide)
        refine st_iload dX1_sneezes_141 rfl ?_
        refine st_aload_n dX1_sneezes_143 rfl ?_
        refine st_iload dX1_sneezes_144 rfl ?_
        refine c_V1p (d' := d - 1) dX1_sneezes_146 l_X1_83 k_X1_onTop i_X1_onTop (Or.inl ⟨_, _, _, _, _, (by first | assumption | rfl), by rfl⟩) (by omega) (Nat.le_of_ble_eq_true rfl) (C_onTop (by omega) (by rw [e32]; exact hM.2.1) (by rw [e32]; exact h4) hwk) ?_
        rw [e32]
        refine st_iadd dX1_sneezes_149 ?_
        refine st_istore (L' := [_, _, _, _, _, _, _, _, _, _, _, _]) dX1_sneezes_150 (by decide) rfl rfl ?_
        refine st_iinc (L' := [_, _, _, _, _, _, _, _, _, _, _, _]) dX1_sneezes_152 rfl (by decide) rfl rfl ?_
        refine st_goto (tgt := 33) dX1_sneezes_155 rfl ?_
        refine AW.to (ih (i + 1) M2 (by omega) hE2 (l9 := some (I (snw M (drs (M 3 18) (i * b)) b))) (l10 := some (I b)) (l11 := l11)) (h2 := ?_)
        rw [show (i + 1) * b = i * b + b by rw [Nat.add_mul, Nat.one_mul]]
        simp [hsum, snt]
  refine AW.to (outer t 0 M (by omega) Exc.rf (l9 := none) (l10 := none) (l11 := none)) (h2 := by simp [drs, hsum])


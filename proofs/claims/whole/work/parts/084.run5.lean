/-! the system's run -/
theorem strF_h3 {R H H1 : q_Mem} {v : Nat → Int} {o p : Nat} (h3 : H1 3 = H 3) : strF R o H1 v p = strF R o H v p := by
  unfold strF wdL wdI
  rw [h3]
theorem stP_h3 {R B B1 : q_Mem} {v : Nat → Int} {o : Nat} (h3 : B1 3 = B 3) : ∀ n, stP R o B1 v n = stP R o B v n
  | 0 => by unfold stP; rw [h3]
  | n + 1 => by
    unfold stP
    rw [stP_h3 h3 n]
    exact strF_h3 (by funext j; unfold q_up; rw [h3])
theorem nowV_h {B B1 : q_Mem} (h3 : B1 3 = B 3) (h7 : B1 7 = B 7) : nowV B1 0 = nowV B 0 := by
  show toldV B1 3 (B1 3 11) 0 = toldV B 3 (B 3 11) 0
  unfold toldV
  rw [h3, show (3 + 4 : Nat) = 7 from rfl, h7]
theorem strM_row {R B : q_Mem} {o a : Nat} (h : a ≠ 3) : strM R o B a = B a := q_up_ne h
theorem strM_h {R B B1 : q_Mem} {o : Nat} (h3 : B1 3 = B 3) (h7 : B1 7 = B 7) : strM R o B1 3 = strM R o B 3 := by
  unfold strM
  rw [nowV_h h3 h7, stP_h3 h3, h3]
  funext j
  unfold q_up
  rw [h3]
theorem sngV_h {R B B1 : q_Mem} {o : Nat} (h3 : B1 3 = B 3) (h7 : B1 7 = B 7) : sngV R o B1 = sngV R o B := by
  funext q
  unfold sngV wdL wdI
  rw [nowV_h h3 h7, strM_h h3 h7]
theorem ruM_ex {R B B1 : q_Mem} {o : Nat} (hE : Exc [86, 87, 88] B B1) : Exc [86, 87, 88] (ruM R o B) (ruM R o B1) := by
  have h3 : B1 3 = B 3 := hE 3 (by decide)
  have h7 : B1 7 = B 7 := hE 7 (by decide)
  have hs := strM_h (R := R) (o := o) h3 h7
  have hn : nxt (strM R o B1) 3 (B1 3 12) (sngV R o B1) = nxt (strM R o B) 3 (B 3 12) (sngV R o B) := by
    rw [sngV_h h3 h7, h3]
    exact nxt_congr hs.symm (by rw [strM_row (by decide), strM_row (by decide)]; exact (hE 4 (by decide)).symm) (by rw [strM_row (by decide), strM_row (by decide)]; exact (hE 6 (by decide)).symm) (fun _ _ => rfl)
  intro a ha
  unfold ruM
  rw [hn, h3]
  funext j
  by_cases c : a = 3
  · subst c
    unfold q_up
    rw [hs]
  · rw [q_up_ne c, q_up_ne c, q_up_ne c, q_up_ne c, strM_row c, strM_row c, hE a ha]
/-- so many beats by a rule -/
def ruN (R : q_Mem) (o : Nat) (B : q_Mem) : Nat → q_Mem
  | 0 => B
  | n + 1 => ruM R o (ruN R o B n)
theorem ruM_f {R B : q_Mem} {o j : Nat} (h11 : ¬ j = 11) (h12 : ¬ j = 12) (h13 : ¬ j = 13) : ruM R o B 3 j = B 3 j := by
  unfold ruM strM
  simp [q_up, h11, h12, h13]
theorem ruM_11 {R B : q_Mem} {o : Nat} : ruM R o B 3 11 = B 3 11 + 1 := by
  unfold ruM
  simp [q_up]
theorem ruM_row {R B : q_Mem} {o a : Nat} (h : a ≠ 3) : ruM R o B a = B a := by
  unfold ruM
  rw [q_up_ne h, q_up_ne h, strM_row h]
theorem ruN_11 {R B : q_Mem} {o : Nat} : ∀ n : Nat, ruN R o B n 3 11 = B 3 11 + n
  | 0 => by simp [ruN]
  | n + 1 => by rw [show ruN R o B (n + 1) = ruM R o (ruN R o B n) from rfl, ruM_11, ruN_11 n]; omega
theorem ruN_f {R B : q_Mem} {o j : Nat} (h11 : ¬ j = 11) (h12 : ¬ j = 12) (h13 : ¬ j = 13) : ∀ n : Nat, ruN R o B n 3 j = B 3 j
  | 0 => rfl
  | n + 1 => by rw [show ruN R o B (n + 1) = ruM R o (ruN R o B n) from rfl, ruM_f h11 h12 h13, ruN_f h11 h12 h13 n]
theorem ruN_row {R B : q_Mem} {o a : Nat} (h : a ≠ 3) : ∀ n : Nat, ruN R o B n a = B a
  | 0 => rfl
  | n + 1 => by rw [show ruN R o B (n + 1) = ruM R o (ruN R o B n) from rfl, ruM_row h, ruN_row h n]
theorem NowOk.ruN {R B : q_Mem} {o : Nat} (hB : NowOk B) : ∀ n : Nat, B 3 11 + n ≤ 9999 → NowOk (ruN R o B n)
  | 0, _ => hB
  | n + 1, h => (NowOk.ruN hB n (by omega)).ru (by rw [ruN_11]; omega)
theorem ruR_v {k : Int} (h : 0 ≤ k ∧ k < 6) : ([.ref 47, .ref 53, .ref 59, .ref 65, .ref 71, .ref 77] : List Value).getD k.toNat .null = .ref (47 + 6 * k.toNat) := by
  have hc : k = 0 ∨ k = 1 ∨ k = 2 ∨ k = 3 ∨ k = 4 ∨ k = 5 := by omega
  rcases hc with rfl | rfl | rfl | rfl | rfl | rfl <;> rfl
theorem ru_is {k : Nat} (h : k < 6) : isRu (47 + 6 * k) := by
  unfold isRu
  omega
def runOk (M : q_Mem) (r n : Int) : Prop := (0 ≤ r ∧ r < M 0 6) ∧ (1 ≤ n ∧ n ≤ 100) ∧ M 3 0 = 1 ∧ M 3 11 + n ≤ 9999
theorem C_run {G : q_G} {d : Nat} {M : q_Mem} {N : q_MemL} {r n : Int} (hd : 7 ≤ d) (hM : NowOk M) (h6 : 0 ≤ M 0 6 ∧ M 0 6 ≤ 6) (hC : ∀ k : Nat, (k : Int) < M 0 6 → RuC M (47 + 6 * k)) (hr : i32 r) (hn : i32 n) : AC0 G d m_X10_run [.ref 0, I r, I n] M N (CV (fun x M' N' => (∀ a, ¬ a = 89 → ¬ a = 90 → N' a = N a) ∧ ((¬ runOk M r n ∧ x = I (-1) ∧ M' = M) ∨ (runOk M r n ∧ x = I (M 3 11 + n) ∧ Exc [86, 87, 88] (q_up (ruN M (47 + 6 * r.toNat) M n.toNat) 3 15 0) M' ∧ ∀ j, ¬ j = 5 → M' 86 j = M 86 j)))) := by
  have hH : isHome 3 := Or.inl rfl
  have hrr := hr
  have hnn := hn
  unfold i32 at hrr hnn
  obtain ⟨h0, h1, h2, h3, h4, h5, h6', h11, h12, h13, h15, -⟩ := id hM
  have no : ¬ runOk M r n → ∀ l3 l4, AW0 G d m_X10_run 40 [some (.ref 0), some (I r), some (I n), l3, l4] [] M N (CV (fun x M' N' => (∀ a, ¬ a = 89 → ¬ a = 90 → N' a = N a) ∧ ((¬ runOk M r n ∧ x = I (-1) ∧ M' = M) ∨ (runOk M r n ∧ x = I (M 3 11 + n) ∧ Exc [86, 87, 88] (q_up (ruN M (47 + 6 * r.toNat) M n.toNat) 3 15 0) M' ∧ ∀ j, ¬ j = 5 → M' 86 j = M 86 j)))) := by
    intro h l3 l4
    refine st_iconst dX10_run_40 ?_
    exact r_i dX10_run_41 rfl ⟨fun _ _ _ => rfl, Or.inl ⟨h, rfl, rfl⟩⟩
  have ca : AC0 G (d - 1) m_X10_ruleAt [.ref 0, I r] M N (CV (fun x M' N' => M' = M ∧ N' = N ∧ (((0 ≤ r ∧ r < 6) ∧ x = .ref (47 + 6 * r.toNat)) ∨ (¬ (0 ≤ r ∧ r < 6) ∧ x = .null)))) := by
    refine AC.of (L0 := [_, _]) pn_X10 (Nat.le_of_ble_eq_true rfl) rfl ?_
    refine st_iload_n dX10_ruleAt_0 rfl ?_
    refine st_if_lt (tgt := 22) dX10_ruleAt_1 (by omega) rfl (fun h => ?_) (fun h => ?_)
    · refine st_aconst_null dX10_ruleAt_22 ?_
      exact r_aN dX10_ruleAt_23 rfl ⟨rfl, rfl, Or.inr ⟨by omega, rfl⟩⟩
    · refine st_iload_n dX10_ruleAt_4 rfl ?_
      refine st_aload_n dX10_ruleAt_5 rfl ?_
      refine st_getfr dX10_ruleAt_6 f_X10_32 (by first | with_reducible assumption | rfl) (by rfl) ?_
      refine st_alen dX10_ruleAt_9 (by first | with_reducible assumption | rfl) (by decide) ?_
      refine st_icmp_ge (tgt := 22) dX10_ruleAt_10 (by omega) (by omega) rfl (fun h7 => ?_) (fun h7 => ?_)
      · refine st_aconst_null dX10_ruleAt_22 ?_
        exact r_aN dX10_ruleAt_23 rfl ⟨rfl, rfl, Or.inr ⟨by omega, rfl⟩⟩
      · refine st_aload_n dX10_ruleAt_13 rfl ?_
        refine st_getfr dX10_ruleAt_14 f_X10_32 (by first | with_reducible assumption | rfl) (by rfl) ?_
        refine st_iload_n dX10_ruleAt_17 rfl ?_
        refine st_aald dX10_ruleAt_18 sh_46 (Or.inr rfl) (by omega) (by omega) (ruR_v (by omega)) ?_
        refine st_goto (tgt := 23) dX10_ruleAt_19 rfl ?_
        exact r_a dX10_ruleAt_23 rfl ⟨rfl, rfl, Or.inl ⟨by omega, rfl⟩⟩
  refine AC.of (L0 := [_, _, _, none, none]) pn_X10 (Nat.le_of_ble_eq_true rfl) rfl ?_
  refine st_aload_n dX10_run_0 rfl ?_
  refine st_iload_n dX10_run_1 rfl ?_
  refine c_V1i (d' := d - 1) dX10_run_2 l_X10_120 k_X10_ruleAt i_X10_ruleAt (Or.inl ⟨_, _, _, _, _, (by first | assumption | rfl), by rfl⟩) (by omega) (Nat.le_of_ble_eq_true rfl) ca (fun x M1 N1 hx => ?_)
  obtain ⟨rfl, rfl, hx⟩ := hx
  rcases hx with ⟨hk, rfl⟩ | ⟨hk, rfl⟩
  · obtain ⟨q, rfl⟩ : ∃ q : Nat, r = q := ⟨r.toNat, by omega⟩
    rw [Int.toNat_natCast] at *
    have ho := ru_is (k := q) (by omega)
    have hsh := sh_ru ho
    refine st_astore_n (L' := [_, _, _, _, _]) dX10_run_5 (by decide) rfl rfl ?_
    refine st_aload_n dX10_run_6 rfl ?_
    refine st_ifnull dX10_run_7 ?_
    refine st_iload_n dX10_run_10 rfl ?_
    refine st_aload_n dX10_run_11 rfl ?_
    refine st_getfi dX10_run_12 f_X10_117 (by first | with_reducible assumption | rfl) (by rfl) ?_
    refine st_icmp_ge (tgt := 40) dX10_run_15 (by omega) (by omega) rfl (fun c1 => ?_) (fun c1 => ?_)
    · skip
      exact no (fun z => by have := z.1; omega) _ _
    · refine st_iload_n dX10_run_18 rfl ?_
      refine st_iconst dX10_run_19 ?_
      refine st_icmp_lt (tgt := 40) dX10_run_20 (by omega) (by omega) rfl (fun c2 => ?_) (fun c2 => ?_)
      · skip
        exact no (fun z => by have := z.2.1; omega) _ _
      · refine st_iload_n dX10_run_23 rfl ?_
        refine st_bipush dX10_run_24 (by decide) ?_
        refine st_icmp_gt (tgt := 40) dX10_run_26 (by omega) (by omega) rfl (fun c3 => ?_) (fun c3 => ?_)
        · skip
          exact no (fun z => by have := z.2.1; omega) _ _
        · refine st_aload_n dX10_run_29 rfl ?_
          refine st_getfr dX10_run_30 f_X10_19 (by first | with_reducible assumption | rfl) (by rfl) ?_
          refine st_iload_n dX10_run_33 rfl ?_
          refine c_V1p (d' := d - 1) dX10_run_34 l_X10_206 k_X2_canBeat i_X2_canBeat (Or.inl ⟨_, _, _, _, _, (by first | with_reducible assumption | rfl), by rfl⟩) (by omega) (Nat.le_of_ble_eq_true rfl) (C_canBeat hH h0 (by omega) (by omega)) ?_
          refine b_ne (tgt := 42) dX10_run_37 rfl (fun c4 => ?_) (fun c4 => ?_)
          · refine st_iconst dX10_run_42 ?_
            refine st_istore (L' := [_, _, _, _, _]) dX10_run_43 (by decide) rfl rfl ?_
            obtain ⟨m0, rfl⟩ : ∃ m0 : Nat, n = m0 := ⟨n.toNat, by omega⟩
            rw [Int.toNat_natCast] at *
            have hok : runOk M1 q m0 := ⟨by omega, by omega, c4⟩
            have hCq := hC q (by omega)
            have loop : ∀ (m k : Nat) (M2 : q_Mem) (N2 : q_MemL), k + m = m0 → Exc [86, 87, 88] (ruN M1 (47 + 6 * q) M1 k) M2 → (∀ j, ¬ j = 5 → M2 86 j = M1 86 j) → (∀ a, ¬ a = 89 → ¬ a = 90 → N2 a = N1 a) → AW0 G d m_X10_run 45 [some (.ref 0), some (I q), some (I m0), some (.ref (47 + 6 * q)), some (I k)] [] M2 N2 (CV (fun x M' N' => (∀ a, ¬ a = 89 → ¬ a = 90 → N' a = N1 a) ∧ ((¬ runOk M1 q m0 ∧ x = I (-1) ∧ M' = M1) ∨ (runOk M1 q m0 ∧ x = I (M1 3 11 + m0) ∧ Exc [86, 87, 88] (q_up (ruN M1 (47 + 6 * q) M1 m0) 3 15 0) M' ∧ ∀ j, ¬ j = 5 → M' 86 j = M1 86 j)))) := by
              intro m
              induction m with
              | zero =>
                intro k M2 N2 hk hE h86 hN2
                have hk2 : k = m0 := by omega
                subst hk2
                refine st_iload dX10_run_45 rfl ?_
                refine st_iload_n dX10_run_47 rfl ?_
                refine st_icmp_ge (tgt := 65) dX10_run_48 (by omega) (by omega) rfl (fun c5 => ?_) (fun c5 => ?_)
                · refine st_aload_n dX10_run_65 rfl ?_
                  refine st_getfr dX10_run_66 f_X10_19 (by first | with_reducible assumption | rfl) (by rfl) ?_
                  refine st_iconst dX10_run_69 ?_
                  refine st_putfi dX10_run_70 w_X10_236 (by first | with_reducible assumption | rfl) (by rfl) rfl rfl ?_
                  refine st_aload_n dX10_run_73 rfl ?_
                  refine st_getfr dX10_run_74 f_X10_19 (by first | with_reducible assumption | rfl) (by rfl) ?_
                  refine st_getfi dX10_run_77 f_X10_144 (by first | with_reducible assumption | rfl) (by rfl) ?_
                  have e11 : q_up M2 3 15 0 3 11 = M1 3 11 + k := by
                    rw [show q_up M2 3 15 0 3 11 = M2 3 11 by simp [q_up], hE 3 (by decide), ruN_11]
                  rw [e11]
                  refine r_i dX10_run_80 rfl ⟨hN2, Or.inr ⟨hok, rfl, fun a ha => ?_, fun j hj => by rw [q_up_ne (by decide)]; exact h86 j hj⟩⟩
                  funext j
                  unfold q_up
                  rw [hE a ha]
                · skip
                  omega
              | succ m ih =>
                intro k M2 N2 hk hE h86 hN2
                have hB2 : NowOk M2 := (NowOk.ruN (R := M1) (o := 47 + 6 * q) hM k (by omega)).ex (fun a a1 a2 => hE a (by simp; omega))
                have hr2 : ruRow M1 M2 (47 + 6 * q) := fun a a1 a2 => by rw [hE a (by simp; omega), ruN_row (by omega)]
                refine st_iload dX10_run_45 rfl ?_
                refine st_iload_n dX10_run_47 rfl ?_
                refine st_icmp_ge (tgt := 65) dX10_run_48 (by omega) (by omega) rfl (fun c5 => ?_) (fun c5 => ?_)
                · skip
                  omega
                · refine st_aload_n dX10_run_51 rfl ?_
                  refine st_getfr dX10_run_52 f_X10_60 (by first | with_reducible assumption | rfl) (by rfl) ?_
                  refine st_aload_n dX10_run_55 rfl ?_
                  refine c_V1v (d' := d - 1) dX10_run_56 l_X10_242 k_X6_goOn i_X6_goOn (Or.inl ⟨_, _, _, _, _, (by first | with_reducible assumption | rfl), by rfl⟩) (by omega) (Nat.le_of_ble_eq_true rfl) (C_goOn (R := M1) (by omega) ho hr2 hCq hB2) (fun M3 N3 hx => ?_)
                  obtain ⟨hE3, h863, hN3⟩ := hx
                  refine st_iinc (L' := [_, _, _, _, _]) dX10_run_59 rfl (by decide) rfl rfl ?_
                  refine st_goto (tgt := 45) dX10_run_62 rfl ?_
                  refine AW.to (ih (k + 1) M3 N3 (by omega) ((ruM_ex hE).tr hE3) (fun j hj => by rw [h863 j hj]; exact h86 j hj) (fun a a1 a2 => (hN3 a a1 a2).trans (hN2 a a1 a2))) (h2 := by simp)
            refine AW.to (loop m0 0 M1 N1 (by omega) Exc.rf (fun _ _ => rfl) (fun _ _ _ => rfl)) (h2 := rfl)
          · skip
            exact no (fun z => c4 z.2.2) _ _
  · refine st_astore_nZ (L' := [_, _, _, _, _]) dX10_run_5 (by decide) rfl rfl ?_
    refine st_aload_nV dX10_run_6 rfl (Or.inl rfl) ?_
    refine st_ifnullN (tgt := 40) dX10_run_7 rfl ?_
    exact no (fun z => hk (by have := z.1; omega)) _ _


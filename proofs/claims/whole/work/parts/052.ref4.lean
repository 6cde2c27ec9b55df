/-! the reference: what is asked of all as they are -/
def RN (B M : q_Mem) : Prop := NowOk B ∧ RS B M (B 3 12) (B 3 11)
theorem RN.exc {X : List Nat} {B M M' : q_Mem} (h : RN B M) (hE : Exc X M M') (hd : ∀ a, a ∈ X → a ∉ rfX) : RN B M' := ⟨h.1, h.2.exc hE hd⟩
theorem told_of {B : q_Mem} (h : NowOk B) (h2 : 0 < B 3 4 ∨ 0 < B 3 5 ∨ 0 < B 3 3 ∨ 0 < B 3 2 ∨ 0 < B 3 1) : B 3 0 = 1 := by
  obtain ⟨h0, h1, h2', h3, h4, h5, h6, h11, h12, h13, h15, h17, h18, hb, hc, hw, hv, hp, he, ht1, ht0⟩ := h
  rcases h0 with z | z
  · have := ht0 z
    omega
  · exact z
theorem nowV_rng {B : q_Mem} (h : NowOk B) (b s : Int) (q : Nat) : 0 ≤ toldV B 3 b s q ∧ toldV B 3 b s q ≤ 30 := by
  obtain ⟨h0, h1, h2', h3, h4, h5, h6, h11, h12, h13, h15, h17, h18, hb, hc, hw, hv, hp, he, ht1, ht0⟩ := h
  exact toldV_rng hv q
theorem C_rHeardV {G : q_G} {d : Nat} {B M : q_Mem} {N : q_MemL} {w b : Int} {v : Nat → Int} {q : Nat} (hd : 1 ≤ d) (hB : NowOk B) (hS : RS B M w b) (hv : ∀ o, o < (B 3 4).toNat → M 143 o = v o) (rv : ∀ o, o < (B 3 4).toNat → 0 ≤ v o ∧ v o ≤ 30) (hq : q < (B 3 4).toNat) : AC0 G d m_X11_heardOf [.ref 112, I q] M N (CV (PU (I (hearP (B 3 4).toNat (B 3 6) (g8 w) (g4 (B 3 13)) v q)) M N)) := by
  rw [← hearP_congr (v := M 143) hq (fun _ _ => rfl) (fun _ _ => rfl) hv]
  exact C_rHeardOf hd hB hS.1 hS.2.2.1.1 hS.2.1.1 (g8_lt _) (g4_lt _) (fun o ho => by rw [hv o ho]; exact rv o ho) hq
theorem C_rHeardTV {G : q_G} {d : Nat} {B M : q_Mem} {N : q_MemL} {w b : Int} {v : Nat → Int} {t : Nat} (hB : NowOk B) (hS : RS B M w b) (hv : ∀ o, o < (B 3 4).toNat → M 143 o = v o) (rv : ∀ o, o < (B 3 4).toNat → 0 ≤ v o ∧ v o ≤ 30) (ht : t < (B 3 5).toNat) : AC0 G d m_X11_heardOfThing [.ref 112, I t] M N (CV (PU (I (hearT (B 3 4).toNat (B 6 t) (g8 w) (g4 (B 3 13)) v t)) M N)) := by
  rw [← hearT_congr (v := M 143) rfl (fun _ _ => rfl) (fun _ _ => rfl) hv rfl rfl]
  exact C_rHeardOfThing hB hS.1 hS.2.2.1.1 hS.2.1.1 (hS.2.2.1.2 t ht) (hS.2.1.2 t ht) (g8_lt _) (g4_lt _) (fun o ho => by rw [hv o ho]; exact rv o ho) ht
theorem C_rstorey {G : q_G} {d : Nat} {B M : q_Mem} {N : q_MemL} {x : Int} (hd : 2 ≤ d) (hN : RN B M) (hx : i32 x) : AC0 G d m_X11_storey [.ref 112, I x] M N (CV (PU (I (A_storey B x)) M N)) := by
  obtain ⟨hB, hT, hP, hW, hb6⟩ := id hN
  have hx2 := hx
  unfold i32 at hx2
  refine AC.of (L0 := [_, _]) pn_X11 (Nat.le_of_ble_eq_true rfl) rfl ?_
  refine st_aload_n dX11_storey_0 rfl ?_
  refine c_V0p (d' := d - 1) dX11_storey_1 l_X11_186 k_X11_isHouse i_X11_isHouse (Or.inl ⟨_, _, _, _, _, (by first | with_reducible assumption | rfl), by rfl⟩) (by omega) (Nat.le_of_ble_eq_true rfl) (C_isHouse hB hT) ?_
  unfold A_storey
  refine b_eq (tgt := 27) dX11_storey_4 rfl (fun h7 => ?_) (fun h7 => ?_)
  · refine st_iconst dX11_storey_27 ?_
    exact r_i dX11_storey_28 rfl ⟨by rw [if_neg (fun z => h7 z.1)], rfl, rfl⟩
  · refine st_iload_n dX11_storey_7 rfl ?_
    refine st_i2lK dX11_storey_8 (by omega) ?_
    refine st_lc0K dX11_storey_9 ?_
    refine st_ldc2 dX11_storey_10 l_X11_421 ?_
    refine AW.topv (show _ = J 9999 from rfl) ?_
    refine c_S3p (d' := d - 1) dX11_storey_13 l_X11_182 k_X11_in s_X11_in (by omega) (Nat.le_of_ble_eq_true rfl) (C_in (by omega) (by omega) (by omega)) ?_
    refine b_eq (tgt := 27) dX11_storey_16 rfl (fun h8 => ?_) (fun h8 => ?_)
    · refine st_iconst dX11_storey_27 ?_
      exact r_i dX11_storey_28 rfl ⟨by rw [if_neg (fun z => h8 z.2)], rfl, rfl⟩
    · refine st_aload_n dX11_storey_19 rfl ?_
      refine st_iload_n dX11_storey_20 rfl ?_
      refine c_V1p (d' := d - 1) dX11_storey_21 l_X11_402 k_X11_storeyOf i_X11_storeyOf (Or.inl ⟨_, _, _, _, _, (by first | with_reducible assumption | rfl), by rfl⟩) (by omega) (Nat.le_of_ble_eq_true rfl) (C_rStoreyOf (by omega) hB hT hx) ?_
      refine st_goto (tgt := 28) dX11_storey_24 rfl ?_
      exact r_i dX11_storey_28 rfl ⟨by rw [if_pos ⟨h7, h8⟩], rfl, rfl⟩
theorem C_rseed {G : q_G} {d : Nat} {M : q_Mem} {N : q_MemL} {x : Int} (hx : i32 x) : AC0 G d m_X11_seed [.ref 112, I x] M N (CV (fun v M' N' => v = I (if x < 0 then -1 else M 113 8) ∧ N' = N ∧ M' = if x < 0 then M else q_up M 113 8 x)) := by
  unfold i32 at hx
  refine AC.of (L0 := [_, _, none]) pn_X11 (Nat.le_of_ble_eq_true rfl) rfl ?_
  refine st_iload_n dX11_seed_0 rfl ?_
  refine st_if_ge (tgt := 6) dX11_seed_1 (by omega) rfl (fun h => ?_) (fun h => ?_)
  · refine st_aload_n dX11_seed_6 rfl ?_
    refine st_getfr dX11_seed_7 f_X11_9 (by first | with_reducible assumption | rfl) (by rfl) ?_
    refine st_bipush dX11_seed_10 (by decide) ?_
    refine st_ialdK (k' := 8) dX11_seed_12 (by first | with_reducible assumption | rfl) rfl (by omega) (hn := by first | decide | omega) ?_
    refine st_istore_n (L' := [_, _, _]) dX11_seed_13 (by decide) rfl rfl ?_
    refine st_aload_n dX11_seed_14 rfl ?_
    refine st_getfr dX11_seed_15 f_X11_9 (by first | with_reducible assumption | rfl) (by rfl) ?_
    refine st_bipush dX11_seed_18 (by decide) ?_
    refine st_iload_n dX11_seed_20 rfl ?_
    refine st_iastK (k' := 8) dX11_seed_21 (by first | assumption | rfl) rfl (by omega) (hn := by first | decide | omega) ?_
    refine st_iload_n dX11_seed_22 rfl ?_
    rw [if_neg (by omega), if_neg (by omega)]
    exact r_i dX11_seed_23 rfl ⟨rfl, rfl, rfl⟩
  · refine st_iconst dX11_seed_4 ?_
    rw [if_pos (by omega), if_pos (by omega)]
    exact r_i dX11_seed_5 rfl ⟨rfl, rfl, rfl⟩
theorem C_rperson {G : q_G} {d : Nat} {B M : q_Mem} {N : q_MemL} {p what : Int} (hd : 3 ≤ d) (hN : RN B M) (hp : i32 p) (hw : i32 what) : AC0 G d m_X11_person [.ref 112, I p, I what] M N (CV (fun v M' N' => v = I (A_person B p what) ∧ N' = N ∧ Exc [143] M M')) := by
  obtain ⟨hB, hT, hP, hW, hb6⟩ := id hN
  obtain ⟨h0, h1, h2, h3, h4, h5, h6, h11, h12, h13, h15, h17, h18, -⟩ := id hB
  obtain ⟨⟨t0, t1, t2, t3, t4, t5, t7⟩, ts, tp, tt, te⟩ := id hT
  have hpp := hp
  unfold i32 at hpp hw
  refine AC.of (L0 := [_, _, _]) pn_X11 (Nat.le_of_ble_eq_true rfl) rfl ?_
  refine st_aload_n dX11_person_0 rfl ?_
  refine st_iload_n dX11_person_1 rfl ?_
  refine c_V1p (d' := d - 1) dX11_person_2 l_X11_408 k_X11_isPerson i_X11_isPerson (Or.inl ⟨_, _, _, _, _, (by first | with_reducible assumption | rfl), by rfl⟩) (by omega) (Nat.le_of_ble_eq_true rfl) (C_isPerson (by omega) hB hT hp) ?_
  refine b_ne (tgt := 10) dX11_person_5 rfl (fun h7 => ?_) (fun h7 => ?_)
  · refine st_aload_n dX11_person_10 rfl ?_
    have e : A_person B p what = (if what = 0 then g4 (B 3 13) p.toNat else if what = 1 then g8 (B 3 12) p.toNat else if what = 2 then B 7 (p * 6 + hourOf (B 3 2) (B 3 11)).toNat else if what = 3 then hearP (B 3 4).toNat (B 3 6) (g8 (B 3 12)) (g4 (B 3 13)) (nowV B 0) p.toNat else if what = 4 then (if (B 3 6).toNat.testBit p.toNat = true then 1 else 0) else if what = 5 then B 5 p.toNat else if 100 ≤ what ∧ what - 100 < B 3 2 then B 7 (p * 6 + (what - 100)).toNat else -1) := if_pos h7
    have hpe : p = ((p.toNat : Nat) : Int) := by omega
    have hql : p.toNat < (B 3 4).toNat := by omega
    generalize p.toNat = q at hpe hql e
    have hho := hourOf_rng (h := B 3 2) (b := B 3 11) (by omega)
    have htold := told_of hB (Or.inl (by omega))
    subst hpe
    refine c_V0v (d' := d - 1) dX11_person_11 l_X11_412 k_X11_laysNow i_X11_laysNow (Or.inl ⟨_, _, _, _, _, (by first | with_reducible assumption | rfl), by rfl⟩) (by omega) (Nat.le_of_ble_eq_true rfl) (C_laysNow (by omega) hB hT hb6 (by omega) htold) (fun M1 N1 hx => ?_)
    obtain ⟨rfl, hE, hv, -⟩ := hx
    have hN1 := hN.exc hE (by decide)
    refine st_iload_n dX11_person_14 rfl ?_
    by_cases hc : 0 ≤ what ∧ what ≤ 5
    · have hc2 : what = 0 ∨ what = 1 ∨ what = 2 ∨ what = 3 ∨ what = 4 ∨ what = 5 := by omega
      rcases hc2 with rfl | rfl | rfl | rfl | rfl | rfl
      · refine st_tsIn (off := 37) (tgt := 52) dX11_person_15 (by decide) (by decide) (by decide) rfl rfl ?_
        refine st_aload_n dX11_person_52 rfl ?_
        refine st_getfr dX11_person_53 f_X11_16 (by first | with_reducible assumption | rfl) (by rfl) ?_
        refine st_iload_n dX11_person_56 rfl ?_
        first | refine st_ialdK (k' := _) dX11_person_57 (by first | with_reducible assumption | rfl) rfl (by omega) (hn := by first | decide | omega) ?_ | refine st_iald dX11_person_57 (by first | with_reducible assumption | rfl) (by omega) (by omega) (hn := by first | decide | omega) ?_
        rw [hN1.2.2.1.1 q hql]
        exact r_i dX11_person_58 rfl ⟨by rw [e]; rfl, rfl, hE⟩
      · refine st_tsIn (off := 44) (tgt := 59) dX11_person_15 (by decide) (by decide) (by decide) rfl rfl ?_
        refine st_aload_n dX11_person_59 rfl ?_
        refine st_getfr dX11_person_60 f_X11_19 (by first | with_reducible assumption | rfl) (by rfl) ?_
        refine st_iload_n dX11_person_63 rfl ?_
        first | refine st_ialdK (k' := _) dX11_person_64 (by first | with_reducible assumption | rfl) rfl (by omega) (hn := by first | decide | omega) ?_ | refine st_iald dX11_person_64 (by first | with_reducible assumption | rfl) (by omega) (by omega) (hn := by first | decide | omega) ?_
        rw [hN1.2.2.2.1.1 q hql]
        exact r_i dX11_person_65 rfl ⟨by rw [e]; rfl, rfl, hE⟩
      · refine st_tsIn (off := 51) (tgt := 66) dX11_person_15 (by decide) (by decide) (by decide) rfl rfl ?_
        refine st_aload_n dX11_person_66 rfl ?_
        refine st_getfr dX11_person_67 f_X11_107 (by first | with_reducible assumption | rfl) (by rfl) ?_
        refine st_iload_n dX11_person_70 rfl ?_
        first | refine st_ialdK (k' := _) dX11_person_71 (by first | with_reducible assumption | rfl) rfl (by omega) (hn := by first | decide | omega) ?_ | refine st_iald dX11_person_71 (by first | with_reducible assumption | rfl) (by omega) (by omega) (hn := by first | decide | omega) ?_
        rw [hv q hql]
        exact r_i dX11_person_72 rfl ⟨by rw [e]; show I (toldV B 3 (B 3 11) 0 q) = I (B 7 _); congr 2; unfold toldV; simp; congr 1; omega, rfl, hE⟩
      · refine st_tsIn (off := 58) (tgt := 73) dX11_person_15 (by decide) (by decide) (by decide) rfl rfl ?_
        refine st_aload_n dX11_person_73 rfl ?_
        refine st_iload_n dX11_person_74 rfl ?_
        refine c_V1p (d' := d - 1) dX11_person_75 l_X11_399 k_X11_heardOf i_X11_heardOf (Or.inl ⟨_, _, _, _, _, (by first | with_reducible assumption | rfl), by rfl⟩) (by omega) (Nat.le_of_ble_eq_true rfl) (C_rHeardV (by omega) hB hN1.2 hv (fun o _ => nowV_rng hB _ _ o) hql) ?_
        exact r_i dX11_person_78 rfl ⟨by rw [e]; rfl, rfl, hE⟩
      · refine st_tsIn (off := 64) (tgt := 79) dX11_person_15 (by decide) (by decide) (by decide) rfl rfl ?_
        refine st_aload_n dX11_person_79 rfl ?_
        refine st_getfr dX11_person_80 f_X11_9 (by first | with_reducible assumption | rfl) (by rfl) ?_
        refine st_iconst dX11_person_83 ?_
        refine st_ialdK (k' := 5) dX11_person_84 (by first | with_reducible assumption | rfl) rfl (by omega) (hn := by first | decide | omega) ?_
        rw [hN1.2.1.1.2.2.2.2.2.1]
        refine st_iload_n dX11_person_85 rfl ?_
        refine st_ishr dX11_person_86 ?_; refine st_iconst dX11_person_87 ?_; refine st_iand dX11_person_88 ?_; refine AW.top (z_bit (by omega) (by omega)) ?_
        exact r_i dX11_person_89 rfl ⟨by rw [e]; rfl, rfl, hE⟩
      · refine st_tsIn (off := 75) (tgt := 90) dX11_person_15 (by decide) (by decide) (by decide) rfl rfl ?_
        refine st_aload_n dX11_person_90 rfl ?_
        refine st_getfr dX11_person_91 f_X11_25 (by first | with_reducible assumption | rfl) (by rfl) ?_
        refine st_iload_n dX11_person_94 rfl ?_
        first | refine st_ialdK (k' := _) dX11_person_95 (by first | with_reducible assumption | rfl) rfl (by omega) (hn := by first | decide | omega) ?_ | refine st_iald dX11_person_95 (by first | with_reducible assumption | rfl) (by omega) (by omega) (hn := by first | decide | omega) ?_
        rw [(hN1.2.1.2.2.1 q hql).2]
        exact r_i dX11_person_96 rfl ⟨by rw [e]; rfl, rfl, hE⟩
    · rw [if_neg (by omega), if_neg (by omega), if_neg (by omega), if_neg (by omega), if_neg (by omega), if_neg (by omega)] at e
      refine st_tsOut (tgt := 97) dX11_person_15 (by omega) (by omega) rfl ?_
      refine st_aload_n dX11_person_97 rfl ?_
      refine st_iload_n dX11_person_98 rfl ?_
      refine st_bipush dX11_person_99 (by decide) ?_
      refine st_isub dX11_person_101 ?_
      by_cases hlow : -2147483548 ≤ what
      · refine c_V1p (d' := d - 1) dX11_person_102 l_X11_415 k_X11_isHour i_X11_isHour (Or.inl ⟨_, _, _, _, _, (by first | with_reducible assumption | rfl), by rfl⟩) (by omega) (Nat.le_of_ble_eq_true rfl) (C_isHour (by omega) hB hN1.2.1 (by unfold i32; omega)) ?_
        refine b_eq (tgt := 125) dX11_person_105 rfl (fun h9 => ?_) (fun h9 => ?_)
        · refine st_iconst dX11_person_125 ?_
          exact r_i dX11_person_126 rfl ⟨by rw [e, if_neg (by omega)], rfl, hE⟩
        · refine st_aload_n dX11_person_108 rfl ?_
          refine st_getfr dX11_person_109 f_X11_22 (by first | with_reducible assumption | rfl) (by rfl) ?_
          refine st_bipush dX11_person_112 (by decide) ?_
          refine st_iload_n dX11_person_114 rfl ?_
          refine st_imul dX11_person_115 ?_
          refine st_iload_n dX11_person_116 rfl ?_
          refine st_iadd dX11_person_117 ?_
          refine st_bipush dX11_person_118 (by decide) ?_
          refine st_isub dX11_person_120 ?_
          obtain ⟨h, hh⟩ : ∃ h : Nat, what = 100 + (h : Int) := ⟨(what - 100).toNat, by omega⟩
          rw [show (6 : Int) * (q : Int) + what - 100 = ((6 * q + h : Nat) : Int) by omega]
          first | refine st_ialdK (k' := _) dX11_person_121 (by first | with_reducible assumption | rfl) rfl (by omega) (hn := by first | decide | omega) ?_ | refine st_iald dX11_person_121 (by first | with_reducible assumption | rfl) (by omega) (by omega) (hn := by first | decide | omega) ?_
          rw [(hN1.2.1.2.2.1 q hql).1 h (by omega)]
          refine st_goto (tgt := 126) dX11_person_122 rfl ?_
          exact r_i dX11_person_126 rfl ⟨by rw [e, if_pos (by omega), show ((q : Int) * 6 + (what - 100)).toNat = q * 6 + h by omega], rfl, hE⟩
      · rw [show I (what - 100) = I (what - 100 + 4294967296) by simp only [I]; congr 1; rw [zi_mod (what - 100), zi_mod (what - 100 + 4294967296)]; congr 3; omega]
        refine c_V1p (d' := d - 1) dX11_person_102 l_X11_415 k_X11_isHour i_X11_isHour (Or.inl ⟨_, _, _, _, _, (by first | with_reducible assumption | rfl), by rfl⟩) (by omega) (Nat.le_of_ble_eq_true rfl) (C_isHour (by omega) hB hN1.2.1 (by unfold i32; omega)) ?_
        refine b_eq (tgt := 125) dX11_person_105 rfl (fun h9 => ?_) (fun h9 => ?_)
        · refine st_iconst dX11_person_125 ?_
          exact r_i dX11_person_126 rfl ⟨by rw [e, if_neg (by omega)], rfl, hE⟩
        · skip
          omega
  · refine st_iconst dX11_person_8 ?_
    exact r_i dX11_person_9 rfl ⟨by rw [A_person, if_neg h7], rfl, Exc.rf⟩
theorem C_rthing {G : q_G} {d : Nat} {B M : q_Mem} {N : q_MemL} {t what : Int} (hd : 3 ≤ d) (hN : RN B M) (hp : i32 t) (hw : i32 what) : AC0 G d m_X11_thing [.ref 112, I t, I what] M N (CV (fun v M' N' => v = I (A_thing B t what) ∧ N' = N ∧ Exc [143] M M')) := by
  obtain ⟨hB, hT, hP, hW, hb6⟩ := id hN
  obtain ⟨h0, h1, h2, h3, h4, h5, h6, h11, h12, h13, h15, h17, h18, -⟩ := id hB
  have hpp := hp
  unfold i32 at hpp hw
  refine AC.of (L0 := [_, _, _]) pn_X11 (Nat.le_of_ble_eq_true rfl) rfl ?_
  refine st_aload_n dX11_thing_0 rfl ?_
  refine st_iload_n dX11_thing_1 rfl ?_
  refine c_V1p (d' := d - 1) dX11_thing_2 l_X11_418 k_X11_isThing i_X11_isThing (Or.inl ⟨_, _, _, _, _, (by first | with_reducible assumption | rfl), by rfl⟩) (by omega) (Nat.le_of_ble_eq_true rfl) (C_isThing (by omega) hB hT hp) ?_
  refine b_ne (tgt := 10) dX11_thing_5 rfl (fun h7 => ?_) (fun h7 => ?_)
  · refine st_aload_n dX11_thing_10 rfl ?_
    have e : A_thing B t what = (if what = 0 then g4 (B 3 13) (7 + t.toNat) else if what = 1 then g8 (B 3 12) (7 + t.toNat) else if what = 2 then B 6 t.toNat else if what = 3 then hearT (B 3 4).toNat (B 6 t.toNat) (g8 (B 3 12)) (g4 (B 3 13)) (nowV B 0) t.toNat else -1) := if_pos h7
    have hpe : t = ((t.toNat : Nat) : Int) := by omega
    have hql : t.toNat < (B 3 5).toNat := by omega
    generalize t.toNat = q at hpe hql e
    have htold := told_of hB (Or.inr (Or.inl (by omega)))
    subst hpe
    refine c_V0v (d' := d - 1) dX11_thing_11 l_X11_412 k_X11_laysNow i_X11_laysNow (Or.inl ⟨_, _, _, _, _, (by first | with_reducible assumption | rfl), by rfl⟩) (by omega) (Nat.le_of_ble_eq_true rfl) (C_laysNow (by omega) hB hT hb6 (by omega) htold) (fun M1 N1 hx => ?_)
    obtain ⟨rfl, hE, hv, -⟩ := hx
    have hN1 := hN.exc hE (by decide)
    refine st_iload_n dX11_thing_14 rfl ?_
    by_cases hc : 0 ≤ what ∧ what ≤ 3
    · have hc2 : what = 0 ∨ what = 1 ∨ what = 2 ∨ what = 3 := by omega
      rcases hc2 with rfl | rfl | rfl | rfl
      · refine st_tsIn (off := 29) (tgt := 44) dX11_thing_15 (by decide) (by decide) (by decide) rfl rfl ?_
        refine st_aload_n dX11_thing_44 rfl ?_
        refine st_getfr dX11_thing_45 f_X11_28 (by first | with_reducible assumption | rfl) (by rfl) ?_
        refine st_iload_n dX11_thing_48 rfl ?_
        first | refine st_ialdK (k' := _) dX11_thing_49 (by first | with_reducible assumption | rfl) rfl (by omega) (hn := by first | decide | omega) ?_ | refine st_iald dX11_thing_49 (by first | with_reducible assumption | rfl) (by omega) (by omega) (hn := by first | decide | omega) ?_
        rw [hN1.2.2.1.2 q hql]
        exact r_i dX11_thing_50 rfl ⟨by rw [e]; rfl, rfl, hE⟩
      · refine st_tsIn (off := 36) (tgt := 51) dX11_thing_15 (by decide) (by decide) (by decide) rfl rfl ?_
        refine st_aload_n dX11_thing_51 rfl ?_
        refine st_getfr dX11_thing_52 f_X11_31 (by first | with_reducible assumption | rfl) (by rfl) ?_
        refine st_iload_n dX11_thing_55 rfl ?_
        first | refine st_ialdK (k' := _) dX11_thing_56 (by first | with_reducible assumption | rfl) rfl (by omega) (hn := by first | decide | omega) ?_ | refine st_iald dX11_thing_56 (by first | with_reducible assumption | rfl) (by omega) (by omega) (hn := by first | decide | omega) ?_
        rw [hN1.2.2.2.1.2 q hql]
        exact r_i dX11_thing_57 rfl ⟨by rw [e]; rfl, rfl, hE⟩
      · refine st_tsIn (off := 43) (tgt := 58) dX11_thing_15 (by decide) (by decide) (by decide) rfl rfl ?_
        refine st_aload_n dX11_thing_58 rfl ?_
        refine st_getfr dX11_thing_59 f_X11_34 (by first | with_reducible assumption | rfl) (by rfl) ?_
        refine st_iload_n dX11_thing_62 rfl ?_
        first | refine st_ialdK (k' := _) dX11_thing_63 (by first | with_reducible assumption | rfl) rfl (by omega) (hn := by first | decide | omega) ?_ | refine st_iald dX11_thing_63 (by first | with_reducible assumption | rfl) (by omega) (by omega) (hn := by first | decide | omega) ?_
        rw [hN1.2.1.2.2.2.1 q hql]
        exact r_i dX11_thing_64 rfl ⟨by rw [e]; rfl, rfl, hE⟩
      · refine st_tsIn (off := 50) (tgt := 65) dX11_thing_15 (by decide) (by decide) (by decide) rfl rfl ?_
        refine st_aload_n dX11_thing_65 rfl ?_
        refine st_iload_n dX11_thing_66 rfl ?_
        refine c_V1p (d' := d - 1) dX11_thing_67 l_X11_405 k_X11_heardOfThing i_X11_heardOfThing (Or.inl ⟨_, _, _, _, _, (by first | with_reducible assumption | rfl), by rfl⟩) (by omega) (Nat.le_of_ble_eq_true rfl) (C_rHeardTV hB hN1.2 hv (fun o _ => nowV_rng hB _ _ o) hql) ?_
        exact r_i dX11_thing_70 rfl ⟨by rw [e]; rfl, rfl, hE⟩
    · rw [if_neg (by omega), if_neg (by omega), if_neg (by omega), if_neg (by omega)] at e
      refine st_tsOut (tgt := 71) dX11_thing_15 (by omega) (by omega) rfl ?_
      refine st_iconst dX11_thing_71 ?_
      exact r_i dX11_thing_72 rfl ⟨by rw [e], rfl, hE⟩
  · refine st_iconst dX11_thing_8 ?_
    exact r_i dX11_thing_9 rfl ⟨by rw [A_thing, if_neg h7], rfl, Exc.rf⟩
theorem C_rrent {G : q_G} {d : Nat} {B M : q_Mem} {N : q_MemL} {s : Int} (hd : 3 ≤ d) (hN : RN B M) (hs : i32 s) : AC0 G d m_X11_rent [.ref 112, I s] M N (CV (PU (I (A_rent B s)) M N)) := by
  obtain ⟨hB, hT, hP, hW, hb6⟩ := id hN
  obtain ⟨h0, h1, h2, h3, h4, h5, h6, h11, h12, h13, h15, h17, h18, -⟩ := id hB
  obtain ⟨⟨t0, t1, t2, t3, t4, t5, t7⟩, ts, tp, tt, te⟩ := id hT
  have hss := hs
  unfold i32 at hss
  refine AC.of (L0 := [_, _, none, none]) pn_X11 (Nat.le_of_ble_eq_true rfl) rfl ?_
  refine st_aload_n dX11_rent_0 rfl ?_
  refine st_iload_n dX11_rent_1 rfl ?_
  refine c_V1p (d' := d - 1) dX11_rent_2 l_X11_426 k_X11_isStorey i_X11_isStorey (Or.inl ⟨_, _, _, _, _, (by first | with_reducible assumption | rfl), by rfl⟩) (by omega) (Nat.le_of_ble_eq_true rfl) (C_isStorey (by omega) hB hT hs) ?_
  refine b_ne (tgt := 10) dX11_rent_5 rfl (fun h7 => ?_) (fun h7 => ?_)
  · refine st_iconst dX11_rent_10 ?_
    refine st_istore_n (L' := [_, _, _, _]) dX11_rent_11 (by decide) rfl rfl ?_
    refine st_iconst dX11_rent_12 ?_
    refine st_istore_n (L' := [_, _, _, _]) dX11_rent_13 (by decide) rfl rfl ?_
    have e : A_rent B s = hsum (fun q => if g8 (B 3 12) q = s then B 4 s.toNat else 0) (B 3 4).toNat + hsum (fun t => if g8 (B 3 12) (7 + t) = s then 5 else 0) (B 3 5).toNat := if_pos h7
    have hpe : s = ((s.toNat : Nat) : Int) := by omega
    have hql : s.toNat < 8 := by omega
    generalize s.toNat = k0 at hpe hql e
    subst hpe
    rw [e]
    have l2 : ∀ (n k : Nat), k + n = (B 3 5).toNat → AW0 G d m_X11_rent 54 [some (.ref 112), some (I k0), some (I (hsum (fun q => if g8 (B 3 12) q = k0 then B 4 k0 else 0) (B 3 4).toNat + hsum (fun t => if g8 (B 3 12) (7 + t) = k0 then 5 else 0) k)), some (I k)] [] M N (CV (PU (I (hsum (fun q => if g8 (B 3 12) q = k0 then B 4 k0 else 0) (B 3 4).toNat + hsum (fun t => if g8 (B 3 12) (7 + t) = k0 then 5 else 0) (B 3 5).toNat)) M N)) := by
      intro n
      induction n with
      | zero =>
        intro k hk
        refine st_iload_n dX11_rent_54 rfl ?_
        refine st_aload_n dX11_rent_55 rfl ?_
        refine st_getfr dX11_rent_56 f_X11_9 (by first | with_reducible assumption | rfl) (by rfl) ?_
        refine st_iconst dX11_rent_59 ?_
        refine st_ialdK (k' := 4) dX11_rent_60 (by first | with_reducible assumption | rfl) rfl (by omega) (hn := by first | decide | omega) ?_
        rw [t4]
        refine st_icmp_ge (tgt := 88) dX11_rent_61 (by omega) (by omega) rfl (fun h => ?_) (fun h => ?_)
        · refine st_iload_n dX11_rent_88 rfl ?_
          exact r_i dX11_rent_89 rfl ⟨by rw [show k = (B 3 5).toNat by omega], rfl, rfl⟩
        · skip
          omega
      | succ n ih =>
        intro k hk
        have hg := g8_lt (B 3 12) (7 + k)
        refine st_iload_n dX11_rent_54 rfl ?_
        refine st_aload_n dX11_rent_55 rfl ?_
        refine st_getfr dX11_rent_56 f_X11_9 (by first | with_reducible assumption | rfl) (by rfl) ?_
        refine st_iconst dX11_rent_59 ?_
        refine st_ialdK (k' := 4) dX11_rent_60 (by first | with_reducible assumption | rfl) rfl (by omega) (hn := by first | decide | omega) ?_
        rw [t4]
        refine st_icmp_ge (tgt := 88) dX11_rent_61 (by omega) (by omega) rfl (fun h => ?_) (fun h => ?_)
        · skip
          omega
        · refine st_iload_n dX11_rent_64 rfl ?_
          refine st_aload_n dX11_rent_65 rfl ?_
          refine st_getfr dX11_rent_66 f_X11_31 (by first | with_reducible assumption | rfl) (by rfl) ?_
          refine st_iload_n dX11_rent_69 rfl ?_
          first | refine st_ialdK (k' := _) dX11_rent_70 (by first | with_reducible assumption | rfl) rfl (by omega) (hn := by first | decide | omega) ?_ | refine st_iald dX11_rent_70 (by first | with_reducible assumption | rfl) (by omega) (by omega) (hn := by first | decide | omega) ?_
          rw [hW.2 k (by omega)]
          refine st_iload_n dX11_rent_71 rfl ?_
          refine st_icmp_ne (tgt := 79) dX11_rent_72 (by omega) (by omega) rfl (fun h2 => ?_) (fun h2 => ?_)
          · refine st_iconst dX11_rent_79 ?_
            refine st_iadd dX11_rent_80 ?_
            refine st_istore_n (L' := [_, _, _, _]) dX11_rent_81 (by decide) rfl rfl ?_
            refine st_iinc (L' := [_, _, _, _]) dX11_rent_82 rfl (by decide) rfl rfl ?_
            refine st_goto (tgt := 54) dX11_rent_85 rfl ?_
            exact AW.to (ih (k + 1) (by omega)) (h2 := by simp [hsum, h2, Int.add_assoc])
          · refine st_iconst dX11_rent_75 ?_
            refine st_goto (tgt := 80) dX11_rent_76 rfl ?_
            refine st_iadd dX11_rent_80 ?_
            refine st_istore_n (L' := [_, _, _, _]) dX11_rent_81 (by decide) rfl rfl ?_
            refine st_iinc (L' := [_, _, _, _]) dX11_rent_82 rfl (by decide) rfl rfl ?_
            refine st_goto (tgt := 54) dX11_rent_85 rfl ?_
            exact AW.to (ih (k + 1) (by omega)) (h2 := by simp [hsum, h2, Int.add_assoc])
    have l1 : ∀ (n k : Nat), k + n = (B 3 4).toNat → AW0 G d m_X11_rent 14 [some (.ref 112), some (I k0), some (I (hsum (fun q => if g8 (B 3 12) q = k0 then B 4 k0 else 0) k)), some (I k)] [] M N (CV (PU (I (hsum (fun q => if g8 (B 3 12) q = k0 then B 4 k0 else 0) (B 3 4).toNat + hsum (fun t => if g8 (B 3 12) (7 + t) = k0 then 5 else 0) (B 3 5).toNat)) M N)) := by
      intro n
      induction n with
      | zero =>
        intro k hk
        refine st_iload_n dX11_rent_14 rfl ?_
        refine st_aload_n dX11_rent_15 rfl ?_
        refine st_getfr dX11_rent_16 f_X11_9 (by first | with_reducible assumption | rfl) (by rfl) ?_
        refine st_iconst dX11_rent_19 ?_
        refine st_ialdK (k' := 3) dX11_rent_20 (by first | with_reducible assumption | rfl) rfl (by omega) (hn := by first | decide | omega) ?_
        rw [t3]
        refine st_icmp_ge (tgt := 52) dX11_rent_21 (by omega) (by omega) rfl (fun h => ?_) (fun h => ?_)
        · refine st_iconst dX11_rent_52 ?_
          refine st_istore_n (L' := [_, _, _, _]) dX11_rent_53 (by decide) rfl rfl ?_
          exact AW.to (l2 _ 0 (Nat.zero_add _)) (h2 := by rw [show k = (B 3 4).toNat by omega]; simp [hsum])
        · skip
          omega
      | succ n ih =>
        intro k hk
        have hg := g8_lt (B 3 12) k
        refine st_iload_n dX11_rent_14 rfl ?_
        refine st_aload_n dX11_rent_15 rfl ?_
        refine st_getfr dX11_rent_16 f_X11_9 (by first | with_reducible assumption | rfl) (by rfl) ?_
        refine st_iconst dX11_rent_19 ?_
        refine st_ialdK (k' := 3) dX11_rent_20 (by first | with_reducible assumption | rfl) rfl (by omega) (hn := by first | decide | omega) ?_
        rw [t3]
        refine st_icmp_ge (tgt := 52) dX11_rent_21 (by omega) (by omega) rfl (fun h => ?_) (fun h => ?_)
        · skip
          omega
        · refine st_iload_n dX11_rent_24 rfl ?_
          refine st_aload_n dX11_rent_25 rfl ?_
          refine st_getfr dX11_rent_26 f_X11_19 (by first | with_reducible assumption | rfl) (by rfl) ?_
          refine st_iload_n dX11_rent_29 rfl ?_
          first | refine st_ialdK (k' := _) dX11_rent_30 (by first | with_reducible assumption | rfl) rfl (by omega) (hn := by first | decide | omega) ?_ | refine st_iald dX11_rent_30 (by first | with_reducible assumption | rfl) (by omega) (by omega) (hn := by first | decide | omega) ?_
          rw [hW.1 k (by omega)]
          refine st_iload_n dX11_rent_31 rfl ?_
          refine st_icmp_ne (tgt := 43) dX11_rent_32 (by omega) (by omega) rfl (fun h2 => ?_) (fun h2 => ?_)
          · refine st_iconst dX11_rent_43 ?_
            refine st_iadd dX11_rent_44 ?_
            refine st_istore_n (L' := [_, _, _, _]) dX11_rent_45 (by decide) rfl rfl ?_
            refine st_iinc (L' := [_, _, _, _]) dX11_rent_46 rfl (by decide) rfl rfl ?_
            refine st_goto (tgt := 14) dX11_rent_49 rfl ?_
            exact AW.to (ih (k + 1) (by omega)) (h2 := by simp [hsum, h2])
          · refine st_aload_n dX11_rent_35 rfl ?_
            refine st_iload_n dX11_rent_36 rfl ?_
            refine c_V1p (d' := d - 1) dX11_rent_37 l_X11_190 k_X11_beginOf i_X11_beginOf (Or.inl ⟨_, _, _, _, _, (by first | with_reducible assumption | rfl), by rfl⟩) (by omega) (Nat.le_of_ble_eq_true rfl) (C_beginOf (s := k0) (by omega)) ?_
            rw [ts k0 (by omega)]
            refine st_goto (tgt := 44) dX11_rent_40 rfl ?_
            refine st_iadd dX11_rent_44 ?_
            refine st_istore_n (L' := [_, _, _, _]) dX11_rent_45 (by decide) rfl rfl ?_
            refine st_iinc (L' := [_, _, _, _]) dX11_rent_46 rfl (by decide) rfl rfl ?_
            refine st_goto (tgt := 14) dX11_rent_49 rfl ?_
            exact AW.to (ih (k + 1) (by omega)) (h2 := by simp [hsum, h2])
    exact AW.to (l1 _ 0 (Nat.zero_add _))
  · refine st_iconst dX11_rent_8 ?_
    exact r_i dX11_rent_9 rfl ⟨by rw [A_rent, if_neg h7], rfl, rfl⟩


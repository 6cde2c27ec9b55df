/-! the system's Home: questions -/
theorem C_hasPerson {G : q_G} {d : Nat} {M : q_Mem} {N : q_MemL} {a : Nat} {v : Int} (ha : isHome a) (hm : 0 ≤ M a 4 ∧ M a 4 ≤ 8) (hv : -2147483648 ≤ v ∧ v < 2147483648) : AC0 G d m_X2_hasPerson [.ref a, I v] M N (CV (PU (Bz (0 ≤ v ∧ v < M a 4)) M N)) := by
  have hS := sh_home ha
  refine AC.of (L0 := [_, _]) pn_X2 (Nat.le_of_ble_eq_true rfl) rfl ?_
  refine st_iload_n dX2_hasPerson_0 rfl ?_
  refine st_if_lt (tgt := 16) dX2_hasPerson_1 (by omega) rfl (fun h => ?_) (fun h => ?_)
  · refine st_iconst dX2_hasPerson_16 ?_
    exact r_z dX2_hasPerson_17 rfl (by first | omega | (split <;> decide)) ⟨bz0 (by omega), rfl, rfl⟩
  · refine st_iload_n dX2_hasPerson_4 rfl ?_
    refine st_aload_n dX2_hasPerson_5 rfl ?_
    refine st_getfi dX2_hasPerson_6 f_X2_44 (by first | assumption | rfl) (by rfl) ?_
    refine st_icmp_ge (tgt := 16) dX2_hasPerson_9 (by omega) (by omega) rfl (fun h2 => ?_) (fun h2 => ?_)
    · refine st_iconst dX2_hasPerson_16 ?_
      exact r_z dX2_hasPerson_17 rfl (by first | omega | (split <;> decide)) ⟨bz0 (by omega), rfl, rfl⟩
    · refine st_iconst dX2_hasPerson_12 ?_
      refine st_goto (tgt := 17) dX2_hasPerson_13 rfl ?_
      exact r_z dX2_hasPerson_17 rfl (by first | omega | (split <;> decide)) ⟨bz1 (by omega), rfl, rfl⟩
theorem C_hasThing {G : q_G} {d : Nat} {M : q_Mem} {N : q_MemL} {a : Nat} {v : Int} (ha : isHome a) (hm : 0 ≤ M a 5 ∧ M a 5 ≤ 8) (hv : -2147483648 ≤ v ∧ v < 2147483648) : AC0 G d m_X2_hasThing [.ref a, I v] M N (CV (PU (Bz (0 ≤ v ∧ v < M a 5)) M N)) := by
  have hS := sh_home ha
  refine AC.of (L0 := [_, _]) pn_X2 (Nat.le_of_ble_eq_true rfl) rfl ?_
  refine st_iload_n dX2_hasThing_0 rfl ?_
  refine st_if_lt (tgt := 16) dX2_hasThing_1 (by omega) rfl (fun h => ?_) (fun h => ?_)
  · refine st_iconst dX2_hasThing_16 ?_
    exact r_z dX2_hasThing_17 rfl (by first | omega | (split <;> decide)) ⟨bz0 (by omega), rfl, rfl⟩
  · refine st_iload_n dX2_hasThing_4 rfl ?_
    refine st_aload_n dX2_hasThing_5 rfl ?_
    refine st_getfi dX2_hasThing_6 f_X2_47 (by first | assumption | rfl) (by rfl) ?_
    refine st_icmp_ge (tgt := 16) dX2_hasThing_9 (by omega) (by omega) rfl (fun h2 => ?_) (fun h2 => ?_)
    · refine st_iconst dX2_hasThing_16 ?_
      exact r_z dX2_hasThing_17 rfl (by first | omega | (split <;> decide)) ⟨bz0 (by omega), rfl, rfl⟩
    · refine st_iconst dX2_hasThing_12 ?_
      refine st_goto (tgt := 17) dX2_hasThing_13 rfl ?_
      exact r_z dX2_hasThing_17 rfl (by first | omega | (split <;> decide)) ⟨bz1 (by omega), rfl, rfl⟩
theorem C_hasRoom {G : q_G} {d : Nat} {M : q_Mem} {N : q_MemL} {a : Nat} {v : Int} (ha : isHome a) (hm : 0 ≤ M a 1 ∧ M a 1 ≤ 8) (hv : -2147483648 ≤ v ∧ v < 2147483648) : AC0 G d m_X2_hasRoom [.ref a, I v] M N (CV (PU (Bz (0 ≤ v ∧ v < M a 1)) M N)) := by
  have hS := sh_home ha
  refine AC.of (L0 := [_, _]) pn_X2 (Nat.le_of_ble_eq_true rfl) rfl ?_
  refine st_iload_n dX2_hasRoom_0 rfl ?_
  refine st_if_lt (tgt := 16) dX2_hasRoom_1 (by omega) rfl (fun h => ?_) (fun h => ?_)
  · refine st_iconst dX2_hasRoom_16 ?_
    exact r_z dX2_hasRoom_17 rfl (by first | omega | (split <;> decide)) ⟨bz0 (by omega), rfl, rfl⟩
  · refine st_iload_n dX2_hasRoom_4 rfl ?_
    refine st_aload_n dX2_hasRoom_5 rfl ?_
    refine st_getfi dX2_hasRoom_6 f_X2_34 (by first | assumption | rfl) (by rfl) ?_
    refine st_icmp_ge (tgt := 16) dX2_hasRoom_9 (by omega) (by omega) rfl (fun h2 => ?_) (fun h2 => ?_)
    · refine st_iconst dX2_hasRoom_16 ?_
      exact r_z dX2_hasRoom_17 rfl (by first | omega | (split <;> decide)) ⟨bz0 (by omega), rfl, rfl⟩
    · refine st_iconst dX2_hasRoom_12 ?_
      refine st_goto (tgt := 17) dX2_hasRoom_13 rfl ?_
      exact r_z dX2_hasRoom_17 rfl (by first | omega | (split <;> decide)) ⟨bz1 (by omega), rfl, rfl⟩
theorem C_hasStorey {G : q_G} {d : Nat} {M : q_Mem} {N : q_MemL} {a : Nat} {v : Int} (ha : isHome a) (hm : 0 ≤ M a 3 ∧ M a 3 ≤ 8) (hv : -2147483648 ≤ v ∧ v < 2147483648) : AC0 G d m_X2_hasStorey [.ref a, I v] M N (CV (PU (Bz (0 ≤ v ∧ v < M a 3)) M N)) := by
  have hS := sh_home ha
  refine AC.of (L0 := [_, _]) pn_X2 (Nat.le_of_ble_eq_true rfl) rfl ?_
  refine st_iload_n dX2_hasStorey_0 rfl ?_
  refine st_if_lt (tgt := 16) dX2_hasStorey_1 (by omega) rfl (fun h => ?_) (fun h => ?_)
  · refine st_iconst dX2_hasStorey_16 ?_
    exact r_z dX2_hasStorey_17 rfl (by first | omega | (split <;> decide)) ⟨bz0 (by omega), rfl, rfl⟩
  · refine st_iload_n dX2_hasStorey_4 rfl ?_
    refine st_aload_n dX2_hasStorey_5 rfl ?_
    refine st_getfi dX2_hasStorey_6 f_X2_41 (by first | assumption | rfl) (by rfl) ?_
    refine st_icmp_ge (tgt := 16) dX2_hasStorey_9 (by omega) (by omega) rfl (fun h2 => ?_) (fun h2 => ?_)
    · refine st_iconst dX2_hasStorey_16 ?_
      exact r_z dX2_hasStorey_17 rfl (by first | omega | (split <;> decide)) ⟨bz0 (by omega), rfl, rfl⟩
    · refine st_iconst dX2_hasStorey_12 ?_
      refine st_goto (tgt := 17) dX2_hasStorey_13 rfl ?_
      exact r_z dX2_hasStorey_17 rfl (by first | omega | (split <;> decide)) ⟨bz1 (by omega), rfl, rfl⟩
theorem C_hasHour {G : q_G} {d : Nat} {M : q_Mem} {N : q_MemL} {a : Nat} {v : Int} (ha : isHome a) (hm : 0 ≤ M a 2 ∧ M a 2 ≤ 8) (hv : -2147483648 ≤ v ∧ v < 2147483648) : AC0 G d m_X2_hasHour [.ref a, I v] M N (CV (PU (Bz (0 ≤ v ∧ v < M a 2)) M N)) := by
  have hS := sh_home ha
  refine AC.of (L0 := [_, _]) pn_X2 (Nat.le_of_ble_eq_true rfl) rfl ?_
  refine st_iload_n dX2_hasHour_0 rfl ?_
  refine st_if_lt (tgt := 16) dX2_hasHour_1 (by omega) rfl (fun h => ?_) (fun h => ?_)
  · refine st_iconst dX2_hasHour_16 ?_
    exact r_z dX2_hasHour_17 rfl (by first | omega | (split <;> decide)) ⟨bz0 (by omega), rfl, rfl⟩
  · refine st_iload_n dX2_hasHour_4 rfl ?_
    refine st_aload_n dX2_hasHour_5 rfl ?_
    refine st_getfi dX2_hasHour_6 f_X2_38 (by first | assumption | rfl) (by rfl) ?_
    refine st_icmp_ge (tgt := 16) dX2_hasHour_9 (by omega) (by omega) rfl (fun h2 => ?_) (fun h2 => ?_)
    · refine st_iconst dX2_hasHour_16 ?_
      exact r_z dX2_hasHour_17 rfl (by first | omega | (split <;> decide)) ⟨bz0 (by omega), rfl, rfl⟩
    · refine st_iconst dX2_hasHour_12 ?_
      refine st_goto (tgt := 17) dX2_hasHour_13 rfl ?_
      exact r_z dX2_hasHour_17 rfl (by first | omega | (split <;> decide)) ⟨bz1 (by omega), rfl, rfl⟩
theorem C_canBeat {G : q_G} {d : Nat} {M : q_Mem} {N : q_MemL} {a : Nat} {v : Int} (ha : isHome a) (h0 : M a 0 = 0 ∨ M a 0 = 1) (hm : 0 ≤ M a 11 ∧ M a 11 ≤ 100000) (hv : 0 ≤ v ∧ v < 100000) : AC0 G d m_X2_canBeat [.ref a, I v] M N (CV (PU (Bz (M a 0 = 1 ∧ M a 11 + v ≤ 9999)) M N)) := by
  have hS := sh_home ha
  refine AC.of (L0 := [_, _]) pn_X2 (Nat.le_of_ble_eq_true rfl) rfl ?_
  refine st_aload_n dX2_canBeat_0 rfl ?_
  refine st_getfi dX2_canBeat_1 f_X2_30 (by first | assumption | rfl) (by rfl) ?_
  refine st_if_eq (tgt := 23) dX2_canBeat_4 (by omega) rfl (fun h => ?_) (fun h => ?_)
  · refine st_iconst dX2_canBeat_23 ?_
    exact r_z dX2_canBeat_24 rfl (by first | omega | (split <;> decide)) ⟨bz0 (by omega), rfl, rfl⟩
  · refine st_aload_n dX2_canBeat_7 rfl ?_
    refine st_getfi dX2_canBeat_8 f_X2_57 (by first | assumption | rfl) (by rfl) ?_
    refine st_iload_n dX2_canBeat_11 rfl ?_
    refine st_iadd dX2_canBeat_12 ?_
    refine st_sipush dX2_canBeat_13 (by decide) ?_
    refine st_icmp_gt (tgt := 23) dX2_canBeat_16 (by omega) (by omega) rfl (fun h2 => ?_) (fun h2 => ?_)
    · refine st_iconst dX2_canBeat_23 ?_
      exact r_z dX2_canBeat_24 rfl (by first | omega | (split <;> decide)) ⟨bz0 (by omega), rfl, rfl⟩
    · refine st_iconst dX2_canBeat_19 ?_
      refine st_goto (tgt := 24) dX2_canBeat_20 rfl ?_
      exact r_z dX2_canBeat_24 rfl (by first | omega | (split <;> decide)) ⟨bz1 (by omega), rfl, rfl⟩
theorem zi_remI {a b : Int} (ha : 0 ≤ a ∧ a < 2147483648) (hb : 0 < b ∧ b < 2147483648) : zi a - zi a / zi b * zi b = zi (a % b) := by
  rw [z_toN ha.1, show b = ((b.toNat : Nat) : Int) by omega, zi_rem _ _ (by omega) (by omega), Int.natCast_emod]
theorem zi_divI {a b : Int} (ha : 0 ≤ a ∧ a < 2147483648) (hb : 0 < b ∧ b < 2147483648) : zi a / zi b = zi (a / b) := by
  rw [z_toN ha.1, show b = ((b.toNat : Nat) : Int) by omega, zi_div _ _ (by omega) (by omega), Int.natCast_ediv]
theorem zi_ne0 {b : Int} (hb : 0 < b ∧ b < 2147483648) : ¬ zi b = 0 := by rw [zi_eq0 (by omega)]; omega
theorem C_hourAt {G : q_G} {d : Nat} {M : q_Mem} {N : q_MemL} {a : Nat} {v : Int} (ha : isHome a) (hm : 0 ≤ M a 2 ∧ M a 2 ≤ 6) (hv : 0 ≤ v ∧ v < 2147483648) : AC0 G d m_X2_hourAt [.ref a, I v] M N (CV (PU (I (hourOf (M a 2) v)) M N)) := by
  have hS := sh_home ha
  refine AC.of (L0 := [_, _]) pn_X2 (Nat.le_of_ble_eq_true rfl) rfl ?_
  refine st_aload_n dX2_hourAt_0 rfl ?_
  refine st_getfi dX2_hourAt_1 f_X2_38 (by first | assumption | rfl) (by rfl) ?_
  refine st_if_le (tgt := 16) dX2_hourAt_4 (by omega) rfl (fun h => ?_) (fun h => ?_)
  · refine st_iconst dX2_hourAt_16 ?_
    exact r_i dX2_hourAt_17 rfl ⟨by rw [hourOf, if_neg (by omega)], rfl, rfl⟩
  · refine st_iload_n dX2_hourAt_7 rfl ?_
    refine st_aload_n dX2_hourAt_8 rfl ?_
    refine st_getfi dX2_hourAt_9 f_X2_38 (by first | assumption | rfl) (by rfl) ?_
    refine st_irem dX2_hourAt_12 (zi_ne0 (by omega)) ?_
    refine AW.top (zi_remI hv (by omega)) ?_
    refine st_goto (tgt := 17) dX2_hourAt_13 rfl ?_
    exact r_i dX2_hourAt_17 rfl ⟨by rw [hourOf, if_pos (by omega)], rfl, rfl⟩
theorem C_voice {G : q_G} {d : Nat} {M : q_Mem} {N : q_MemL} {a : Nat} {p h : Int} (ha : isHome a) (hd : 1 ≤ d) (hp : 0 ≤ p ∧ p < 7) (hh : 0 ≤ h ∧ h < 6) : AC0 G d m_X2_voice [.ref a, I p, I h] M N (CV (PU (I (M (a + 4) (p * 6 + h).toNat)) M N)) := by
  have hS := sh_home ha
  have hV := sh_home4 ha
  refine AC.of (L0 := [_, _, _]) pn_X2 (Nat.le_of_ble_eq_true rfl) rfl ?_
  refine st_aload_n dX2_voice_0 rfl ?_
  refine st_getfr dX2_voice_1 f_X2_21 (by first | assumption | rfl) (by rfl) ?_
  refine st_iload_n dX2_voice_4 rfl ?_
  refine st_bipush dX2_voice_5 (by decide) ?_
  refine st_imul dX2_voice_7 ?_
  refine st_iload_n dX2_voice_8 rfl ?_
  refine st_iadd dX2_voice_9 ?_
  refine c_S2p (d' := d - 1) dX2_voice_10 l_X2_93 k_X10_cell s_X10_cell (by omega) (Nat.le_of_ble_eq_true rfl) (C_cell (z := M (a + 4) (p * 6 + h).toNat) hV (by decide) (by omega) (by rw [if_pos (by omega)])) ?_
  exact r_i dX2_voice_13 rfl ⟨rfl, rfl, rfl⟩
theorem stof_succ (b : Nat → Int) (x : Int) (m s : Nat) : stof b x (m + 1) s = if b (s + 1) ≤ x then stof b x m (s + 1) else (s : Int) := rfl
theorem C_stof {G : q_G} {d : Nat} {M : q_Mem} {N : q_MemL} {a : Nat} {x : Int} (ha : isHome a) (hd : 1 ≤ d) (hm : 0 ≤ M a 3 ∧ M a 3 ≤ 8) (hb : ∀ k, 0 ≤ M (a + 1) k ∧ M (a + 1) k ≤ 1000) (hx : -2147483648 ≤ x ∧ x < 2147483648) : AC0 G d m_X2_storeyOf [.ref a, I x] M N (CV (PU (I (stof (M (a + 1)) x ((M a 3).toNat - 1) 0)) M N)) := by
  have hS := sh_home ha
  have hB := sh_home1 ha
  refine AC.of (L0 := [_, _, none]) pn_X2 (Nat.le_of_ble_eq_true rfl) rfl ?_
  refine st_iconst dX2_storeyOf_0 ?_
  refine st_istore_n (L' := [_, _, _]) dX2_storeyOf_1 (by decide) rfl rfl ?_
  have loop : ∀ (m k : Nat), k + 1 + m = (M a 3).toNat ∨ (m = 0 ∧ k = 0 ∧ M a 3 = 0) → stof (M (a + 1)) x m k = stof (M (a + 1)) x ((M a 3).toNat - 1) 0 → AW0 G d m_X2_storeyOf 2 [some (.ref a), some (I x), some (I ((k : Int) + 1))] [] M N (CV (PU (I (stof (M (a + 1)) x ((M a 3).toNat - 1) 0)) M N)) := by
    intro m
    induction m with
    | zero =>
      intro k hk he
      refine st_iload_n dX2_storeyOf_2 rfl ?_
      refine st_aload_n dX2_storeyOf_3 rfl ?_
      refine st_getfi dX2_storeyOf_4 f_X2_41 (by first | assumption | rfl) (by rfl) ?_
      refine st_icmp_ge (tgt := 39) dX2_storeyOf_7 (by omega) (by omega) rfl (fun h => ?_) (fun h => ?_)
      · refine st_iconst dX2_storeyOf_39 ?_
        refine st_aload_n dX2_storeyOf_40 rfl ?_
        refine st_getfi dX2_storeyOf_41 f_X2_41 (by first | assumption | rfl) (by rfl) ?_
        refine st_iconst dX2_storeyOf_44 ?_
        refine st_isub dX2_storeyOf_45 ?_
        refine st_mmax dX2_storeyOf_46 lm_X2_97 (by omega) (Nat.le_of_ble_eq_true rfl) (by omega) (by omega) ?_
        exact r_i dX2_storeyOf_49 rfl ⟨by rw [← he]; simp only [stof]; congr 2; omega, rfl, rfl⟩
      · skip
        omega
    | succ m ih =>
      intro k hk he
      refine st_iload_n dX2_storeyOf_2 rfl ?_
      refine st_aload_n dX2_storeyOf_3 rfl ?_
      refine st_getfi dX2_storeyOf_4 f_X2_41 (by first | assumption | rfl) (by rfl) ?_
      refine st_icmp_ge (tgt := 39) dX2_storeyOf_7 (by omega) (by omega) rfl (fun h => ?_) (fun h => ?_)
      · skip
        omega
      · refine st_iload_n dX2_storeyOf_10 rfl ?_
        refine st_aload_n dX2_storeyOf_11 rfl ?_
        refine st_getfr dX2_storeyOf_12 f_X2_9 (by first | assumption | rfl) (by rfl) ?_
        refine st_alen dX2_storeyOf_15 (by first | assumption | rfl) (by decide) ?_
        refine st_icmp_ge (tgt := 39) dX2_storeyOf_16 (by omega) (by omega) rfl (fun h2 => ?_) (fun h2 => ?_)
        · skip
          omega
        · refine st_iload_n dX2_storeyOf_19 rfl ?_
          refine st_aload_n dX2_storeyOf_20 rfl ?_
          refine st_getfr dX2_storeyOf_21 f_X2_9 (by first | assumption | rfl) (by rfl) ?_
          refine st_iload_n dX2_storeyOf_24 rfl ?_
          refine st_iald dX2_storeyOf_25 (by first | assumption | rfl) (by omega) (by omega) (hn := by first | decide | omega) ?_
          have e : (((k : Int) + 1).toNat) = k + 1 := by omega
          rw [e]
          have hbk := hb (k + 1)
          rw [stof_succ] at he
          refine st_icmp_ge (tgt := 33) dX2_storeyOf_26 (by omega) (by omega) rfl (fun h3 => ?_) (fun h3 => ?_)
          · skip
            rw [if_pos h3] at he
            refine st_iinc (L' := [_, _, _]) dX2_storeyOf_33 rfl (by decide) rfl rfl ?_
            refine st_goto (tgt := 2) dX2_storeyOf_36 rfl ?_
            refine AW.to (ih (k + 1) (by omega) he) (h2 := by simp)
          · refine st_iload_n dX2_storeyOf_29 rfl ?_
            refine st_iconst dX2_storeyOf_30 ?_
            refine st_isub dX2_storeyOf_31 ?_
            rw [if_neg h3] at he
            exact r_i dX2_storeyOf_32 rfl ⟨by rw [← he]; congr 2; omega, rfl, rfl⟩
  by_cases q : M a 3 = 0
  · exact loop 0 0 (Or.inr ⟨rfl, rfl, q⟩) (by rw [q]; rfl)
  · exact loop ((M a 3).toNat - 1) 0 (Or.inl (by omega)) rfl


/-! the tape on both sides -/
/-- the byte of x at a shift -/
def byS (x : Int32) (k : Int) : Int := (x >>> (zi k &&& 31)).toInt8.toInt32.toInt
theorem byS_val (x : Int32) (k : Int) : Value.int (x >>> (zi k &&& 31)).toInt8.toInt32 = I (byS x k) := by
  show _ = Value.int (Int32.ofInt _)
  rw [show byS x k = (x >>> (zi k &&& 31)).toInt8.toInt32.toInt from rfl, Int32.ofInt_toInt]
theorem byS_nar (x : Int32) (k : Int) : narrow .byte (I (byS x k)) = I (byS x k) := by
  rw [← byS_val]
  show Value.int _ = Value.int _
  congr 1
  generalize (x >>> (zi k &&& 31)).toInt8 = b
  simp
theorem bv_sh (v : BitVec 32) (n : Nat) (hn : n ≤ 24) : (v >>> n).signExtend 8 = (v.sshiftRight n).signExtend 8 := by
  apply BitVec.eq_of_getLsbD_eq
  intro i hi
  rw [BitVec.getLsbD_signExtend, BitVec.getLsbD_signExtend, if_pos (by omega), if_pos (by omega), BitVec.getLsbD_ushiftRight, BitVec.getLsbD_sshiftRight]
  have h1 : ¬ 32 ≤ i := by omega
  have h2 : n + i < 32 := by omega
  simp [h1, h2]
theorem byS_u (x : Int32) {k : Int} (hk : k = 24 ∨ k = 16 ∨ k = 8 ∨ k = 0) : (x.toUInt32 >>> ((zi k).toUInt32 &&& Int32.toUInt32 31)).toInt32.toInt8 = (x >>> (zi k &&& 31)).toInt8 := by
  have b : ∀ (k : Int) (n : Nat) (u : UInt32) (w : Int32), n ≤ 24 → zi k &&& 31 = w → (zi k).toUInt32 &&& Int32.toUInt32 31 = u → (u.toBitVec % 32).toNat = n → (w.toBitVec.smod 32).toNat = n → (x.toUInt32 >>> ((zi k).toUInt32 &&& Int32.toUInt32 31)).toInt32.toInt8 = (x >>> (zi k &&& 31)).toInt8 := by
    intro k n u w hn e1 e2 e3 e4
    rw [e1, e2]
    apply Int8.toBitVec_inj.1
    have h := bv_sh x.toBitVec n hn
    have l : (x.toUInt32 >>> u).toInt32.toInt8.toBitVec = (x.toBitVec >>> (u.toBitVec % 32)).signExtend 8 := by
      show (x.toUInt32 >>> u).toBitVec.signExtend 8 = _
      rw [UInt32.toBitVec_shiftRight]
      rfl
    have r : (x >>> w).toInt8.toBitVec = (x.toBitVec.sshiftRight' (w.toBitVec.smod 32)).signExtend 8 := rfl
    rw [l, r]
    show (x.toBitVec >>> (u.toBitVec % 32).toNat).signExtend 8 = (x.toBitVec.sshiftRight (w.toBitVec.smod 32).toNat).signExtend 8
    rw [e3, e4]
    exact h
  rcases hk with rfl | rfl | rfl | rfl
  · exact b 24 24 24 24 (by decide) (by decide) (by decide) (by decide) (by decide)
  · exact b 16 16 16 16 (by decide) (by decide) (by decide) (by decide) (by decide)
  · exact b 8 8 8 8 (by decide) (by decide) (by decide) (by decide) (by decide)
  · exact b 0 0 0 0 (by decide) (by decide) (by decide) (by decide) (by decide)
/-- four bytes more -/
def tp4 (M : q_Mem) (a : Nat) (n : Nat) (x : Int32) : q_Mem := q_up (q_up (q_up (q_up M a n (byS x 24)) a (n + 1) (byS x 16)) a (n + 2) (byS x 8)) a (n + 3) (byS x 0)
theorem C_append {G : q_G} {d : Nat} {M : q_Mem} {N : q_MemL} {n : Nat} {x : Int32} (hn : M 1 1 = (n : Int)) (hn2 : n + 4 ≤ 400) : AC0 G d m_X8_append [.ref 1, .int x] M N (CN (fun M' N' => N' = N ∧ Exc [1, 2] M M' ∧ M' 1 1 = ((n + 4 : Nat) : Int) ∧ (∀ j, ¬ j = 1 → M' 1 j = M 1 j) ∧ M' 2 = tp4 M 2 n x 2)) := by
  refine AC.of (L0 := [_, _, none]) pn_X8 (Nat.le_of_ble_eq_true rfl) rfl ?_
  refine st_bipush dX8_append_0 (by decide) ?_
  refine st_istore_n (L' := [_, _, _]) dX8_append_2 (by decide) rfl rfl ?_
  have step : ∀ (k : Int) (m : Nat) (M1 : q_Mem) (l : Int), (k = 24 ∨ k = 16 ∨ k = 8 ∨ k = 0) → M1 1 1 = (m : Int) → m < 400 → (AW0 G d m_X8_append 3 [some (.ref 1), some (.int x), some (I (k - 8))] [] (q_up (q_up M1 2 m (byS x k)) 1 1 ((m + 1 : Nat) : Int)) N (CN (fun M' N' => N' = N ∧ Exc [1, 2] M M' ∧ M' 1 1 = ((n + 4 : Nat) : Int) ∧ (∀ j, ¬ j = 1 → M' 1 j = M 1 j) ∧ M' 2 = tp4 M 2 n x 2))) → AW0 G d m_X8_append 3 [some (.ref 1), some (.int x), some (I k)] [] M1 N (CN (fun M' N' => N' = N ∧ Exc [1, 2] M M' ∧ M' 1 1 = ((n + 4 : Nat) : Int) ∧ (∀ j, ¬ j = 1 → M' 1 j = M 1 j) ∧ M' 2 = tp4 M 2 n x 2)) := by
    intro k m M1 l hk hm hm4 kk
    refine st_iload_n dX8_append_3 rfl ?_
    refine st_if_lt (tgt := 55) dX8_append_4 (by omega) rfl (fun c => ?_) (fun c => ?_)
    · skip
      omega
    · refine st_aload_n dX8_append_7 rfl ?_
      refine st_getfi dX8_append_8 f_X8_15 (by first | with_reducible assumption | rfl) (by rfl) ?_
      rw [hm]
      refine st_if_lt (tgt := 49) dX8_append_11 (by omega) rfl (fun c2 => ?_) (fun c2 => ?_)
      · skip
        omega
      · refine st_aload_n dX8_append_14 rfl ?_
        refine st_getfi dX8_append_15 f_X8_15 (by first | with_reducible assumption | rfl) (by rfl) ?_
        rw [hm]
        refine st_aload_n dX8_append_18 rfl ?_
        refine st_getfr dX8_append_19 f_X8_9 (by first | with_reducible assumption | rfl) (by rfl) ?_
        refine st_alen dX8_append_22 (by first | with_reducible assumption | rfl) (by decide) ?_
        refine st_icmp_ge (tgt := 49) dX8_append_23 (by omega) (by omega) rfl (fun c3 => ?_) (fun c3 => ?_)
        · skip
          omega
        · refine st_aload_n dX8_append_26 rfl ?_
          refine st_getfr dX8_append_27 f_X8_9 (by first | with_reducible assumption | rfl) (by rfl) ?_
          refine st_aload_n dX8_append_30 rfl ?_
          refine st_getfi dX8_append_31 f_X8_15 (by first | with_reducible assumption | rfl) (by rfl) ?_
          rw [hm]
          refine st_iload_n dX8_append_34 rfl ?_
          refine st_iload_n dX8_append_35 rfl ?_
          refine st_iushr dX8_append_36 ?_
          refine st_i2b dX8_append_37 ?_
          rw [byS_u x hk, byS_val]
          refine st_bast dX8_append_38 (by first | with_reducible assumption | rfl) (by omega) (by omega) (byS_nar x k) ?_ (by decide)
          rw [Int.toNat_natCast]
          refine st_aload_n dX8_append_39 rfl ?_
          refine st_dup dX8_append_40 rfl ?_
          refine st_getfi dX8_append_41 f_X8_15 (by first | with_reducible assumption | rfl) (by rfl) ?_
          rw [show q_up M1 2 m (byS x k) 1 1 = (m : Int) by rw [q_up_ne (by decide)]; exact hm]
          refine st_iconst dX8_append_44 ?_
          refine st_iadd dX8_append_45 ?_
          refine st_putfi dX8_append_46 w_X8_15 (by first | with_reducible assumption | rfl) (by rfl) rfl rfl ?_
          refine st_iinc (L' := [_, _, _]) dX8_append_49 rfl (by decide) rfl rfl ?_
          refine st_goto (tgt := 3) dX8_append_52 rfl ?_
          exact AW.to kk (h2 := rfl) (h4 := by rw [show ((m : Int) + 1) = ((m + 1 : Nat) : Int) by omega])
  have e4 : ∀ (b : q_Mem), Exc [1, 2] b (q_up (q_up b 2 n 0) 1 1 0) := fun b => (Exc.up (by decide)).tr (Exc.up (by decide))
  refine step 24 n M 0 (Or.inl rfl) hn (by omega) ?_
  rw [show (24 : Int) - 8 = 16 by decide]
  refine step 16 (n + 1) _ 0 (Or.inr (Or.inl rfl)) (by simp [q_up]) (by omega) ?_
  rw [show (16 : Int) - 8 = 8 by decide]
  refine step 8 (n + 2) _ 0 (Or.inr (Or.inr (Or.inl rfl))) (by simp [q_up]; omega) (by omega) ?_
  rw [show (8 : Int) - 8 = 0 by decide]
  refine step 0 (n + 3) _ 0 (Or.inr (Or.inr (Or.inr rfl))) (by simp [q_up]; omega) (by omega) ?_
  refine st_iload_n dX8_append_3 rfl ?_
  refine st_if_lt (tgt := 55) dX8_append_4 (by omega) rfl (fun c => ?_) (fun c => ?_)
  · skip
    refine r_v dX8_append_55 rfl ⟨rfl, fun a ha => ?_, by simp [q_up]; omega, fun j hj => by simp [q_up, hj], ?_⟩
    · simp only [List.mem_cons, List.not_mem_nil, or_false, not_or] at ha
      funext j
      simp [q_up, ha]
    · unfold tp4
      rw [q_up_ne (by decide)]
      funext j
      simp [q_up]
  · skip
    omega


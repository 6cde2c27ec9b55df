/-! the system: what a part of a rule comes to -/
/-- what stays when a part of a rule is reckoned -/
def EvX (M : q_Mem) (N : q_MemL) (M1 : q_Mem) (N1 : q_MemL) : Prop := Exc [86] M M1 ∧ (∀ j, ¬ j = 5 → M1 86 j = M 86 j) ∧ ∀ a, ¬ a = 90 → N1 a = N a
theorem EvX.rf {M : q_Mem} {N : q_MemL} : EvX M N M N := ⟨Exc.rf, fun _ _ => rfl, fun _ _ => rfl⟩
theorem EvX.h {M : q_Mem} {N : q_MemL} {M1 : q_Mem} {N1 : q_MemL} {z : Int} (h : EvX M N M1 N1) : EvX M N (q_up M1 86 5 z) N1 := ⟨h.1.tr (Exc.up (by decide)), fun j hj => by rw [← h.2.1 j hj]; simp [q_up, hj], h.2.2⟩
theorem EvX.n {M : q_Mem} {N : q_MemL} {M1 : q_Mem} {N1 : q_MemL} {i : Nat} {z : Int64} (h : EvX M N M1 N1) : EvX M N M1 (q_upL N1 90 i z) := ⟨h.1, h.2.1, fun a ha => by rw [q_upL_ne ha]; exact h.2.2 a ha⟩
theorem tyS_len {c : Int} {ts t : List Bool} (h : tyS c ts = some t) (hl : ts.length ≤ 60) : t.length ≤ 60 := by
  rcases tyS_cs h with ⟨c1, c2, rfl⟩ | ⟨rfl, r, rfl, rfl⟩ | ⟨c1, a, b, r, rfl, rfl, hb⟩
  · simp; omega
  · simpa using hl
  · simp at hl ⊢; omega
theorem StR.low {N : q_MemL} {a : Nat} {x : Int64} {st : List Int64} (h : StR N a st) {i : Nat} (hi : i = st.length) : StR (q_upL N a i x) a (x :: st) := by
  subst hi
  exact h.push
theorem C_valueOf {G : q_G} {d : Nat} {M : q_Mem} {N : q_MemL} {ro cr i0 n : Nat} {w : Nat → Int64} {t : Bool} (hd : 2 ≤ d) (ho : ∃ vs, S0[ro]? = some (5, 7, .ref cr :: vs)) (hcr : S0[cr]? = some (20, 400, [])) (h86 : ¬ cr = 86) (hto : i0 + n ≤ 400) (hw : ∀ j, j < 11 → N 89 j = w j) (hty : tyN (M cr) i0 n [] = some [t]) : AC0 G d m_X6_valueOf [.ref 86, .ref ro, I i0, I ((i0 + n : Nat) : Int)] M N (CV (fun x M' N' => ∃ y, evN w (M cr) i0 n [] = [y] ∧ tyV [t] [y] ∧ x = .long y ∧ EvX M N M' N')) := by
  obtain ⟨vs, ho⟩ := ho
  refine AC.of (L0 := [_, _, _, _, none, none, none, none]) pn_X6 (Nat.le_of_ble_eq_true rfl) rfl ?_
  refine st_aload_n dX6_valueOf_0 rfl ?_
  refine st_iconst dX6_valueOf_1 ?_
  refine st_putfi dX6_valueOf_2 w_X6_159 (by first | with_reducible assumption | rfl) (by rfl) rfl rfl ?_
  refine st_iload_n dX6_valueOf_5 rfl ?_
  refine st_istore (L' := [_, _, _, _, _, _, _, _]) dX6_valueOf_6 (by decide) rfl rfl ?_
  have loop : ∀ (m i : Nat) (M1 : q_Mem) (N1 : q_MemL) (ts : List Bool) (st : List Int64) (l5 l6 : Option Value), i + m = i0 + n → EvX M N M1 N1 → M1 86 5 = (st.length : Nat) → StR N1 90 st → tyV ts st → ts.length ≤ 60 → tyN (M cr) i m ts = some [t] → evN w (M cr) i m st = evN w (M cr) i0 n [] → AW0 G d m_X6_valueOf 8 [some (.ref 86), some (.ref ro), some (I i0), some (I ((i0 + n : Nat) : Int)), some (I i), l5, l6, none] [] M1 N1 (CV (fun x M' N' => ∃ y, evN w (M cr) i0 n [] = [y] ∧ tyV [t] [y] ∧ x = .long y ∧ EvX M N M' N')) := by
    intro m
    induction m with
    | zero =>
      intro i M1 N1 ts st l5 l6 hi hE h5 hS hv hl6 htt hev
      have e1 : ts = [t] := Option.some.inj htt
      subst e1
      match st, hv, hS, h5, hev with
      | [y], hv, hS, h5, hev =>
        refine st_iload dX6_valueOf_8 rfl ?_
        refine st_iload_n dX6_valueOf_10 rfl ?_
        refine st_icmp_ge (tgt := 129) dX6_valueOf_11 (by omega) (by omega) rfl (fun c => ?_) (fun c => ?_)
        · refine st_aload_n dX6_valueOf_129 rfl ?_
          refine c_V0i (d' := d - 1) dX6_valueOf_130 l_X6_169 k_X6_take i_X6_take (Or.inl ⟨_, _, _, _, _, (by first | with_reducible assumption | rfl), by rfl⟩) (by omega) (Nat.le_of_ble_eq_true rfl) (C_take (n := 0) h5 (by omega)) (fun x M2 N2 hx => ?_)
          obtain ⟨rfl, rfl, rfl⟩ := hx
          refine r_l dX6_valueOf_133 rfl ⟨y, hev.symm, hv, by rw [hS.1.symm]; rfl, hE.h⟩
        · skip
          omega
    | succ m ih =>
      intro i M1 N1 ts st l5 l6 hi hE h5 hS hv hl6 htt hev
      have hlen := hv.len
      have tl : ∀ (M2 : q_Mem) (N2 : q_MemL) (l5 l6 : Option Value) (t' : List Bool), tyS (M cr i) ts = some t' → EvX M N M2 N2 → M2 86 5 = ((evS w (M cr i) st).length : Nat) → StR N2 90 (evS w (M cr i) st) → AW0 G d m_X6_valueOf 123 [some (.ref 86), some (.ref ro), some (I i0), some (I ((i0 + n : Nat) : Int)), some (I i), l5, l6, none] [] M2 N2 (CV (fun x M' N' => ∃ y, evN w (M cr) i0 n [] = [y] ∧ tyV [t] [y] ∧ x = .long y ∧ EvX M N M' N')) := by
        intro M2 N2 l5 l6 t' ht' hE2 h52 hS2
        refine st_iinc (L' := [_, _, _, _, _, _, _, _]) dX6_valueOf_123 rfl (by decide) rfl rfl ?_
        refine st_goto (tgt := 8) dX6_valueOf_126 rfl ?_
        refine AW.to (ih (i + 1) M2 N2 t' _ l5 l6 (by omega) hE2 h52 hS2 (tyV_ev ht' hv) (tyS_len ht' hl6) ?_ hev) (h2 := by simp)
        have htt2 := htt
        unfold tyN at htt2
        rw [ht'] at htt2
        exact htt2
      obtain ⟨t', ht'⟩ : ∃ t', tyS (M cr i) ts = some t' := by
        unfold tyN at htt
        match e : tyS (M cr i) ts with
        | some t' => exact ⟨t', rfl⟩
        | none => rw [e] at htt; cases htt
      have hcc := tyS_cs ht'
      have ecr : M1 cr = M cr := hE.1 cr (by simpa using h86)
      have e89 : N1 89 = N 89 := hE.2.2 89 (by decide)
      have hrg : -2147483648 ≤ M cr i ∧ M cr i < 2147483648 := by
        rcases hcc with ⟨q, -⟩ | ⟨q, -⟩ | ⟨q, -⟩ <;> omega
      refine st_iload dX6_valueOf_8 rfl ?_
      refine st_iload_n dX6_valueOf_10 rfl ?_
      refine st_icmp_ge (tgt := 129) dX6_valueOf_11 (by omega) (by omega) rfl (fun c => ?_) (fun c => ?_)
      · skip
        omega
      · refine st_aload_n dX6_valueOf_14 rfl ?_
        refine st_getfr dX6_valueOf_15 f_X6_162 (by first | with_reducible assumption | rfl) (by rfl) ?_
        refine st_iload dX6_valueOf_18 rfl ?_
        refine c_S2p (d' := d - 1) dX6_valueOf_20 l_X6_58 k_X10_cell s_X10_cell (by omega) (Nat.le_of_ble_eq_true rfl) (C_cellI hcr (by decide) (by omega)) ?_
        rw [Int.toNat_natCast, ecr]
        generalize hc0 : M cr i = c0 at *
        refine st_istore (L' := [_, _, _, _, _, _, _, _]) dX6_valueOf_23 (by decide) rfl rfl ?_
        refine st_iload dX6_valueOf_25 rfl ?_
        refine st_bipush dX6_valueOf_27 (by decide) ?_
        refine st_icmp_lt (tgt := 45) dX6_valueOf_29 (by omega) (by omega) rfl (fun c1 => ?_) (fun c1 => ?_)
        · refine st_iload dX6_valueOf_45 rfl ?_
          have h0 : 0 ≤ c0 := by rcases hcc with ⟨q, -⟩ | ⟨q, -⟩ | ⟨q, -⟩ <;> omega
          refine st_if_lt (tgt := 74) dX6_valueOf_47 (by omega) rfl (fun c2 => ?_) (fun c2 => ?_)
          · skip
            omega
          · refine st_iload dX6_valueOf_50 rfl ?_
            refine st_aload_n dX6_valueOf_52 rfl ?_
            refine st_getfr dX6_valueOf_53 f_X6_20 (by first | with_reducible assumption | rfl) (by rfl) ?_
            refine st_alen dX6_valueOf_56 sh_89 (by decide) ?_
            have bin : 11 ≤ c0 → AW0 G d m_X6_valueOf 74 [some (.ref 86), some (.ref ro), some (I i0), some (I ((i0 + n : Nat) : Int)), some (I i), some (I c0), l6, none] [] M1 N1 (CV (fun x M' N' => ∃ y, evN w (M cr) i0 n [] = [y] ∧ tyV [t] [y] ∧ x = .long y ∧ EvX M N M' N')) := by
              intro h11
              refine st_iload dX6_valueOf_74 rfl ?_
              refine st_bipush dX6_valueOf_76 (by decide) ?_
              refine st_icmp_ne (tgt := 102) dX6_valueOf_78 (by omega) (by omega) rfl (fun c4 => ?_) (fun c4 => ?_)
              · refine st_aload_n dX6_valueOf_102 rfl ?_
                rcases hcc with ⟨q, -⟩ | ⟨q, -⟩ | ⟨q, a', b', r', rfl, e2, -⟩
                · omega
                · omega
                match st, hv, hS, h5, hev, hlen, tl with
                | b :: a :: s, hv, hS, h5, hev, hlen, tl =>
                  have hl60 : (a :: s).length < 60 := by simp at hlen hl6 ⊢; omega
                  have eS : evS w c0 (b :: a :: s) = joC c0 a b :: s := by
                    unfold evS
                    rw [if_neg (by omega), if_neg (by omega), if_neg c4]
                  rw [eS] at tl
                  refine c_V0i (d' := d - 1) dX6_valueOf_103 l_X6_169 k_X6_take i_X6_take (Or.inl ⟨_, _, _, _, _, (by first | with_reducible assumption | rfl), by rfl⟩) (by omega) (Nat.le_of_ble_eq_true rfl) (C_take (n := (a :: s).length) h5 hl60) (fun x M2 N2 hx => ?_)
                  obtain ⟨rfl, rfl, rfl⟩ := hx
                  rw [hS.1]
                  refine st_lstore (L' := [_, _, _, _, _, _, _, _]) dX6_valueOf_106 (by decide) rfl rfl ?_
                  refine st_aload_n dX6_valueOf_108 rfl ?_
                  refine st_iload dX6_valueOf_109 rfl ?_
                  refine st_aload_n dX6_valueOf_111 rfl ?_
                  refine c_V0i (d' := d - 1) dX6_valueOf_112 l_X6_169 k_X6_take i_X6_take (Or.inl ⟨_, _, _, _, _, (by first | with_reducible assumption | rfl), by rfl⟩) (by omega) (Nat.le_of_ble_eq_true rfl) (C_take (n := s.length) (by simp [q_up]) (by simp at hl60; omega)) (fun x M2 N2 hx => ?_)
                  obtain ⟨rfl, rfl, rfl⟩ := hx
                  rw [hS.2.1]
                  refine st_lload dX6_valueOf_115 rfl ?_
                  refine c_S3p (d' := d - 1) dX6_valueOf_117 l_X6_173 k_X6_join s_X6_join (by omega) (Nat.le_of_ble_eq_true rfl) (C_join (by omega)) ?_
                  refine c_V1v (d' := d - 1) dX6_valueOf_120 l_X6_165 k_X6_add i_X6_add (Or.inl ⟨_, _, _, _, _, (by first | with_reducible assumption | rfl), by rfl⟩) (by omega) (Nat.le_of_ble_eq_true rfl) (C_add (n := s.length) (by simp [q_up]) (by simp at hl60; omega)) (fun M2 N2 hx => ?_)
                  obtain ⟨rfl, rfl⟩ := hx
                  exact tl _ _ _ _ t' ht' hE.h.h.h.n (by simp [q_up]) (StR.low hS.2.2 rfl)
              · refine st_aload_n dX6_valueOf_81 rfl ?_
                refine st_aload_n dX6_valueOf_82 rfl ?_
                have c21 : c0 = 21 := by omega
                rcases hcc with ⟨q, -⟩ | ⟨-, r', rfl, e2⟩ | ⟨q, -⟩
                · omega
                · match st, hv, hS, h5, hev, hlen, tl with
                  | x :: s, hv, hS, h5, hev, hlen, tl =>
                    have hl60 : s.length < 60 := by simp at hlen hl6 ⊢; omega
                    have eS : evS w c0 (x :: s) = (1 - x) :: s := by
                      unfold evS
                      rw [if_neg (by omega), if_neg (by omega), if_pos c21]
                    rw [eS] at tl
                    have hx01 := hv.1 rfl
                    have fin : ∀ (z : Int64) (l6 : Option Value), z = 1 - x → AW0 G d m_X6_valueOf 96 [some (.ref 86), some (.ref ro), some (I i0), some (I ((i0 + n : Nat) : Int)), some (I i), some (I c0), l6, none] [.long z, .ref 86] (q_up M1 86 5 (s.length : Int)) N1 (CV (fun x M' N' => ∃ y, evN w (M cr) i0 n [] = [y] ∧ tyV [t] [y] ∧ x = .long y ∧ EvX M N M' N')) := by
                      intro z l6 hz
                      refine c_V1v (d' := d - 1) dX6_valueOf_96 l_X6_165 k_X6_add i_X6_add (Or.inl ⟨_, _, _, _, _, (by first | with_reducible assumption | rfl), by rfl⟩) (by omega) (Nat.le_of_ble_eq_true rfl) (C_add (n := s.length) (by simp [q_up]) hl60) (fun M2 N2 hx => ?_)
                      obtain ⟨rfl, rfl⟩ := hx
                      refine st_goto (tgt := 123) dX6_valueOf_99 rfl ?_
                      rw [hz]
                      exact tl _ _ _ _ t' ht' hE.h.h.n (by simp [q_up]) (StR.low hS.2 rfl)
                    refine c_V0i (d' := d - 1) dX6_valueOf_83 l_X6_169 k_X6_take i_X6_take (Or.inl ⟨_, _, _, _, _, (by first | with_reducible assumption | rfl), by rfl⟩) (by omega) (Nat.le_of_ble_eq_true rfl) (C_take (n := s.length) h5 hl60) (fun x2 M2 N2 hx => ?_)
                    obtain ⟨rfl, rfl, rfl⟩ := hx
                    rw [hS.1]
                    refine st_lc0K dX6_valueOf_86 ?_
                    refine AW.topv (show _ = Value.long 0 from rfl) ?_
                    refine st_lcmpL dX6_valueOf_87 ?_
                    have hcr0 := cmpL_rng x 0
                    refine st_if_ne (tgt := 95) dX6_valueOf_88 (by omega) rfl (fun c5 => ?_) (fun c5 => ?_)
                    · refine st_lc0K dX6_valueOf_95 ?_
                      refine fin _ _ ?_
                      rcases hx01 with rfl | rfl
                      · exact absurd (cmpL_rf 0) c5
                      · rfl
                    · refine st_lc1K dX6_valueOf_91 ?_
                      refine st_goto (tgt := 96) dX6_valueOf_92 rfl ?_
                      refine fin _ _ ?_
                      rcases hx01 with rfl | rfl
                      · rfl
                      · exact absurd c5 (by decide)
                · omega
            refine st_icmp_ge (tgt := 74) dX6_valueOf_57 (by omega) (by omega) rfl (fun c3 => ?_) (fun c3 => ?_)
            · skip
              exact bin (by omega)
            · refine st_aload_n dX6_valueOf_60 rfl ?_
              refine st_aload_n dX6_valueOf_61 rfl ?_
              refine st_getfr dX6_valueOf_62 f_X6_20 (by first | with_reducible assumption | rfl) (by rfl) ?_
              refine st_iload dX6_valueOf_65 rfl ?_
              have c11 : c0 ≤ 10 := by omega
              have hl60 : st.length < 60 := by
                rcases hcc with ⟨-, q, -⟩ | ⟨q, -⟩ | ⟨q, -⟩ <;> omega
              have eS : evS w c0 st = w c0.toNat :: st := by
                unfold evS
                rw [if_neg (by omega), if_pos c11]
              rw [eS] at tl
              refine st_laldK (k' := c0.toNat) dX6_valueOf_67 sh_89 (by omega) (by omega) (hn := by decide) ?_
              rw [e89, hw _ (by omega)]
              refine c_V1v (d' := d - 1) dX6_valueOf_68 l_X6_165 k_X6_add i_X6_add (Or.inl ⟨_, _, _, _, _, (by first | with_reducible assumption | rfl), by rfl⟩) (by omega) (Nat.le_of_ble_eq_true rfl) (C_add (n := st.length) h5 hl60) (fun M2 N2 hx => ?_)
              obtain ⟨rfl, rfl⟩ := hx
              refine st_goto (tgt := 123) dX6_valueOf_71 rfl ?_
              exact tl _ _ _ _ t' ht' hE.h.n (by simp [q_up]) (StR.low hS rfl)
        · refine st_aload_n dX6_valueOf_32 rfl ?_
          refine st_iload dX6_valueOf_33 rfl ?_
          refine st_bipush dX6_valueOf_35 (by decide) ?_
          refine st_isub dX6_valueOf_37 ?_
          have hl60 : st.length < 60 := by
            rcases hcc with ⟨-, q, -⟩ | ⟨q, -⟩ | ⟨q, -⟩ <;> omega
          have eS : evS w c0 st = Int64.ofInt (c0 - 32) :: st := by
            unfold evS
            rw [if_pos (by omega)]
          rw [eS] at tl
          refine st_i2lK dX6_valueOf_38 (by omega) ?_
          refine c_V1v (d' := d - 1) dX6_valueOf_39 l_X6_165 k_X6_add i_X6_add (Or.inl ⟨_, _, _, _, _, (by first | with_reducible assumption | rfl), by rfl⟩) (by omega) (Nat.le_of_ble_eq_true rfl) (C_add (n := st.length) h5 hl60) (fun M2 N2 hx => ?_)
          obtain ⟨rfl, rfl⟩ := hx
          refine st_goto (tgt := 123) dX6_valueOf_42 rfl ?_
          exact tl _ _ _ _ t' ht' hE.h.n (by simp [q_up]) (StR.low hS rfl)
  refine AW.to (loop n i0 (q_up M 86 5 0) N [] [] none none (by omega) EvX.rf.h (by simp [q_up]) trivial trivial (by decide) hty rfl) (h2 := ?_)
  rfl


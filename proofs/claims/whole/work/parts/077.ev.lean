/-! what a rule's codes come to -/
def cmpL (x y : Int64) : Int := if x > y then 1 else if x = y then 0 else -1
theorem cmpL_rng (x y : Int64) : -1 ≤ cmpL x y ∧ cmpL x y ≤ 1 := by
  unfold cmpL
  split
  · omega
  · split <;> omega
theorem cmpL_rf (x : Int64) : cmpL x x = 0 := by
  unfold cmpL
  rw [if_neg (Int64.lt_irrefl), if_pos rfl]
theorem st_lcmpL {G : q_G} {d : Nat} {μ : q_M} {pc : Nat} {L : List (Option Value)} {st : List Value} {S : q_Sh} {M : q_Mem} {N : q_MemL} {k n : Nat} {Q : q_Q} {x y : Int64} (hd : decode μ.2.1 pc = .ok (.lcmp, 1)) (kk : AW G d μ (pc + 1) L (I (cmpL x y) :: st) S M N k n Q) : AW G d μ pc L (.long y :: .long x :: st) S M N k n Q := by
  refine st_lcmp hd (AW.top ?_ kk)
  unfold lg_cmp cmpL
  split
  · rfl
  · split <;> rfl
/-- two values joined, by the system's codes -/
def joC (c : Int) (a b : Int64) : Int64 := if c = 11 then a + b else if c = 12 then a - b else if c = 13 then a * b else if c = 14 then (if cmpL b 0 = 0 then 0 else a / b) else if c = 15 then (if cmpL b 0 = 0 then 0 else a - a / b * b) else if c = 16 then (if cmpL a b < 0 then 1 else 0) else if c = 17 then (if cmpL a b ≤ 0 then 1 else 0) else if c = 18 then (if cmpL a b = 0 then 1 else 0) else if c = 19 then (if 0 ≤ cmpL a b then 1 else 0) else if c = 20 then (if 0 < cmpL a b then 1 else 0) else if c = 22 then a &&& b else a ||| b
/-- one code, on a stack -/
def evS (w : Nat → Int64) (c : Int) (st : List Int64) : List Int64 :=
  if 32 ≤ c then Int64.ofInt (c - 32) :: st else if c ≤ 10 then w c.toNat :: st else if c = 21 then (match st with | x :: r => (1 - x) :: r | [] => []) else match st with | b :: a :: r => joC c a b :: r | _ => []
def evN (w : Nat → Int64) (f : Nat → Int) : Nat → Nat → List Int64 → List Int64
  | _, 0, st => st
  | i, n + 1, st => evN w f (i + 1) n (evS w (f i) st)
/-- one code, on the kinds of what lies there: true or not, or any number -/
def tyS (c : Int) (ts : List Bool) : Option (List Bool) :=
  if 32 ≤ c ∧ c ≤ 100031 ∨ 0 ≤ c ∧ c ≤ 10 then (if ts.length < 60 then some (false :: ts) else none)
  else if c = 21 then (match ts with | true :: r => some (true :: r) | _ => none)
  else if 11 ≤ c ∧ c ≤ 15 then (match ts with | _ :: _ :: r => some (false :: r) | _ => none)
  else if 16 ≤ c ∧ c ≤ 20 then (match ts with | _ :: _ :: r => some (true :: r) | _ => none)
  else if 22 ≤ c ∧ c ≤ 23 then (match ts with | true :: true :: r => some (true :: r) | _ => none)
  else none
def tyN (f : Nat → Int) : Nat → Nat → List Bool → Option (List Bool)
  | _, 0, ts => some ts
  | i, n + 1, ts => match tyS (f i) ts with | some t => tyN f (i + 1) n t | none => none
def tyV : List Bool → List Int64 → Prop
  | [], [] => True
  | t :: ts, x :: st => (t = true → x = 0 ∨ x = 1) ∧ tyV ts st
  | _, _ => False
theorem tyV.len : ∀ {ts : List Bool} {st : List Int64}, tyV ts st → st.length = ts.length
  | [], [], _ => rfl
  | [], _ :: _, h => h.elim
  | _ :: _, [], h => h.elim
  | _ :: _, _ :: _, h => by have := tyV.len h.2; simp [this]
/-- what one code may be -/
theorem tyS_cs {c : Int} {ts t : List Bool} (h : tyS c ts = some t) : ((32 ≤ c ∧ c ≤ 100031 ∨ 0 ≤ c ∧ c ≤ 10) ∧ ts.length < 60 ∧ t = false :: ts) ∨ (c = 21 ∧ ∃ r, ts = true :: r ∧ t = true :: r) ∨ ((11 ≤ c ∧ c ≤ 20 ∨ 22 ≤ c ∧ c ≤ 23) ∧ ∃ a b r, ts = b :: a :: r ∧ t = decide (16 ≤ c) :: r ∧ (22 ≤ c → a = true ∧ b = true)) := by
  unfold tyS at h
  by_cases c1 : 32 ≤ c ∧ c ≤ 100031 ∨ 0 ≤ c ∧ c ≤ 10
  · rw [if_pos c1] at h
    by_cases c2 : ts.length < 60
    · rw [if_pos c2] at h
      exact Or.inl ⟨c1, c2, (Option.some.inj h).symm⟩
    · rw [if_neg c2] at h
      cases h
  · rw [if_neg c1] at h
    by_cases c2 : c = 21
    · rw [if_pos c2] at h
      match ts, h with
      | true :: r, h => exact Or.inr (Or.inl ⟨c2, r, rfl, (Option.some.inj h).symm⟩)
    · rw [if_neg c2] at h
      by_cases c3 : 11 ≤ c ∧ c ≤ 15
      · rw [if_pos c3] at h
        match ts, h with
        | b :: a :: r, h => exact Or.inr (Or.inr ⟨by omega, a, b, r, rfl, by rw [← Option.some.inj h, decide_eq_false (by omega)], fun z => by omega⟩)
      · rw [if_neg c3] at h
        by_cases c4 : 16 ≤ c ∧ c ≤ 20
        · rw [if_pos c4] at h
          match ts, h with
          | b :: a :: r, h => exact Or.inr (Or.inr ⟨by omega, a, b, r, rfl, by rw [← Option.some.inj h, decide_eq_true (by omega)], fun z => by omega⟩)
        · rw [if_neg c4] at h
          by_cases c5 : 22 ≤ c ∧ c ≤ 23
          · rw [if_pos c5] at h
            match ts, h with
            | true :: true :: r, h => exact Or.inr (Or.inr ⟨by omega, true, true, r, rfl, by rw [← Option.some.inj h, decide_eq_true (by omega)], fun _ => ⟨rfl, rfl⟩⟩)
          · rw [if_neg c5] at h
            cases h
theorem bit_cs {x : Int64} {p : Prop} [Decidable p] (h : x = if p then 1 else 0) : x = 0 ∨ x = 1 := by
  rw [h]
  split
  · exact Or.inr rfl
  · exact Or.inl rfl
theorem tyV_ev {c : Int} {w : Nat → Int64} {ts t : List Bool} {st : List Int64} (h : tyS c ts = some t) (hv : tyV ts st) : tyV t (evS w c st) := by
  rcases tyS_cs h with ⟨c1, c2, rfl⟩ | ⟨rfl, r, rfl, rfl⟩ | ⟨c1, a, b, r, rfl, rfl, hb⟩
  · unfold evS
    by_cases c3 : 32 ≤ c
    · rw [if_pos c3]
      exact ⟨fun z => Bool.noConfusion z, hv⟩
    · rw [if_neg c3, if_pos (by omega)]
      exact ⟨fun z => Bool.noConfusion z, hv⟩
  · match st, hv with
    | x :: s, hv =>
      refine ⟨fun _ => ?_, hv.2⟩
      rcases hv.1 rfl with rfl | rfl
      · exact Or.inr rfl
      · exact Or.inl rfl
  · match st, hv with
    | y :: x :: s, hv =>
      unfold evS
      rw [if_neg (by omega), if_neg (by omega), if_neg (by omega)]
      refine ⟨fun z => ?_, hv.2.2⟩
      have z := of_decide_eq_true z
      unfold joC
      rw [if_neg (by omega), if_neg (by omega), if_neg (by omega), if_neg (by omega), if_neg (by omega)]
      by_cases d16 : c = 16
      · rw [if_pos d16]; exact bit_cs rfl
      · rw [if_neg d16]
        by_cases d17 : c = 17
        · rw [if_pos d17]; exact bit_cs rfl
        · rw [if_neg d17]
          by_cases d18 : c = 18
          · rw [if_pos d18]; exact bit_cs rfl
          · rw [if_neg d18]
            by_cases d19 : c = 19
            · rw [if_pos d19]; exact bit_cs rfl
            · rw [if_neg d19]
              by_cases d20 : c = 20
              · rw [if_pos d20]; exact bit_cs rfl
              · rw [if_neg d20]
                obtain ⟨hb1, hb2⟩ := hb (by omega)
                have v1 := hv.1 hb2
                have v2 := hv.2.1 hb1
                by_cases d22 : c = 22
                · rw [if_pos d22]
                  rcases v1 with rfl | rfl <;> rcases v2 with rfl | rfl <;> decide
                · rw [if_neg d22]
                  rcases v1 with rfl | rfl <;> rcases v2 with rfl | rfl <;> decide
/-- the values lie in a row, the last one on top -/
def StR (N : q_MemL) (a : Nat) : List Int64 → Prop
  | [] => True
  | x :: r => N a r.length = x ∧ StR N a r
theorem StR.up {N : q_MemL} {a : Nat} {x : Int64} : ∀ {st : List Int64} {i : Nat}, st.length ≤ i → StR N a st → StR (q_upL N a i x) a st
  | [], _, _, _ => trivial
  | y :: r, i, hi, h => by
    have hi2 : r.length < i := hi
    refine ⟨?_, StR.up (by omega) h.2⟩
    rw [← h.1]
    have : ¬ r.length = i := by omega
    simp [q_upL, this]
theorem StR.push {N : q_MemL} {a : Nat} {x : Int64} {st : List Int64} (h : StR N a st) : StR (q_upL N a st.length x) a (x :: st) := ⟨by simp [q_upL], h.up (Nat.le_refl _)⟩
theorem C_join {G : q_G} {d : Nat} {M : q_Mem} {N : q_MemL} {c : Int} {a b : Int64} (hc : 11 ≤ c ∧ c ≤ 23 ∧ ¬ c = 21) : AC0 G d m_X6_join [I c, .long a, .long b] M N (CV (PU (.long (joC c a b)) M N)) := by
  have hr := cmpL_rng a b
  have hr0 := cmpL_rng b 0
  have hcs : c = 11 ∨ c = 12 ∨ c = 13 ∨ c = 14 ∨ c = 15 ∨ c = 16 ∨ c = 17 ∨ c = 18 ∨ c = 19 ∨ c = 20 ∨ c = 22 ∨ c = 23 := by omega
  rcases hcs with rfl | rfl | rfl | rfl | rfl | rfl | rfl | rfl | rfl | rfl | rfl | rfl
  · refine AC.of (L0 := [_, _, _, _, _]) pn_X6 (Nat.le_of_ble_eq_true rfl) rfl ?_
    refine st_iload_n dX6_join_0 rfl ?_
    refine st_tsIn (off := 63) (tgt := 64) dX6_join_1 (by decide) (by decide) (by decide) rfl rfl ?_
    refine st_lload_n dX6_join_64 rfl ?_
    refine st_lload_n dX6_join_65 rfl ?_
    refine st_ladd dX6_join_66 ?_
    refine r_l dX6_join_67 rfl ⟨rfl, rfl, rfl⟩
  · refine AC.of (L0 := [_, _, _, _, _]) pn_X6 (Nat.le_of_ble_eq_true rfl) rfl ?_
    refine st_iload_n dX6_join_0 rfl ?_
    refine st_tsIn (off := 67) (tgt := 68) dX6_join_1 (by decide) (by decide) (by decide) rfl rfl ?_
    refine st_lload_n dX6_join_68 rfl ?_
    refine st_lload_n dX6_join_69 rfl ?_
    refine st_lsub dX6_join_70 ?_
    refine r_l dX6_join_71 rfl ⟨rfl, rfl, rfl⟩
  · refine AC.of (L0 := [_, _, _, _, _]) pn_X6 (Nat.le_of_ble_eq_true rfl) rfl ?_
    refine st_iload_n dX6_join_0 rfl ?_
    refine st_tsIn (off := 71) (tgt := 72) dX6_join_1 (by decide) (by decide) (by decide) rfl rfl ?_
    refine st_lload_n dX6_join_72 rfl ?_
    refine st_lload_n dX6_join_73 rfl ?_
    refine st_lmul dX6_join_74 ?_
    refine r_l dX6_join_75 rfl ⟨rfl, rfl, rfl⟩
  · refine AC.of (L0 := [_, _, _, _, _]) pn_X6 (Nat.le_of_ble_eq_true rfl) rfl ?_
    refine st_iload_n dX6_join_0 rfl ?_
    refine st_tsIn (off := 75) (tgt := 76) dX6_join_1 (by decide) (by decide) (by decide) rfl rfl ?_
    refine st_lload_n dX6_join_76 rfl ?_
    refine st_lc0K dX6_join_77 ?_
    refine AW.topv (show _ = Value.long 0 from rfl) ?_
    refine st_lcmpL dX6_join_78 ?_
    refine st_if_ne (tgt := 86) dX6_join_79 (by omega) rfl (fun h => ?_) (fun h => ?_)
    · refine st_lload_n dX6_join_86 rfl ?_
      refine st_lload_n dX6_join_87 rfl ?_
      refine st_ldiv dX6_join_88 (fun z => h (by rw [z]; exact cmpL_rf 0)) ?_
      refine r_l dX6_join_89 rfl ⟨?_, rfl, rfl⟩
      rw [show joC 14 a b = (if cmpL b 0 = 0 then 0 else a / b) from rfl, if_neg h]
    · refine st_lc0K dX6_join_82 ?_
      refine st_goto (tgt := 89) dX6_join_83 rfl ?_
      refine r_l dX6_join_89 rfl ⟨?_, rfl, rfl⟩
      rw [show joC 14 a b = (if cmpL b 0 = 0 then 0 else a / b) from rfl, if_pos (by omega)]
      rfl
  · refine AC.of (L0 := [_, _, _, _, _]) pn_X6 (Nat.le_of_ble_eq_true rfl) rfl ?_
    refine st_iload_n dX6_join_0 rfl ?_
    refine st_tsIn (off := 89) (tgt := 90) dX6_join_1 (by decide) (by decide) (by decide) rfl rfl ?_
    refine st_lload_n dX6_join_90 rfl ?_
    refine st_lc0K dX6_join_91 ?_
    refine AW.topv (show _ = Value.long 0 from rfl) ?_
    refine st_lcmpL dX6_join_92 ?_
    refine st_if_ne (tgt := 100) dX6_join_93 (by omega) rfl (fun h => ?_) (fun h => ?_)
    · refine st_lload_n dX6_join_100 rfl ?_
      refine st_lload_n dX6_join_101 rfl ?_
      refine st_lrem dX6_join_102 (fun z => h (by rw [z]; exact cmpL_rf 0)) ?_
      refine r_l dX6_join_103 rfl ⟨?_, rfl, rfl⟩
      rw [show joC 15 a b = (if cmpL b 0 = 0 then 0 else a - a / b * b) from rfl, if_neg h]
    · refine st_lc0K dX6_join_96 ?_
      refine st_goto (tgt := 103) dX6_join_97 rfl ?_
      refine r_l dX6_join_103 rfl ⟨?_, rfl, rfl⟩
      rw [show joC 15 a b = (if cmpL b 0 = 0 then 0 else a - a / b * b) from rfl, if_pos (by omega)]
      rfl
  · refine AC.of (L0 := [_, _, _, _, _]) pn_X6 (Nat.le_of_ble_eq_true rfl) rfl ?_
    refine st_iload_n dX6_join_0 rfl ?_
    refine st_tsIn (off := 103) (tgt := 104) dX6_join_1 (by decide) (by decide) (by decide) rfl rfl ?_
    refine st_lload_n dX6_join_104 rfl ?_
    refine st_lload_n dX6_join_105 rfl ?_
    refine st_lcmpL dX6_join_106 ?_
    refine st_if_ge (tgt := 114) dX6_join_107 (by omega) rfl (fun h => ?_) (fun h => ?_)
    · refine st_lc0K dX6_join_114 ?_
      refine r_l dX6_join_115 rfl ⟨?_, rfl, rfl⟩
      rw [show joC 16 a b = (if cmpL a b < 0 then 1 else 0) from rfl, if_neg (by omega)]
      rfl
    · refine st_lc1K dX6_join_110 ?_
      refine st_goto (tgt := 115) dX6_join_111 rfl ?_
      refine r_l dX6_join_115 rfl ⟨?_, rfl, rfl⟩
      rw [show joC 16 a b = (if cmpL a b < 0 then 1 else 0) from rfl, if_pos (by omega)]
      rfl
  · refine AC.of (L0 := [_, _, _, _, _]) pn_X6 (Nat.le_of_ble_eq_true rfl) rfl ?_
    refine st_iload_n dX6_join_0 rfl ?_
    refine st_tsIn (off := 115) (tgt := 116) dX6_join_1 (by decide) (by decide) (by decide) rfl rfl ?_
    refine st_lload_n dX6_join_116 rfl ?_
    refine st_lload_n dX6_join_117 rfl ?_
    refine st_lcmpL dX6_join_118 ?_
    refine st_if_gt (tgt := 126) dX6_join_119 (by omega) rfl (fun h => ?_) (fun h => ?_)
    · refine st_lc0K dX6_join_126 ?_
      refine r_l dX6_join_127 rfl ⟨?_, rfl, rfl⟩
      rw [show joC 17 a b = (if cmpL a b ≤ 0 then 1 else 0) from rfl, if_neg (by omega)]
      rfl
    · refine st_lc1K dX6_join_122 ?_
      refine st_goto (tgt := 127) dX6_join_123 rfl ?_
      refine r_l dX6_join_127 rfl ⟨?_, rfl, rfl⟩
      rw [show joC 17 a b = (if cmpL a b ≤ 0 then 1 else 0) from rfl, if_pos (by omega)]
      rfl
  · refine AC.of (L0 := [_, _, _, _, _]) pn_X6 (Nat.le_of_ble_eq_true rfl) rfl ?_
    refine st_iload_n dX6_join_0 rfl ?_
    refine st_tsIn (off := 127) (tgt := 128) dX6_join_1 (by decide) (by decide) (by decide) rfl rfl ?_
    refine st_lload_n dX6_join_128 rfl ?_
    refine st_lload_n dX6_join_129 rfl ?_
    refine st_lcmpL dX6_join_130 ?_
    refine st_if_ne (tgt := 138) dX6_join_131 (by omega) rfl (fun h => ?_) (fun h => ?_)
    · refine st_lc0K dX6_join_138 ?_
      refine r_l dX6_join_139 rfl ⟨?_, rfl, rfl⟩
      rw [show joC 18 a b = (if cmpL a b = 0 then 1 else 0) from rfl, if_neg (by omega)]
      rfl
    · refine st_lc1K dX6_join_134 ?_
      refine st_goto (tgt := 139) dX6_join_135 rfl ?_
      refine r_l dX6_join_139 rfl ⟨?_, rfl, rfl⟩
      rw [show joC 18 a b = (if cmpL a b = 0 then 1 else 0) from rfl, if_pos (by omega)]
      rfl
  · refine AC.of (L0 := [_, _, _, _, _]) pn_X6 (Nat.le_of_ble_eq_true rfl) rfl ?_
    refine st_iload_n dX6_join_0 rfl ?_
    refine st_tsIn (off := 139) (tgt := 140) dX6_join_1 (by decide) (by decide) (by decide) rfl rfl ?_
    refine st_lload_n dX6_join_140 rfl ?_
    refine st_lload_n dX6_join_141 rfl ?_
    refine st_lcmpL dX6_join_142 ?_
    refine st_if_lt (tgt := 150) dX6_join_143 (by omega) rfl (fun h => ?_) (fun h => ?_)
    · refine st_lc0K dX6_join_150 ?_
      refine r_l dX6_join_151 rfl ⟨?_, rfl, rfl⟩
      rw [show joC 19 a b = (if 0 ≤ cmpL a b then 1 else 0) from rfl, if_neg (by omega)]
      rfl
    · refine st_lc1K dX6_join_146 ?_
      refine st_goto (tgt := 151) dX6_join_147 rfl ?_
      refine r_l dX6_join_151 rfl ⟨?_, rfl, rfl⟩
      rw [show joC 19 a b = (if 0 ≤ cmpL a b then 1 else 0) from rfl, if_pos (by omega)]
      rfl
  · refine AC.of (L0 := [_, _, _, _, _]) pn_X6 (Nat.le_of_ble_eq_true rfl) rfl ?_
    refine st_iload_n dX6_join_0 rfl ?_
    refine st_tsIn (off := 151) (tgt := 152) dX6_join_1 (by decide) (by decide) (by decide) rfl rfl ?_
    refine st_lload_n dX6_join_152 rfl ?_
    refine st_lload_n dX6_join_153 rfl ?_
    refine st_lcmpL dX6_join_154 ?_
    refine st_if_le (tgt := 162) dX6_join_155 (by omega) rfl (fun h => ?_) (fun h => ?_)
    · refine st_lc0K dX6_join_162 ?_
      refine r_l dX6_join_163 rfl ⟨?_, rfl, rfl⟩
      rw [show joC 20 a b = (if 0 < cmpL a b then 1 else 0) from rfl, if_neg (by omega)]
      rfl
    · refine st_lc1K dX6_join_158 ?_
      refine st_goto (tgt := 163) dX6_join_159 rfl ?_
      refine r_l dX6_join_163 rfl ⟨?_, rfl, rfl⟩
      rw [show joC 20 a b = (if 0 < cmpL a b then 1 else 0) from rfl, if_pos (by omega)]
      rfl
  · refine AC.of (L0 := [_, _, _, _, _]) pn_X6 (Nat.le_of_ble_eq_true rfl) rfl ?_
    refine st_iload_n dX6_join_0 rfl ?_
    refine st_tsIn (off := 163) (tgt := 164) dX6_join_1 (by decide) (by decide) (by decide) rfl rfl ?_
    refine st_lload_n dX6_join_164 rfl ?_
    refine st_lload_n dX6_join_165 rfl ?_
    refine st_land dX6_join_166 ?_
    refine r_l dX6_join_167 rfl ⟨rfl, rfl, rfl⟩
  · refine AC.of (L0 := [_, _, _, _, _]) pn_X6 (Nat.le_of_ble_eq_true rfl) rfl ?_
    refine st_iload_n dX6_join_0 rfl ?_
    refine st_tsOut (tgt := 168) dX6_join_1 (by omega) (by omega) rfl ?_
    refine st_lload_n dX6_join_168 rfl ?_
    refine st_lload_n dX6_join_169 rfl ?_
    refine st_lor dX6_join_170 ?_
    refine r_l dX6_join_171 rfl ⟨rfl, rfl, rfl⟩
theorem C_add {G : q_G} {d : Nat} {M : q_Mem} {N : q_MemL} {x : Int64} {n : Nat} (h : M 86 5 = (n : Int)) (hn : n < 60) : AC0 G d m_X6_add [.ref 86, .long x] M N (CN (fun M' N' => M' = q_up M 86 5 ((n + 1 : Nat) : Int) ∧ N' = q_upL N 90 n x)) := by
  refine AC.of (L0 := [_, _, _]) pn_X6 (Nat.le_of_ble_eq_true rfl) rfl ?_
  refine st_aload_n dX6_add_0 rfl ?_
  refine st_getfi dX6_add_1 f_X6_159 (by first | with_reducible assumption | rfl) (by rfl) ?_
  rw [h]
  refine st_if_lt (tgt := 39) dX6_add_4 (by omega) rfl (fun c => ?_) (fun c => ?_)
  · skip
    omega
  · refine st_aload_n dX6_add_7 rfl ?_
    refine st_getfi dX6_add_8 f_X6_159 (by first | with_reducible assumption | rfl) (by rfl) ?_
    rw [h]
    refine st_aload_n dX6_add_11 rfl ?_
    refine st_getfr dX6_add_12 f_X6_26 (by first | with_reducible assumption | rfl) (by rfl) ?_
    refine st_alen dX6_add_15 (by first | with_reducible assumption | rfl) (by decide) ?_
    refine st_icmp_ge (tgt := 39) dX6_add_16 (by omega) (by omega) rfl (fun c2 => ?_) (fun c2 => ?_)
    · skip
      omega
    · refine st_aload_n dX6_add_19 rfl ?_
      refine st_getfr dX6_add_20 f_X6_26 (by first | with_reducible assumption | rfl) (by rfl) ?_
      refine st_aload_n dX6_add_23 rfl ?_
      refine st_getfi dX6_add_24 f_X6_159 (by first | with_reducible assumption | rfl) (by rfl) ?_
      rw [h]
      refine st_lload_n dX6_add_27 rfl ?_
      refine st_lastK (k' := n) dX6_add_28 (by first | with_reducible assumption | rfl) rfl (by omega) (hn := by decide) ?_
      refine st_aload_n dX6_add_29 rfl ?_
      refine st_dup dX6_add_30 rfl ?_
      refine st_getfi dX6_add_31 f_X6_159 (by first | with_reducible assumption | rfl) (by rfl) ?_
      rw [h]
      refine st_iconst dX6_add_34 ?_
      refine st_iadd dX6_add_35 ?_
      refine st_putfi dX6_add_36 w_X6_159 (by first | with_reducible assumption | rfl) (by rfl) rfl rfl ?_
      refine r_v dX6_add_39 rfl ⟨by rw [show (n : Int) + 1 = ((n + 1 : Nat) : Int) by omega], rfl⟩
theorem C_take {G : q_G} {d : Nat} {M : q_Mem} {N : q_MemL} {n : Nat} (h : M 86 5 = ((n + 1 : Nat) : Int)) (hn : n < 60) : AC0 G d m_X6_take [.ref 86] M N (CV (fun x M' N' => x = .long (N 90 n) ∧ M' = q_up M 86 5 (n : Int) ∧ N' = N)) := by
  have e : ((n + 1 : Nat) : Int) - 1 = (n : Int) := by omega
  refine AC.of (L0 := [_]) pn_X6 (Nat.le_of_ble_eq_true rfl) rfl ?_
  refine st_aload_n dX6_take_0 rfl ?_
  refine st_getfi dX6_take_1 f_X6_159 (by first | with_reducible assumption | rfl) (by rfl) ?_
  rw [h]
  refine st_if_le (tgt := 19) dX6_take_4 (by omega) rfl (fun c => ?_) (fun c => ?_)
  · skip
    omega
  · refine st_aload_n dX6_take_7 rfl ?_
    refine st_getfi dX6_take_8 f_X6_159 (by first | with_reducible assumption | rfl) (by rfl) ?_
    rw [h]
    refine st_aload_n dX6_take_11 rfl ?_
    refine st_getfr dX6_take_12 f_X6_26 (by first | with_reducible assumption | rfl) (by rfl) ?_
    refine st_alen dX6_take_15 (by first | with_reducible assumption | rfl) (by decide) ?_
    refine st_icmp_le (tgt := 21) dX6_take_16 (by omega) (by omega) rfl (fun c2 => ?_) (fun c2 => ?_)
    · refine st_aload_n dX6_take_21 rfl ?_
      refine st_dup dX6_take_22 rfl ?_
      refine st_getfi dX6_take_23 f_X6_159 (by first | with_reducible assumption | rfl) (by rfl) ?_
      rw [h]
      refine st_iconst dX6_take_26 ?_
      refine st_isub dX6_take_27 ?_
      rw [e]
      refine st_putfi dX6_take_28 w_X6_159 (by first | with_reducible assumption | rfl) (by rfl) rfl rfl ?_
      refine st_aload_n dX6_take_31 rfl ?_
      refine st_getfr dX6_take_32 f_X6_26 (by first | with_reducible assumption | rfl) (by rfl) ?_
      refine st_aload_n dX6_take_35 rfl ?_
      refine st_getfi dX6_take_36 f_X6_159 (by first | with_reducible assumption | rfl) (by rfl) ?_
      rw [show q_up M 86 5 (n : Int) 86 5 = (n : Int) by simp [q_up]]
      refine st_laldK (k' := n) dX6_take_39 (by first | with_reducible assumption | rfl) rfl (by omega) (hn := by decide) ?_
      refine r_l dX6_take_40 rfl ⟨rfl, rfl, rfl⟩
    · skip
      omega


/-! the reference: all ways to sing together, in their rows -/
def dA (n k : Nat) : Nat := if n = 1 then k else if n = 2 then k / 31 else k / 31 / 31
def dB (n k : Nat) : Nat := if n = 1 then 0 else if n = 2 then k % 31 else k / 31 % 31
def dC (n k : Nat) : Nat := if n = 3 then k % 31 else 0
def sm3 (n k : Nat) : Nat := dA n k + dB n k + dC n k
theorem d_rng {n k : Nat} (hn : 1 ≤ n ∧ n ≤ 3) (hk : k < 31 ^ n) : dA n k ≤ 30 ∧ dB n k ≤ s30 1 n ∧ dC n k ≤ s30 2 n := by
  have h : n = 1 ∨ n = 2 ∨ n = 3 := by omega
  unfold s30
  rcases h with rfl | rfl | rfl
  · have : (31 : Nat) ^ 1 = 31 := rfl
    simp [dA, dB, dC]; omega
  · have : (31 : Nat) ^ 2 = 961 := rfl
    simp [dA, dB, dC]; omega
  · have : (31 : Nat) ^ 3 = 29791 := rfl
    simp [dA, dB, dC]; omega
def cd3 (n a b c : Nat) : Nat := if n = 1 then a else if n = 2 then 31 * a + b else 961 * a + 31 * b + c
theorem d_cd {n a b c : Nat} (hn : 1 ≤ n ∧ n ≤ 3) (ha : a ≤ 30) (hb : b ≤ s30 1 n) (hc : c ≤ s30 2 n) : cd3 n a b c < 31 ^ n ∧ dA n (cd3 n a b c) = a ∧ dB n (cd3 n a b c) = b ∧ dC n (cd3 n a b c) = c := by
  have h : n = 1 ∨ n = 2 ∨ n = 3 := by omega
  unfold s30 at hb hc
  rcases h with rfl | rfl | rfl
  · have : (31 : Nat) ^ 1 = 31 := rfl
    simp [dA, dB, dC, cd3] at *; omega
  · have : (31 : Nat) ^ 2 = 961 := rfl
    simp [dA, dB, dC, cd3] at *; omega
  · have : (31 : Nat) ^ 3 = 29791 := rfl
    simp [dA, dB, dC, cd3] at *; omega
/-- by rows one comes ahead of the other -/
theorem d_lex {n k k' : Nat} (hn : 1 ≤ n ∧ n ≤ 3) (hk : k' < k) : dA n k' < dA n k ∨ (dA n k' = dA n k ∧ (dB n k' < dB n k ∨ (dB n k' = dB n k ∧ dC n k' < dC n k))) := by
  have h : n = 1 ∨ n = 2 ∨ n = 3 := by omega
  rcases h with rfl | rfl | rfl
  · simp [dA, dB, dC]; omega
  · simp [dA, dB, dC]; omega
  · simp [dA, dB, dC]; omega
/-- a way by its number is one -/
def okK (B : q_Mem) (n l0 l1 l2 : Nat) (st : Int) (k : Nat) : Prop := okM B n l0 l1 l2 st (dA n k) (dB n k) (dC n k)
/-- the way that is the answer, by its number (all of them: there is none) -/
def tgK (B : q_Mem) (n l0 l1 l2 : Nat) (st : Int) (kT sT : Nat) : Prop := kT ≤ 31 ^ n ∧ (kT < 31 ^ n → okK B n l0 l1 l2 st kT ∧ sm3 n kT = sT) ∧ (∀ k, k < 31 ^ n → okK B n l0 l1 l2 st k → k < kT → sT < sm3 n k) ∧ ∀ k, k < 31 ^ n → okK B n l0 l1 l2 st k → kT ≤ k → sT ≤ sm3 n k
abbrev vK (B : q_Mem) (n l0 l1 l2 k : Nat) : Nat → Int := vs3 n l0 l1 l2 (dA n k : Nat) (dB n k : Nat) (dC n k : Nat) (nowV B 0)
theorem vK_rng {B : q_Mem} {n l0 l1 l2 k : Nat} (hB : NowOk B) (hn : 1 ≤ n ∧ n ≤ 3) (hk : k < 31 ^ n) (q : Nat) : 0 ≤ vK B n l0 l1 l2 k q ∧ vK B n l0 l1 l2 k q ≤ 30 := by
  have h := d_rng hn hk
  have h1 := nowV_rng hB (B 3 11) 0 q
  have h2 : s30 1 n ≤ 30 ∧ s30 2 n ≤ 30 := by unfold s30; constructor <;> split <;> omega
  show 0 ≤ vs3 _ _ _ _ _ _ _ _ q ∧ _
  unfold vK vs3
  repeat' split
  all_goals omega
def mtNF (B M : q_Mem) (n l0 l1 l2 : Nat) (st : Int) (sT : Nat) : Prop := M 112 56 = -1 ∨ ((sT : Int) < M 112 56 ∧ M 112 56 ≤ 1000 ∧ ∃ k, k < 31 ^ n ∧ okK B n l0 l1 l2 st k)
def mtFD (B M : q_Mem) (n l0 l1 l2 : Nat) (kT : Nat) : Prop := M 112 56 = (sm3 n kT : Nat) ∧ M 112 57 = mpl B n l0 l1 l2 (vK B n l0 l1 l2 kT) ∧ ∀ i, i < n → M 151 i = vK B n l0 l1 l2 kT (lof l0 l1 l2 i)
theorem C_findsMeeting {G : q_G} {d : Nat} {B M : q_Mem} {N : q_MemL} {n l0 l1 l2 kT sT : Nat} {st : Int} (hd : 3 ≤ d) (hN : RN B M) (hC : mtC B M n l0 l1 l2) (h01 : 1 < n → l0 < l1) (h12' : 2 < n → l1 < l2) (hst : -1 ≤ st ∧ st < 2147483648) (hv0 : ∀ o, o < (B 3 4).toNat → M 143 o = nowV B 0 o) (hT0 : tgK B n l0 l1 l2 st kT sT) : AC0 G d m_X11_findsMeeting [.ref 112, I st] M N (CN (fun M' N' => N' = N ∧ mtE M M' ∧ M' 112 55 = (n : Nat) ∧ (kT < 31 ^ n → mtFD B M' n l0 l1 l2 kT) ∧ (¬ kT < 31 ^ n → mtNF B M' n l0 l1 l2 st sT))) := by
  obtain ⟨hB, hT, hP, hW, hb6⟩ := id hN
  obtain ⟨h0, h1, h2, h3, h4, -⟩ := id hB
  obtain ⟨c0, c1, c2, c3, c4⟩ := id hC
  obtain ⟨k0, k1, k2, k3⟩ := hT0
  have hp3 : 31 ^ n ≤ 29791 := by
    have h : n = 1 ∨ n = 2 ∨ n = 3 := by omega
    rcases h with rfl | rfl | rfl <;> decide
  have hlof : ∀ i, i < n → lof l0 l1 l2 i < (B 3 4).toNat ∧ M 150 i = (lof l0 l1 l2 i : Nat) := by
    intro i hi
    unfold lof
    by_cases e : i = 0
    · rw [if_pos e, e]; exact ⟨c2.2, c2.1⟩
    · rw [if_neg e]
      by_cases e1 : i = 1
      · rw [if_pos e1, e1]; exact ⟨(c3 (by omega)).2, (c3 (by omega)).1⟩
      · rw [if_neg e1, show i = 2 by omega]; exact ⟨(c4 (by omega)).2, (c4 (by omega)).1⟩
  refine AC.of (L0 := [_, _, none, none, none, none, none, none]) pn_X11 (Nat.le_of_ble_eq_true rfl) rfl ?_
  refine st_iconst dX11_findsMeeting_0 ?_
  refine st_istore_n (L' := [_, _, _, _, _, _, _, _]) dX11_findsMeeting_1 (by decide) rfl rfl ?_
  refine st_iconst dX11_findsMeeting_2 ?_
  refine st_istore_n (L' := [_, _, _, _, _, _, _, _]) dX11_findsMeeting_3 (by decide) rfl rfl ?_
  -- how many ways
  have cw : ∀ (p j : Nat), j + p = n → AW0 G d m_X11_findsMeeting 23 [some (.ref 112), some (I st), some (I (31 ^ n : Nat)), some (I n), none, none, none, none] [] M N (CN (fun M' N' => N' = N ∧ mtE M M' ∧ M' 112 55 = (n : Nat) ∧ (kT < 31 ^ n → mtFD B M' n l0 l1 l2 kT) ∧ (¬ kT < 31 ^ n → mtNF B M' n l0 l1 l2 st sT))) → AW0 G d m_X11_findsMeeting 4 [some (.ref 112), some (I st), some (I (31 ^ j : Nat)), some (I j), none, none, none, none] [] M N (CN (fun M' N' => N' = N ∧ mtE M M' ∧ M' 112 55 = (n : Nat) ∧ (kT < 31 ^ n → mtFD B M' n l0 l1 l2 kT) ∧ (¬ kT < 31 ^ n → mtNF B M' n l0 l1 l2 st sT))) := by
    intro p
    induction p with
    | zero =>
      intro j hj kk
      have : j = n := by omega
      subst this
      refine st_iload_n dX11_findsMeeting_4 rfl ?_
      refine st_aload_n dX11_findsMeeting_5 rfl ?_
      refine st_getfi dX11_findsMeeting_6 f_X11_511 (by first | with_reducible assumption | rfl) (by rfl) ?_
      rw [c1]
      refine st_icmp_ge (tgt := 23) dX11_findsMeeting_9 (by omega) (by omega) rfl (fun h => ?_) (fun h => ?_)
      · skip
        exact kk
      · skip
        omega
    | succ p ih =>
      intro j hj kk
      refine st_iload_n dX11_findsMeeting_4 rfl ?_
      refine st_aload_n dX11_findsMeeting_5 rfl ?_
      refine st_getfi dX11_findsMeeting_6 f_X11_511 (by first | with_reducible assumption | rfl) (by rfl) ?_
      rw [c1]
      refine st_icmp_ge (tgt := 23) dX11_findsMeeting_9 (by omega) (by omega) rfl (fun h => ?_) (fun h => ?_)
      · skip
        omega
      · refine st_iload_n dX11_findsMeeting_12 rfl ?_
        refine st_bipush dX11_findsMeeting_13 (by decide) ?_
        refine st_imul dX11_findsMeeting_15 ?_
        rw [show ((31 ^ j : Nat) : Int) * 31 = ((31 ^ (j + 1) : Nat) : Int) by rw [Nat.pow_succ, Int.natCast_mul]; rfl]
        refine st_istore_n (L' := [_, _, _, _, _, _, _, _]) dX11_findsMeeting_16 (by decide) rfl rfl ?_
        refine st_iinc (L' := [_, _, _, _, _, _, _, _]) dX11_findsMeeting_17 rfl (by decide) rfl rfl ?_
        refine st_goto (tgt := 4) dX11_findsMeeting_20 rfl ?_
        exact AW.to (ih (j + 1) (by omega) kk) (h2 := by simp)
  refine AW.to (cw n 0 (Nat.zero_add _) ?_)
  refine st_aload_n dX11_findsMeeting_23 rfl ?_
  refine st_iconst dX11_findsMeeting_24 ?_
  refine st_putfi dX11_findsMeeting_25 w_X11_514 (by first | with_reducible assumption | rfl) (by rfl) rfl rfl ?_
  refine st_iconst dX11_findsMeeting_28 ?_
  refine st_istore_n (L' := [_, _, _, _, _, _, _, _]) dX11_findsMeeting_29 (by decide) rfl rfl ?_
  have hI0 : mtE M (q_up M 112 56 (-1)) := ⟨Exc.up (by decide), fun j _ j56 _ => by simp [q_up, j56]⟩
  -- all ways, one behind another
  have hmt : ∀ M2, mtE M M2 → M2 112 55 = (n : Nat) → M2 150 = M 150 → mtC B M2 n l0 l1 l2 := fun M2 _ h55 h150 => ⟨c0, h55, by rw [h150]; exact c2, by rw [h150]; exact c3, by rw [h150]; exact c4⟩
  have hRN : ∀ M2, mtE M M2 → RN B M2 := fun M2 h => hN.qk h.qk.2.1
  have outl : ∀ (m k : Nat) (M2 : q_Mem) (l4 l5 l6 l7 : Option Value), k + m = 31 ^ n → mtE M M2 → M2 112 55 = (n : Nat) → M2 150 = M 150 → (∀ o, o < (B 3 4).toNat → ¬ o = l0 → (1 < n → ¬ o = l1) → (2 < n → ¬ o = l2) → M2 143 o = nowV B 0 o) → (kT < k → mtFD B M2 n l0 l1 l2 kT) → (¬ kT < k → mtNF B M2 n l0 l1 l2 st sT) → AW0 G d m_X11_findsMeeting 30 [some (.ref 112), some (I st), some (I (31 ^ n : Nat)), some (I k), l4, l5, l6, l7] [] M2 N (CN (fun M' N' => N' = N ∧ mtE M M' ∧ M' 112 55 = (n : Nat) ∧ (kT < 31 ^ n → mtFD B M' n l0 l1 l2 kT) ∧ (¬ kT < 31 ^ n → mtNF B M' n l0 l1 l2 st sT))) := by
    intro m
    induction m with
    | zero =>
      intro k M2 l4 l5 l6 l7 hk hE h55 h150 hoth hFD hNF
      have hkn : k = 31 ^ n := by omega
      subst hkn
      refine st_iload_n dX11_findsMeeting_30 rfl ?_
      refine st_iload_n dX11_findsMeeting_31 rfl ?_
      refine st_icmp_ge (tgt := 200) dX11_findsMeeting_32 (by omega) (by omega) rfl (fun h => ?_) (fun h => ?_)
      · skip
        exact r_v dX11_findsMeeting_200 rfl ⟨rfl, hE, h55, hFD, hNF⟩
      · skip
        omega
    | succ m ih =>
      intro k M2 l4 l5 l6 l7 hk hE h55 h150 hoth hFD hNF
      have hkn : k < 31 ^ n := by omega
      have hdr := d_rng c0 hkn
      have hs30 : s30 1 n ≤ 30 ∧ s30 2 n ≤ 30 := by unfold s30; constructor <;> split <;> omega
      refine st_iload_n dX11_findsMeeting_30 rfl ?_
      refine st_iload_n dX11_findsMeeting_31 rfl ?_
      refine st_icmp_ge (tgt := 200) dX11_findsMeeting_32 (by omega) (by omega) rfl (fun h => ?_) (fun h => ?_)
      · skip
        omega
      · refine st_iload_n dX11_findsMeeting_35 rfl ?_
        refine st_istore (L' := [_, _, _, _, _, _, _, _]) dX11_findsMeeting_36 (by decide) rfl rfl ?_
        refine st_iconst dX11_findsMeeting_38 ?_
        refine st_istore (L' := [_, _, _, _, _, _, _, _]) dX11_findsMeeting_39 (by decide) rfl rfl ?_
        refine st_aload_n dX11_findsMeeting_41 rfl ?_
        refine st_getfi dX11_findsMeeting_42 f_X11_511 (by first | with_reducible assumption | rfl) (by rfl) ?_
        refine st_iconst dX11_findsMeeting_45 ?_
        refine st_isub dX11_findsMeeting_46 ?_
        rw [h55]
        refine st_istore (L' := [_, _, _, _, _, _, _, _]) dX11_findsMeeting_47 (by decide) rfl rfl ?_
        -- one digit
        have dg : ∀ (i left sum : Nat) (M3 : q_Mem), i < n → left < 30000 → M3 150 = M 150 → (∀ (i' : Int), i' = (i : Int) - 1 → AW0 G d m_X11_findsMeeting 49 [some (.ref 112), some (I st), some (I (31 ^ n : Nat)), some (I k), some (I (left / 31 : Nat)), some (I (sum + left % 31 : Nat)), some (I i'), l7] [] (q_up M3 143 (lof l0 l1 l2 i) (left % 31 : Nat)) N (CN (fun M' N' => N' = N ∧ mtE M M' ∧ M' 112 55 = (n : Nat) ∧ (kT < 31 ^ n → mtFD B M' n l0 l1 l2 kT) ∧ (¬ kT < 31 ^ n → mtNF B M' n l0 l1 l2 st sT)))) →
            AW0 G d m_X11_findsMeeting 49 [some (.ref 112), some (I st), some (I (31 ^ n : Nat)), some (I k), some (I left), some (I sum), some (I i), l7] [] M3 N (CN (fun M' N' => N' = N ∧ mtE M M' ∧ M' 112 55 = (n : Nat) ∧ (kT < 31 ^ n → mtFD B M' n l0 l1 l2 kT) ∧ (¬ kT < 31 ^ n → mtNF B M' n l0 l1 l2 st sT))) := by
          intro i left sum M3 hi hl h150' kk
          have hlo := hlof i hi
          refine st_iload dX11_findsMeeting_49 rfl ?_
          refine st_if_lt (tgt := 101) dX11_findsMeeting_51 (by omega) rfl (fun h9 => ?_) (fun h9 => ?_)
          · skip
            omega
          · refine st_aload_n dX11_findsMeeting_54 rfl ?_
            refine st_getfr dX11_findsMeeting_55 f_X11_107 (by first | with_reducible assumption | rfl) (by rfl) ?_
            refine st_aload_n dX11_findsMeeting_58 rfl ?_
            refine st_getfr dX11_findsMeeting_59 f_X11_128 (by first | with_reducible assumption | rfl) (by rfl) ?_
            refine st_iload dX11_findsMeeting_62 rfl ?_
            first | refine st_ialdK (k' := _) dX11_findsMeeting_64 (by first | with_reducible assumption | rfl) rfl (by omega) (hn := by first | decide | omega) ?_ | refine st_iald dX11_findsMeeting_64 (by first | with_reducible assumption | rfl) (by omega) (by omega) (hn := by first | decide | omega) ?_
            rw [h150', hlo.2]
            refine st_iload dX11_findsMeeting_65 rfl ?_
            refine st_bipush dX11_findsMeeting_67 (by decide) ?_
            refine st_iremK dX11_findsMeeting_69 (by omega) (by omega) ?_
            refine st_iastK (k' := lof l0 l1 l2 i) dX11_findsMeeting_70 sh_143 rfl (by omega) (hn := by decide) ?_
            have e150 : q_up M3 143 (lof l0 l1 l2 i) ((left : Int) % 31) 150 i = (lof l0 l1 l2 i : Nat) := by rw [q_up_ne (by decide), h150']; exact hlo.2
            refine st_iload dX11_findsMeeting_71 rfl ?_
            refine st_aload_n dX11_findsMeeting_73 rfl ?_
            refine st_getfr dX11_findsMeeting_74 f_X11_107 (by first | with_reducible assumption | rfl) (by rfl) ?_
            refine st_aload_n dX11_findsMeeting_77 rfl ?_
            refine st_getfr dX11_findsMeeting_78 f_X11_128 (by first | with_reducible assumption | rfl) (by rfl) ?_
            refine st_iload dX11_findsMeeting_81 rfl ?_
            first | refine st_ialdK (k' := _) dX11_findsMeeting_83 (by first | with_reducible assumption | rfl) rfl (by omega) (hn := by first | decide | omega) ?_ | refine st_iald dX11_findsMeeting_83 (by first | with_reducible assumption | rfl) (by omega) (by omega) (hn := by first | decide | omega) ?_
            rw [e150]
            refine st_ialdK (k' := lof l0 l1 l2 i) dX11_findsMeeting_84 sh_143 rfl (by omega) (hn := by decide) ?_
            rw [show q_up M3 143 (lof l0 l1 l2 i) ((left : Int) % 31) 143 (lof l0 l1 l2 i) = (left : Int) % 31 by simp [q_up]]
            refine st_iadd dX11_findsMeeting_85 ?_
            refine st_istore (L' := [_, _, _, _, _, _, _, _]) dX11_findsMeeting_86 (by decide) rfl rfl ?_
            refine st_iload dX11_findsMeeting_88 rfl ?_
            refine st_bipush dX11_findsMeeting_90 (by decide) ?_
            refine st_idivK dX11_findsMeeting_92 (by omega) (by omega) ?_
            refine st_istore (L' := [_, _, _, _, _, _, _, _]) dX11_findsMeeting_93 (by decide) rfl rfl ?_
            refine st_iinc (L' := [_, _, _, _, _, _, _, _]) dX11_findsMeeting_95 rfl (by decide) rfl rfl ?_
            refine st_goto (tgt := 49) dX11_findsMeeting_98 rfl ?_
            exact AW.to (kk ((i : Int) + -1) (by omega)) (h2 := by simp) (h4 := by simp)
        -- behind the digits
        have af : ∀ (left : Nat) (M3 : q_Mem), mtE M M3 → M3 112 = M2 112 → M3 150 = M 150 → M3 151 = M2 151 → (∀ o, o < (B 3 4).toNat → M3 143 o = vK B n l0 l1 l2 k o) → AW0 G d m_X11_findsMeeting 49 [some (.ref 112), some (I st), some (I (31 ^ n : Nat)), some (I k), some (I left), some (I (sm3 n k : Nat)), some (I (-1)), l7] [] M3 N (CN (fun M' N' => N' = N ∧ mtE M M' ∧ M' 112 55 = (n : Nat) ∧ (kT < 31 ^ n → mtFD B M' n l0 l1 l2 kT) ∧ (¬ kT < 31 ^ n → mtNF B M' n l0 l1 l2 st sT))) := by
          intro left M3 g1 g2 g3 g4 g5
          have hsm : sm3 n k ≤ 90 := by unfold sm3; omega
          have f55 : M3 112 55 = (n : Nat) := by rw [g2]; exact h55
          have oth3 : ∀ o, o < (B 3 4).toNat → ¬ o = l0 → (1 < n → ¬ o = l1) → (2 < n → ¬ o = l2) → M3 143 o = nowV B 0 o := by
            intro o ho o0 o1 o2
            rw [g5 o ho]
            show vs3 _ _ _ _ _ _ _ _ o = _
            unfold vs3
            rw [if_neg (fun z => o2 z.1 z.2), if_neg (fun z => o1 z.1 z.2), if_neg o0]
          have hm := mpl_rng (B := B) (n := n) (l0 := l0) (l1 := l1) (l2 := l2) (v := vK B n l0 l1 l2 k) h3
          have h56 : -1 ≤ M2 112 56 ∧ M2 112 56 ≤ 1000 := by
            by_cases z : kT < k
            · have := (hFD z).1
              have hd2 := d_rng c0 (show kT < 31 ^ n by omega)
              unfold sm3 at this
              omega
            · rcases hNF z with y | y <;> omega
          -- it is no better one
          have no : ∀ (x6 : Int) (l5' : Option Value), (okK B n l0 l1 l2 st k → ¬ (M2 112 56 = -1 ∨ (sm3 n k : Int) < M2 112 56)) → AW0 G d m_X11_findsMeeting 194 [some (.ref 112), some (I st), some (I (31 ^ n : Nat)), some (I k), some (I left), some (I (sm3 n k : Nat)), some (I x6), l7] [] M3 N (CN (fun M' N' => N' = N ∧ mtE M M' ∧ M' 112 55 = (n : Nat) ∧ (kT < 31 ^ n → mtFD B M' n l0 l1 l2 kT) ∧ (¬ kT < 31 ^ n → mtNF B M' n l0 l1 l2 st sT))) := by
            intro x6 l5' hno
            refine st_iinc (L' := [_, _, _, _, _, _, _, _]) dX11_findsMeeting_194 rfl (by decide) rfl rfl ?_
            refine st_goto (tgt := 30) dX11_findsMeeting_197 rfl ?_
            refine AW.to (ih (k + 1) M3 (some (I left)) (some (I (sm3 n k : Nat))) (some (I x6)) l7 (by omega) g1 f55 g3 oth3 (fun z => ?_) (fun z => ?_)) (h2 := by simp)
            · by_cases y : kT < k
              · have := hFD y
                exact ⟨by rw [g2]; exact this.1, by rw [g2]; exact this.2.1, fun i hi => by rw [g4]; exact this.2.2 i hi⟩
              · exfalso
                have hkk : kT = k := by omega
                subst hkk
                have h5 := k1 hkn
                refine hno h5.1 ?_
                rcases hNF y with x | x
                · exact Or.inl x
                · exact Or.inr (by rw [h5.2]; exact x.1)
            · have := hNF (by omega)
              unfold mtNF at this ⊢
              rw [g2]
              exact this
          -- the storey by which they meet
          have mid : ∀ (x6 : Int), (x6 = -1 ∧ (okK B n l0 l1 l2 st k → ¬ (M2 112 56 = -1 ∨ (sm3 n k : Int) < M2 112 56))) ∨ (x6 = mpl B n l0 l1 l2 (vK B n l0 l1 l2 k) ∧ (M2 112 56 = -1 ∨ (sm3 n k : Int) < M2 112 56)) → AW0 G d m_X11_findsMeeting 126 [some (.ref 112), some (I st), some (I (31 ^ n : Nat)), some (I k), some (I left), some (I (sm3 n k : Nat)), some (I (-1)), l7] [I x6] M3 N (CN (fun M' N' => N' = N ∧ mtE M M' ∧ M' 112 55 = (n : Nat) ∧ (kT < 31 ^ n → mtFD B M' n l0 l1 l2 kT) ∧ (¬ kT < 31 ^ n → mtNF B M' n l0 l1 l2 st sT))) := by
            intro x6 hx6
            have rx : -1 ≤ x6 ∧ x6 ≤ 8 := by rcases hx6 with ⟨z, -⟩ | ⟨z, -⟩ <;> omega
            have okx : okK B n l0 l1 l2 st k ↔ (¬ mpl B n l0 l1 l2 (vK B n l0 l1 l2 k) = -1 ∧ (st = -1 ∨ mpl B n l0 l1 l2 (vK B n l0 l1 l2 k) = st)) := Iff.rfl
            refine st_istore (L' := [_, _, _, _, _, _, _, _]) dX11_findsMeeting_126 (by decide) rfl rfl ?_
            refine st_iload dX11_findsMeeting_128 rfl ?_
            refine st_iconst dX11_findsMeeting_130 ?_
            refine st_icmp_eq (tgt := 194) dX11_findsMeeting_131 (by omega) (by omega) rfl (fun h9 => ?_) (fun h9 => ?_)
            · skip
              refine no x6 none (fun z y => ?_)
              rcases hx6 with ⟨x1, x2⟩ | ⟨x1, x2⟩
              · exact x2 z y
              · exact (okx.1 z).1 (by rw [← x1]; exact h9)
            · refine st_iload_n dX11_findsMeeting_134 rfl ?_
              refine st_iconst dX11_findsMeeting_135 ?_
              have hx : x6 = mpl B n l0 l1 l2 (vK B n l0 l1 l2 k) ∧ (M2 112 56 = -1 ∨ (sm3 n k : Int) < M2 112 56) := by
                rcases hx6 with ⟨x1, -⟩ | x
                · exact absurd x1 h9
                · exact x
              have yes : (st = -1 ∨ x6 = st) → AW0 G d m_X11_findsMeeting 145 [some (.ref 112), some (I st), some (I (31 ^ n : Nat)), some (I k), some (I left), some (I (sm3 n k : Nat)), some (I x6), l7] [] M3 N (CN (fun M' N' => N' = N ∧ mtE M M' ∧ M' 112 55 = (n : Nat) ∧ (kT < 31 ^ n → mtFD B M' n l0 l1 l2 kT) ∧ (¬ kT < 31 ^ n → mtNF B M' n l0 l1 l2 st sT))) := by
                intro hso
                have hok : okK B n l0 l1 l2 st k := okx.2 ⟨by rw [← hx.1]; exact h9, by rw [← hx.1]; exact hso⟩
                have hkk : k ≤ kT := by
                  by_cases y : kT < k
                  · exfalso
                    have hf := (hFD y).1
                    have := k3 k hkn hok (by omega)
                    have h5 := (k1 (by omega)).2
                    rcases hx.2 with x | x <;> omega
                  · omega
                refine st_aload_n dX11_findsMeeting_145 rfl ?_
                refine st_iload dX11_findsMeeting_146 rfl ?_
                refine st_putfi dX11_findsMeeting_148 w_X11_514 (by first | with_reducible assumption | rfl) (by rfl) rfl rfl ?_
                refine st_aload_n dX11_findsMeeting_151 rfl ?_
                refine st_iload dX11_findsMeeting_152 rfl ?_
                refine st_putfi dX11_findsMeeting_154 w_X11_520 (by first | with_reducible assumption | rfl) (by rfl) rfl rfl ?_
                refine st_iconst dX11_findsMeeting_157 ?_
                refine st_istore (L' := [_, _, _, _, _, _, _, _]) dX11_findsMeeting_158 (by decide) rfl rfl ?_
                have q1 : mtE M (q_up (q_up M3 112 56 (sm3 n k : Nat)) 112 57 x6) := g1.tr ⟨(Exc.up (by decide)).tr (Exc.up (by decide)), fun j _ j56 j57 => by simp [q_up, j56, j57]⟩
                have q2 : q_up (q_up M3 112 56 (sm3 n k : Nat)) 112 57 x6 112 55 = (n : Nat) := by rw [← f55]; simp [q_up]
                have q3 : q_up (q_up M3 112 56 (sm3 n k : Nat)) 112 57 x6 150 = M 150 := by rw [q_up_ne (by decide), q_up_ne (by decide)]; exact g3
                have q4 : ∀ o, q_up (q_up M3 112 56 (sm3 n k : Nat)) 112 57 x6 143 o = M3 143 o := fun o => by rw [q_up_ne (by decide), q_up_ne (by decide)]
                have q5 : q_up (q_up M3 112 56 (sm3 n k : Nat)) 112 57 x6 112 56 = (sm3 n k : Nat) := by simp [q_up]
                have q6 : q_up (q_up M3 112 56 (sm3 n k : Nat)) 112 57 x6 112 57 = x6 := by simp [q_up]
                generalize q_up (q_up M3 112 56 (sm3 n k : Nat)) 112 57 x6 = M4 at *
                have cp : ∀ (p i : Nat) (M5 : q_Mem), i + p = n → Exc [151] M4 M5 → (∀ j, j < i → M5 151 j = vK B n l0 l1 l2 k (lof l0 l1 l2 j)) → AW0 G d m_X11_findsMeeting 160 [some (.ref 112), some (I st), some (I (31 ^ n : Nat)), some (I k), some (I left), some (I (sm3 n k : Nat)), some (I x6), some (I i)] [] M5 N (CN (fun M' N' => N' = N ∧ mtE M M' ∧ M' 112 55 = (n : Nat) ∧ (kT < 31 ^ n → mtFD B M' n l0 l1 l2 kT) ∧ (¬ kT < 31 ^ n → mtNF B M' n l0 l1 l2 st sT))) := by
                  intro p
                  induction p with
                  | zero =>
                    intro i M5 hi2 hE5 hc5
                    have e112 := hE5 112 (by decide)
                    refine st_iload dX11_findsMeeting_160 rfl ?_
                    refine st_aload_n dX11_findsMeeting_162 rfl ?_
                    refine st_getfi dX11_findsMeeting_163 f_X11_511 (by first | with_reducible assumption | rfl) (by rfl) ?_
                    rw [e112, q2]
                    refine st_icmp_ge (tgt := 194) dX11_findsMeeting_166 (by omega) (by omega) rfl (fun h9 => ?_) (fun h9 => ?_)
                    · refine st_iinc (L' := [_, _, _, _, _, _, _, _]) dX11_findsMeeting_194 rfl (by decide) rfl rfl ?_
                      refine st_goto (tgt := 30) dX11_findsMeeting_197 rfl ?_
                      refine AW.to (ih (k + 1) M5 (some (I left)) (some (I (sm3 n k : Nat))) (some (I x6)) (some (I i)) (by omega) (q1.tr ⟨hE5.sub (by decide), fun j _ _ _ => by rw [e112]⟩) (by rw [e112]; exact q2) (by rw [hE5 150 (by decide)]; exact q3) (fun o ho o0 o1 o2 => by rw [hE5 143 (by decide), q4]; exact oth3 o ho o0 o1 o2) (fun z => ?_) (fun z => ?_)) (h2 := by simp)
                      · have hkk2 : kT = k := by omega
                        subst hkk2
                        exact ⟨by rw [e112]; exact q5, by rw [e112, q6]; exact hx.1, fun j hj => hc5 j (by omega)⟩
                      · refine Or.inr ⟨?_, ?_, k, hkn, hok⟩
                        · rw [e112, q5]
                          have := k2 k hkn hok (by omega)
                          omega
                        · rw [e112, q5]
                          omega
                    · skip
                      omega
                  | succ p ihp =>
                    intro i M5 hi2 hE5 hc5
                    have e112 := hE5 112 (by decide)
                    have hlo := hlof i (by omega)
                    refine st_iload dX11_findsMeeting_160 rfl ?_
                    refine st_aload_n dX11_findsMeeting_162 rfl ?_
                    refine st_getfi dX11_findsMeeting_163 f_X11_511 (by first | with_reducible assumption | rfl) (by rfl) ?_
                    rw [e112, q2]
                    refine st_icmp_ge (tgt := 194) dX11_findsMeeting_166 (by omega) (by omega) rfl (fun h9 => ?_) (fun h9 => ?_)
                    · skip
                      omega
                    · refine st_aload_n dX11_findsMeeting_169 rfl ?_
                      refine st_getfr dX11_findsMeeting_170 f_X11_131 (by first | with_reducible assumption | rfl) (by rfl) ?_
                      refine st_iload dX11_findsMeeting_173 rfl ?_
                      refine st_aload_n dX11_findsMeeting_175 rfl ?_
                      refine st_getfr dX11_findsMeeting_176 f_X11_107 (by first | with_reducible assumption | rfl) (by rfl) ?_
                      refine st_aload_n dX11_findsMeeting_179 rfl ?_
                      refine st_getfr dX11_findsMeeting_180 f_X11_128 (by first | with_reducible assumption | rfl) (by rfl) ?_
                      refine st_iload dX11_findsMeeting_183 rfl ?_
                      first | refine st_ialdK (k' := _) dX11_findsMeeting_185 (by first | with_reducible assumption | rfl) rfl (by omega) (hn := by first | decide | omega) ?_ | refine st_iald dX11_findsMeeting_185 (by first | with_reducible assumption | rfl) (by omega) (by omega) (hn := by first | decide | omega) ?_
                      rw [hE5 150 (by decide), q3, hlo.2]
                      refine st_ialdK (k' := lof l0 l1 l2 i) dX11_findsMeeting_186 sh_143 rfl (by omega) (hn := by decide) ?_
                      rw [hE5 143 (by decide), q4, g5 _ hlo.1]
                      first | refine st_iastK (k' := _) dX11_findsMeeting_187 (by first | with_reducible assumption | rfl) rfl (by omega) (hn := by first | decide | omega) ?_ | refine st_iast dX11_findsMeeting_187 (by first | with_reducible assumption | rfl) (by omega) (by omega) (hn := by first | decide | omega) ?_
                      refine st_iinc (L' := [_, _, _, _, _, _, _, _]) dX11_findsMeeting_188 rfl (by decide) rfl rfl ?_
                      refine st_goto (tgt := 160) dX11_findsMeeting_191 rfl ?_
                      refine AW.to (ihp (i + 1) (q_up M5 151 i (vK B n l0 l1 l2 k (lof l0 l1 l2 i))) (by omega) (hE5.tr (Exc.up (by decide))) (fun j hj => ?_)) (h2 := by simp)
                      by_cases e : j = i
                      · rw [e]; simp [q_up]
                      · rw [← hc5 j (by omega)]; simp [q_up, e]
                exact AW.to (cp n 0 M4 (Nat.zero_add _) Exc.rf (fun j hj => absurd hj (by omega)))
              refine st_icmp_eq (tgt := 145) dX11_findsMeeting_136 (by omega) (by omega) rfl (fun h10 => ?_) (fun h10 => ?_)
              · skip
                exact yes (Or.inl h10)
              · refine st_iload dX11_findsMeeting_139 rfl ?_
                refine st_iload_n dX11_findsMeeting_141 rfl ?_
                refine st_icmp_ne (tgt := 194) dX11_findsMeeting_142 (by omega) (by omega) rfl (fun h11 => ?_) (fun h11 => ?_)
                · skip
                  refine no x6 none (fun z y => ?_)
                  have := (okx.1 z).2
                  rw [← hx.1] at this
                  rcases this with w | w
                  · exact h10 w
                  · exact h11 w
                · skip
                  exact yes (Or.inr h11)
          have mst : (M2 112 56 = -1 ∨ (sm3 n k : Int) < M2 112 56) → AW0 G d m_X11_findsMeeting 118 [some (.ref 112), some (I st), some (I (31 ^ n : Nat)), some (I k), some (I left), some (I (sm3 n k : Nat)), some (I (-1)), l7] [] M3 N (CN (fun M' N' => N' = N ∧ mtE M M' ∧ M' 112 55 = (n : Nat) ∧ (kT < 31 ^ n → mtFD B M' n l0 l1 l2 kT) ∧ (¬ kT < 31 ^ n → mtNF B M' n l0 l1 l2 st sT))) := by
            intro hbt
            refine st_aload_n dX11_findsMeeting_118 rfl ?_
            refine c_V0p (d' := d - 1) dX11_findsMeeting_119 l_X11_517 k_X11_meetingStorey i_X11_meetingStorey (Or.inl ⟨_, _, _, _, _, (by first | with_reducible assumption | rfl), by rfl⟩) (by omega) (Nat.le_of_ble_eq_true rfl) (C_rMeetSt (by omega) (hRN M3 g1) (hmt M3 g1 f55 g3) g5 (fun o _ => vK_rng hB c0 hkn o)) ?_
            refine st_goto (tgt := 126) dX11_findsMeeting_122 rfl ?_
            exact mid _ (Or.inr ⟨rfl, hbt⟩)
          refine st_iload dX11_findsMeeting_49 rfl ?_
          refine st_if_lt (tgt := 101) dX11_findsMeeting_51 (by omega) rfl (fun h9 => ?_) (fun h9 => ?_)
          · refine st_aload_n dX11_findsMeeting_101 rfl ?_
            refine st_getfi dX11_findsMeeting_102 f_X11_514 (by first | with_reducible assumption | rfl) (by rfl) ?_
            refine st_iconst dX11_findsMeeting_105 ?_
            rw [g2]
            refine st_icmp_eq (tgt := 118) dX11_findsMeeting_106 (by omega) (by omega) rfl (fun h10 => ?_) (fun h10 => ?_)
            · skip
              exact mst (Or.inl h10)
            · refine st_iload dX11_findsMeeting_109 rfl ?_
              refine st_aload_n dX11_findsMeeting_111 rfl ?_
              refine st_getfi dX11_findsMeeting_112 f_X11_514 (by first | with_reducible assumption | rfl) (by rfl) ?_
              rw [g2]
              refine st_icmp_ge (tgt := 125) dX11_findsMeeting_115 (by omega) (by omega) rfl (fun h11 => ?_) (fun h11 => ?_)
              · refine st_iconst dX11_findsMeeting_125 ?_
                exact mid (-1) (Or.inl ⟨rfl, fun _ z => by rcases z with z | z <;> omega⟩)
              · skip
                exact mst (Or.inr (by omega))
          · skip
            omega
        have hcs : n = 1 ∨ n = 2 ∨ n = 3 := by omega
        rcases hcs with hn1 | hn1 | hn1
        · refine AW.to (dg 0 k 0 M2 (by omega) (by omega) h150 (fun i' hi' => ?_)) (h2 := by rw [hn1]; rfl)
          rw [show i' = -1 by omega]
          refine AW.to (af (k / 31) (q_up M2 143 (lof l0 l1 l2 0) (k % 31 : Nat)) (hE.tr ⟨Exc.up (by decide), fun j _ _ _ => by rw [q_up_ne (by decide)]⟩) (q_up_ne (by decide)) (by rw [q_up_ne (by decide)]; exact h150) (q_up_ne (by decide)) (fun o ho => ?_)) (h2 := by rw [show sm3 n k = 0 + k % 31 by unfold sm3 dA dB dC; simp [hn1]; rw [hn1] at hkn; omega])
          have ea : dA n k = k % 31 := by unfold dA; rw [if_pos hn1]; rw [hn1] at hkn; omega
          show _ = vs3 _ _ _ _ _ _ _ _ o
          unfold vs3
          rw [if_neg (by omega), if_neg (by omega), ea]
          show (if 143 = 143 ∧ o = lof l0 l1 l2 0 then ((k % 31 : Nat) : Int) else M2 143 o) = _
          by_cases e : o = l0
          · rw [if_pos ⟨rfl, e⟩, if_pos e]
          · rw [if_neg (fun z => e z.2), if_neg e]
            exact hoth o ho e (fun z => by omega) (fun z => by omega)
        · refine AW.to (dg 1 k 0 M2 (by omega) (by omega) h150 (fun i' hi' => ?_)) (h2 := by rw [hn1]; rfl)
          refine AW.to (dg 0 (k / 31) (0 + k % 31) (q_up M2 143 (lof l0 l1 l2 1) (k % 31 : Nat)) (by omega) (by omega) (by rw [q_up_ne (by decide)]; exact h150) (fun i'' hi'' => ?_)) (h2 := by rw [show i' = ((0 : Nat) : Int) by omega])
          rw [show i'' = -1 by omega]
          refine AW.to (af (k / 31 / 31) (q_up (q_up M2 143 (lof l0 l1 l2 1) (k % 31 : Nat)) 143 (lof l0 l1 l2 0) (k / 31 % 31 : Nat)) (hE.tr ⟨(Exc.up (by decide)).tr (Exc.up (by decide)), fun j _ _ _ => by rw [q_up_ne (by decide), q_up_ne (by decide)]⟩) (by rw [q_up_ne (by decide), q_up_ne (by decide)]) (by rw [q_up_ne (by decide), q_up_ne (by decide)]; exact h150) (by rw [q_up_ne (by decide), q_up_ne (by decide)]) (fun o ho => ?_)) (h2 := by rw [show sm3 n k = 0 + k % 31 + k / 31 % 31 by unfold sm3 dA dB dC; simp [hn1]; rw [hn1] at hkn; omega])
          have ea : dA n k = k / 31 % 31 ∧ dB n k = k % 31 := by unfold dA dB; simp [hn1]; rw [hn1] at hkn; omega
          have d01 := h01 (by omega)
          show _ = vs3 _ _ _ _ _ _ _ _ o
          unfold vs3
          rw [if_neg (by omega), ea.1, ea.2]
          rw [show lof l0 l1 l2 1 = l1 from rfl, show lof l0 l1 l2 0 = l0 from rfl]
          by_cases e : o = l0
          · rw [if_neg (by omega), if_pos e, e]
            simp [q_up]
          · by_cases e1 : o = l1
            · rw [if_pos ⟨by omega, e1⟩, e1]
              simp [q_up, show ¬ l1 = l0 by omega]
            · rw [if_neg (fun z => e1 z.2), if_neg e, ← hoth o ho e (fun _ => e1) (fun z => by omega)]
              simp [q_up, e, e1]
        · refine AW.to (dg 2 k 0 M2 (by omega) (by omega) h150 (fun i' hi' => ?_)) (h2 := by rw [hn1]; rfl)
          refine AW.to (dg 1 (k / 31) (0 + k % 31) (q_up M2 143 (lof l0 l1 l2 2) (k % 31 : Nat)) (by omega) (by omega) (by rw [q_up_ne (by decide)]; exact h150) (fun i'' hi'' => ?_)) (h2 := by rw [show i' = ((1 : Nat) : Int) by omega])
          refine AW.to (dg 0 (k / 31 / 31) (0 + k % 31 + k / 31 % 31) (q_up (q_up M2 143 (lof l0 l1 l2 2) (k % 31 : Nat)) 143 (lof l0 l1 l2 1) (k / 31 % 31 : Nat)) (by omega) (by omega) (by rw [q_up_ne (by decide), q_up_ne (by decide)]; exact h150) (fun i3 hi3 => ?_)) (h2 := by rw [show i'' = ((0 : Nat) : Int) by omega])
          rw [show i3 = -1 by omega]
          refine AW.to (af (k / 31 / 31 / 31) (q_up (q_up (q_up M2 143 (lof l0 l1 l2 2) (k % 31 : Nat)) 143 (lof l0 l1 l2 1) (k / 31 % 31 : Nat)) 143 (lof l0 l1 l2 0) (k / 31 / 31 % 31 : Nat)) (hE.tr ⟨((Exc.up (by decide)).tr (Exc.up (by decide))).tr (Exc.up (by decide)), fun j _ _ _ => by rw [q_up_ne (by decide), q_up_ne (by decide), q_up_ne (by decide)]⟩) (by rw [q_up_ne (by decide), q_up_ne (by decide), q_up_ne (by decide)]) (by rw [q_up_ne (by decide), q_up_ne (by decide), q_up_ne (by decide)]; exact h150) (by rw [q_up_ne (by decide), q_up_ne (by decide), q_up_ne (by decide)]) (fun o ho => ?_)) (h2 := by rw [show sm3 n k = 0 + k % 31 + k / 31 % 31 + k / 31 / 31 % 31 by unfold sm3 dA dB dC; simp [hn1]; rw [hn1] at hkn; omega])
          have ea : dA n k = k / 31 / 31 % 31 ∧ dB n k = k / 31 % 31 ∧ dC n k = k % 31 := by unfold dA dB dC; simp [hn1]; rw [hn1] at hkn; omega
          have d01 := h01 (by omega)
          have d12 := h12' (by omega)
          show _ = vs3 _ _ _ _ _ _ _ _ o
          unfold vs3
          rw [ea.1, ea.2.1, ea.2.2]
          rw [show lof l0 l1 l2 1 = l1 from rfl, show lof l0 l1 l2 0 = l0 from rfl, show lof l0 l1 l2 2 = l2 from rfl]
          by_cases e : o = l0
          · rw [if_neg (by omega), if_neg (by omega), if_pos e, e]
            simp [q_up]
          · by_cases e1 : o = l1
            · rw [if_neg (by omega), if_pos ⟨by omega, e1⟩, e1]
              simp [q_up, show ¬ l1 = l0 by omega]
            · by_cases e2 : o = l2
              · rw [if_pos ⟨by omega, e2⟩, e2]
                simp [q_up, show ¬ l2 = l0 by omega, show ¬ l2 = l1 by omega]
              · rw [if_neg (fun z => e2 z.2), if_neg (fun z => e1 z.2), if_neg e, ← hoth o ho e (fun _ => e1) (fun _ => e2)]
                simp [q_up, e, e1, e2]
  exact AW.to (outl (31 ^ n) 0 (q_up M 112 56 (-1)) none none none none (Nat.zero_add _) hI0 (by rw [← c1]; simp [q_up]) (q_up_ne (by decide)) (fun o ho _ _ _ => by rw [q_up_ne (by decide)]; exact hv0 o ho) (fun z => absurd z (by omega)) (fun _ => Or.inl (by simp [q_up])))
theorem tgK_some {B : q_Mem} {n l0 l1 l2 a b c : Nat} {st : Int} (hn : 1 ≤ n ∧ n ≤ 3) (ha : a ≤ 30) (hb : b ≤ s30 1 n) (hc : c ≤ s30 2 n) (ho : okM B n l0 l1 l2 st a b c) (hl : lowM B n l0 l1 l2 st (a + b + c) a b) : tgK B n l0 l1 l2 st (cd3 n a b c) (a + b + c) := by
  obtain ⟨d0, d1, d2, d3⟩ := d_cd hn ha hb hc
  refine ⟨by omega, fun _ => ⟨by unfold okK; rw [d1, d2, d3]; exact ho, by unfold sm3; rw [d1, d2, d3]⟩, fun k hk hok hlt => ?_, fun k hk hok hle => ?_⟩
  · obtain ⟨r1, r2, r3⟩ := d_rng hn hk
    have hx := d_lex hn hlt
    rw [d1, d2, d3] at hx
    unfold sm3
    by_cases z : a + b + c < dA n k + dB n k + dC n k
    · exact z
    · exact absurd hok (hl _ _ _ r1 r2 r3 (by omega))
  · obtain ⟨r1, r2, r3⟩ := d_rng hn hk
    unfold sm3
    by_cases z : dA n k + dB n k + dC n k < a + b + c
    · exact absurd hok (hl _ _ _ r1 r2 r3 (Or.inl z))
    · omega
def MeetQ (B : q_Mem) (s st what r : Int) : Prop := (¬ meetOk B s st what ∧ r = -3) ∨ (meetOk B s st what ∧ MeetR B (gL s (B 3 4).toNat).length ((gL s (B 3 4).toNat).getD 0 0) ((gL s (B 3 4).toNat).getD 1 0) ((gL s (B 3 4).toNat).getD 2 0) st what r)
theorem C_rmeet {G : q_G} {d : Nat} {B M : q_Mem} {N : q_MemL} {s st what r : Int} (hd : 4 ≤ d) (hN : RN B M) (hs : i32 s) (hst : i32 st) (hw : i32 what) (hr : MeetQ B s st what r) : AC0 G d m_X11_meet [.ref 112, I s, I st, I what] M N (CV (fun v M' N' => v = I r ∧ N' = N ∧ Qk M M')) := by
  obtain ⟨hB, hT, hP, hW, hb6⟩ := id hN
  obtain ⟨h0, h1, h2, h3, h4, h5, h6, h11, -⟩ := id hB
  have hss := hs
  have hstt := hst
  have hww := hw
  unfold i32 at hss hstt hww
  have hpr : 1 ≤ pw (B 3 4).toNat ∧ pw (B 3 4).toNat ≤ 128 := by
    have h : 2 ^ (B 3 4).toNat ≤ 2 ^ 7 := Nat.pow_le_pow_right (by omega) (by omega)
    have h' : 0 < 2 ^ (B 3 4).toNat := Nat.pow_pos (by decide)
    have h7 : (2 : Nat) ^ 7 = 128 := rfl
    unfold pw
    omega
  have no : ¬ meetOk B s st what → AW0 G d m_X11_meet 67 [some (.ref 112), some (I s), some (I st), some (I what)] [] M N (CV (fun v M' N' => v = I r ∧ N' = N ∧ Qk M M')) := by
    intro h
    have hr3 : r = -3 := by
      rcases hr with ⟨-, z⟩ | ⟨z, -⟩
      · exact z
      · exact absurd z h
    refine st_bipush dX11_meet_67 (by decide) ?_
    rw [hr3]
    exact r_i dX11_meet_69 rfl ⟨rfl, rfl, Qk.rf⟩
  refine AC.of (L0 := [_, _, _, _]) pn_X11 (Nat.le_of_ble_eq_true rfl) rfl ?_
  refine st_aload_n dX11_meet_0 rfl ?_
  refine c_V0p (d' := d - 1) dX11_meet_1 l_X11_186 k_X11_isHouse i_X11_isHouse (Or.inl ⟨_, _, _, _, _, (by first | with_reducible assumption | rfl), by rfl⟩) (by omega) (Nat.le_of_ble_eq_true rfl) (C_isHouse hB hT) ?_
  refine b_eq (tgt := 67) dX11_meet_4 rfl (fun h7 => ?_) (fun h7 => ?_)
  · skip
    refine no (fun z => h7 (told_of hB (Or.inl ?_)))
    have := z.1.1
    have h8 := z.1.2
    by_cases c : 0 < B 3 4
    · exact c
    · exfalso
      rw [show (B 3 4).toNat = 0 by omega] at h8
      have : pw 0 = 1 := rfl
      omega
  · refine st_iload_n dX11_meet_7 rfl ?_
    refine st_i2lK dX11_meet_8 (by omega) ?_
    refine st_lc1K dX11_meet_9 ?_
    refine st_iconst dX11_meet_10 ?_
    refine st_aload_n dX11_meet_11 rfl ?_
    refine st_getfr dX11_meet_12 f_X11_9 (by first | with_reducible assumption | rfl) (by rfl) ?_
    refine st_iconst dX11_meet_15 ?_
    refine st_ialdK (k' := 3) dX11_meet_16 (by first | with_reducible assumption | rfl) rfl (by omega) (hn := by first | decide | omega) ?_
    rw [hT.1.2.2.2.1, show B 3 4 = (((B 3 4).toNat : Nat) : Int) by omega]
    refine st_ishl dX11_meet_17 ?_
    refine AW.top (z_pw (by omega)) ?_
    refine st_iconst dX11_meet_18 ?_
    refine st_isub dX11_meet_19 ?_
    refine st_i2lK dX11_meet_20 (by omega) ?_
    refine c_S3p (d' := d - 1) dX11_meet_21 l_X11_182 k_X11_in s_X11_in (by omega) (Nat.le_of_ble_eq_true rfl) (C_in (by omega) (by omega) (by omega)) ?_
    refine b_eq (tgt := 67) dX11_meet_24 rfl (fun h8 => ?_) (fun h8 => ?_)
    · skip
      exact no (fun z => h8 (by have := z.1; omega))
    · refine st_iload_n dX11_meet_27 rfl ?_
      have hsn : s.toNat < 2 ^ (B 3 4).toNat := by
        have h : s < ((2 ^ (B 3 4).toNat : Nat) : Int) := by show s < pw _; omega
        omega
      have hse : s = ((s.toNat : Nat) : Int) := by omega
      have hg := bits_gL s.toNat (by omega) (B 3 4).toNat (by omega) hsn
      have hgp := gL_pos s.toNat (by omega) (B 3 4).toNat (by omega) hsn (by omega)
      have hga := gL_asc s.toNat (by omega) (B 3 4).toNat (by omega)
      have hgl := gL_lt s (B 3 4).toNat
      rw [← hse] at hg hgp hga
      refine c_S1p (d' := d - 1) dX11_meet_28 l_X11_461 k_X11_bits s_X11_bits (by omega) (Nat.le_of_ble_eq_true rfl) (C_bits (by omega)) ?_
      rw [hg]
      refine st_i2lK dX11_meet_31 (by omega) ?_
      refine st_lc1K dX11_meet_32 ?_
      refine st_ldc2 dX11_meet_33 l_X11_523 ?_
      refine AW.topv (show _ = J 3 from rfl) ?_
      refine c_S3p (d' := d - 1) dX11_meet_36 l_X11_182 k_X11_in s_X11_in (by omega) (Nat.le_of_ble_eq_true rfl) (C_in (by omega) (by omega) (by omega)) ?_
      refine b_eq (tgt := 67) dX11_meet_39 rfl (fun h9 => ?_) (fun h9 => ?_)
      · skip
        exact no (fun z => h9 (by have := z.2.1; omega))
      · refine st_iload_n dX11_meet_42 rfl ?_
        refine st_iconst dX11_meet_43 ?_
        have okS : (st = -1 ∨ (0 ≤ st ∧ st < B 3 3)) → AW0 G d m_X11_meet 55 [some (.ref 112), some (I s), some (I st), some (I what)] [] M N (CV (fun v M' N' => v = I r ∧ N' = N ∧ Qk M M')) := by
          intro hso
          refine st_iload_n dX11_meet_55 rfl ?_
          refine st_i2lK dX11_meet_56 (by omega) ?_
          refine st_lc0K dX11_meet_57 ?_
          refine st_ldc2 dX11_meet_58 l_X11_525 ?_
          refine AW.topv (show _ = J 4 from rfl) ?_
          refine c_S3p (d' := d - 1) dX11_meet_61 l_X11_182 k_X11_in s_X11_in (by omega) (Nat.le_of_ble_eq_true rfl) (C_in (by omega) (by omega) (by omega)) ?_
          refine b_ne (tgt := 70) dX11_meet_64 rfl (fun h10 => ?_) (fun h10 => ?_)
          · refine st_aload_n dX11_meet_70 rfl ?_
            refine st_iload_n dX11_meet_71 rfl ?_
            have hok : meetOk B s st what := ⟨⟨by omega, by omega⟩, by omega, hso, h10⟩
            have hR := (hr.resolve_left (fun z => z.1 hok)).2
            refine c_V1v (d' := d - 1) dX11_meet_72 l_X11_527 k_X11_laysChosen i_X11_laysChosen (Or.inl ⟨_, _, _, _, _, (by first | with_reducible assumption | rfl), by rfl⟩) (by omega) (Nat.le_of_ble_eq_true rfl) (C_laysChosen hB hT (by omega) (by omega)) (fun M1 N1 hx1 => ?_)
            obtain ⟨rfl, hE1, hj1, e55, e150⟩ := hx1
            have hN1 := hN.exc hE1 (by decide)
            refine st_aload_n dX11_meet_75 rfl ?_
            refine c_V0v (d' := d - 1) dX11_meet_76 l_X11_412 k_X11_laysNow i_X11_laysNow (Or.inl ⟨_, _, _, _, _, (by first | with_reducible assumption | rfl), by rfl⟩) (by omega) (Nat.le_of_ble_eq_true rfl) (C_laysNow (by omega) hB hN1.2.1 hN1.2.2.2.2 (by omega) h7) (fun M2 N2 hx2 => ?_)
            obtain ⟨rfl, hE2, hv2, -⟩ := hx2
            have hN2 := hN1.exc hE2 (by decide)
            have hE12 : mtE M M2 := ⟨(hE1.sub (by decide)).tr (hE2.sub (by decide)), fun j j55 _ _ => by rw [hE2 112 (by decide)]; exact hj1 j j55⟩
            have hC : mtC B M2 (gL s (B 3 4).toNat).length ((gL s (B 3 4).toNat).getD 0 0) ((gL s (B 3 4).toNat).getD 1 0) ((gL s (B 3 4).toNat).getD 2 0) := by
              refine ⟨⟨hgp, by omega⟩, by rw [hE2 112 (by decide)]; exact e55, ⟨by rw [hE2 150 (by decide)]; exact e150 0 (by omega), hgl.2 0 (by omega)⟩, fun z => ⟨by rw [hE2 150 (by decide)]; exact e150 1 (by omega), hgl.2 1 (by omega)⟩, fun z => ⟨by rw [hE2 150 (by decide)]; exact e150 2 (by omega), hgl.2 2 (by omega)⟩⟩
            generalize (gL s (B 3 4).toNat).length = n at *
            generalize (gL s (B 3 4).toNat).getD 0 0 = l0 at *
            generalize (gL s (B 3 4).toNat).getD 1 0 = l1 at *
            generalize (gL s (B 3 4).toNat).getD 2 0 = l2 at *
            refine st_aload_n dX11_meet_79 rfl ?_
            refine st_iload_n dX11_meet_80 rfl ?_
            rcases hR with ⟨a, b, c, ha, hb, hc, ho, hl, hre⟩ | ⟨hno, hre⟩
            · have htg := tgK_some (l0 := l0) (l1 := l1) (l2 := l2) hC.1 ha hb hc ho hl
              obtain ⟨d0, d1, d2, d3⟩ := d_cd hC.1 ha hb hc
              refine c_V1v (d' := d - 1) dX11_meet_81 l_X11_530 k_X11_findsMeeting i_X11_findsMeeting (Or.inl ⟨_, _, _, _, _, (by first | with_reducible assumption | rfl), by rfl⟩) (by omega) (Nat.le_of_ble_eq_true rfl) (C_findsMeeting (by omega) hN2 hC hga.1 hga.2 (by omega) hv2 htg) (fun M3 N3 hx3 => ?_)
              obtain ⟨rfl, hE3, f55, hFD, -⟩ := hx3
              obtain ⟨f56, f57, f151⟩ := hFD d0
              have hq := (hE12.tr hE3).qk
              have hsm : sm3 n (cd3 n a b c) = a + b + c := by unfold sm3; rw [d1, d2, d3]
              rw [hsm] at f56
              have hs30 : s30 1 n ≤ 30 ∧ s30 2 n ≤ 30 := by unfold s30; constructor <;> split <;> omega
              have hvk : vK B n l0 l1 l2 (cd3 n a b c) = vs3 n l0 l1 l2 a b c (nowV B 0) := by
                show vs3 _ _ _ _ _ _ _ _ = _
                rw [d1, d2, d3]
              rw [hvk] at f57 f151
              rw [hre]
              unfold metR
              refine st_aload_n dX11_meet_84 rfl ?_
              refine st_getfi dX11_meet_85 f_X11_514 (by first | with_reducible assumption | rfl) (by rfl) ?_
              refine st_iconst dX11_meet_88 ?_
              rw [f56]
              refine st_icmp_ne (tgt := 95) dX11_meet_89 (by omega) (by omega) rfl (fun h11 => ?_) (fun h11 => ?_)
              · refine st_iload_n dX11_meet_95 rfl ?_
                refine st_if_ne (tgt := 106) dX11_meet_96 (by omega) rfl (fun h12 => ?_) (fun h12 => ?_)
                · refine st_iload_n dX11_meet_106 rfl ?_
                  refine st_iconst dX11_meet_107 ?_
                  refine st_icmp_ne (tgt := 118) dX11_meet_108 (by omega) (by omega) rfl (fun h13 => ?_) (fun h13 => ?_)
                  · refine st_iload_n dX11_meet_118 rfl ?_
                    refine st_iconst dX11_meet_119 ?_
                    refine st_isub dX11_meet_120 ?_
                    refine st_aload_n dX11_meet_121 rfl ?_
                    refine st_getfi dX11_meet_122 f_X11_511 (by first | with_reducible assumption | rfl) (by rfl) ?_
                    rw [f55]
                    refine st_icmp_ge (tgt := 139) dX11_meet_125 (by omega) (by omega) rfl (fun h14 => ?_) (fun h14 => ?_)
                    · refine st_iconst dX11_meet_139 ?_
                      exact r_i dX11_meet_140 rfl ⟨by rw [if_neg h12, if_neg h13, if_neg (by omega)], rfl, hq⟩
                    · refine st_aload_n dX11_meet_128 rfl ?_
                      refine st_getfr dX11_meet_129 f_X11_131 (by first | with_reducible assumption | rfl) (by rfl) ?_
                      refine st_iload_n dX11_meet_132 rfl ?_
                      refine st_iconst dX11_meet_133 ?_
                      refine st_isub dX11_meet_134 ?_
                      obtain ⟨i, hi⟩ : ∃ i : Nat, what - 2 = (i : Nat) := ⟨(what - 2).toNat, by omega⟩
                      rw [hi]
                      refine st_ialdK (k' := i) dX11_meet_135 sh_151 rfl (by omega) (hn := by decide) ?_
                      rw [f151 i (by omega)]
                      refine st_goto (tgt := 140) dX11_meet_136 rfl ?_
                      exact r_i dX11_meet_140 rfl ⟨by rw [if_neg h12, if_neg h13, if_pos (by omega), Int.toNat_natCast], rfl, hq⟩
                  · refine st_aload_n dX11_meet_111 rfl ?_
                    refine st_getfi dX11_meet_112 f_X11_520 (by first | with_reducible assumption | rfl) (by rfl) ?_
                    refine st_goto (tgt := 140) dX11_meet_115 rfl ?_
                    rw [f57]
                    exact r_i dX11_meet_140 rfl ⟨by rw [if_neg h12, if_pos h13], rfl, hq⟩
                · refine st_aload_n dX11_meet_99 rfl ?_
                  refine st_getfi dX11_meet_100 f_X11_514 (by first | with_reducible assumption | rfl) (by rfl) ?_
                  refine st_goto (tgt := 140) dX11_meet_103 rfl ?_
                  rw [f56]
                  exact r_i dX11_meet_140 rfl ⟨by rw [if_pos h12], rfl, hq⟩
              · skip
                omega
            · have htg : tgK B n l0 l1 l2 st (31 ^ n) 0 := by
                have hk : ∀ k, k < 31 ^ n → ¬ okK B n l0 l1 l2 st k := fun k hk => by
                  obtain ⟨r1, r2, r3⟩ := d_rng hC.1 hk
                  exact hno _ _ _ r1 r2 r3
                exact ⟨Nat.le_refl _, fun z => absurd z (by omega), fun k hk2 ho _ => absurd ho (hk k hk2), fun k hk2 ho _ => absurd ho (hk k hk2)⟩
              refine c_V1v (d' := d - 1) dX11_meet_81 l_X11_530 k_X11_findsMeeting i_X11_findsMeeting (Or.inl ⟨_, _, _, _, _, (by first | with_reducible assumption | rfl), by rfl⟩) (by omega) (Nat.le_of_ble_eq_true rfl) (C_findsMeeting (by omega) hN2 hC hga.1 hga.2 (by omega) hv2 htg) (fun M3 N3 hx3 => ?_)
              obtain ⟨rfl, hE3, f55, -, hNF⟩ := hx3
              have hq := (hE12.tr hE3).qk
              have f56 : M3 112 56 = -1 := by
                rcases hNF (by omega) with z | ⟨-, -, k, hk, ho⟩
                · exact z
                · obtain ⟨r1, r2, r3⟩ := d_rng hC.1 hk
                  exact absurd ho (hno _ _ _ r1 r2 r3)
              refine st_aload_n dX11_meet_84 rfl ?_
              refine st_getfi dX11_meet_85 f_X11_514 (by first | with_reducible assumption | rfl) (by rfl) ?_
              refine st_iconst dX11_meet_88 ?_
              rw [f56, hre]
              refine st_icmp_ne (tgt := 95) dX11_meet_89 (by omega) (by omega) rfl (fun h11 => ?_) (fun h11 => ?_)
              · skip
                omega
              · refine st_bipush dX11_meet_92 (by decide) ?_
                exact r_i dX11_meet_94 rfl ⟨rfl, rfl, hq⟩
          · skip
            exact no (fun z => h10 z.2.2.2)
        refine st_icmp_eq (tgt := 55) dX11_meet_44 (by omega) (by omega) rfl (fun h10 => ?_) (fun h10 => ?_)
        · skip
          exact okS (Or.inl h10)
        · refine st_aload_n dX11_meet_47 rfl ?_
          refine st_iload_n dX11_meet_48 rfl ?_
          refine c_V1p (d' := d - 1) dX11_meet_49 l_X11_426 k_X11_isStorey i_X11_isStorey (Or.inl ⟨_, _, _, _, _, (by first | with_reducible assumption | rfl), by rfl⟩) (by omega) (Nat.le_of_ble_eq_true rfl) (C_isStorey (by omega) hB hT hst) ?_
          refine b_eq (tgt := 67) dX11_meet_52 rfl (fun h11 => ?_) (fun h11 => ?_)
          · skip
            exact no (fun z => by have := z.2.2.1; omega)
          · skip
            exact okS (Or.inr h11)


/-! the system's Forecast: the loop -/
theorem no_mult {h b k j : Int} (hh : 0 < h) (hk : (b - k) % h = 0) (h1 : k - h < j) (h2 : j < k) : ¬ (b - j) % h = 0 := by
  rw [show b - j = (b - k) + (k - j) by omega, Int.add_emod, hk, Int.zero_add, Int.emod_emod, Int.emod_eq_of_lt (by omega) (by omega)]
  omega
theorem C_whenSeen {G : q_G} {d : Nat} {M : q_Mem} {N : q_MemL} {w : Int} {b : Nat} {S : Nat → Int} (hd : 1 ≤ d) (h2 : 0 ≤ M 3 2 ∧ M 3 2 ≤ 6) (hb : b ≤ 2000) (hS : ∀ j, j < b → M 93 j = S j) (hSr : ∀ j, 0 ≤ S j ∧ S j < 1073741824) (hw : 0 ≤ w ∧ w < 1073741824) : AC0 G d m_X1_whenSeen [.ref 91, I w, I b] M N (CV (fun x M' N' => M' = M ∧ N' = N ∧ ∃ r : Int, x = I r ∧ ((r = -1 ∧ ∀ j : Nat, j < b → ((b : Int) - j) % (max 1 (M 3 2)) = 0 → ¬ S j = w) ∨ (0 ≤ r ∧ r < b ∧ ((b : Int) - r) % (max 1 (M 3 2)) = 0 ∧ S r.toNat = w)))) := by
  refine AC.of (L0 := [_, _, _, none, none]) pn_X1 (Nat.le_of_ble_eq_true rfl) rfl ?_
  refine st_iconst dX1_whenSeen_0 ?_
  refine st_aload_n dX1_whenSeen_1 rfl ?_
  refine st_getfr dX1_whenSeen_2 f_X1_18 (by first | assumption | rfl) (by rfl) ?_
  refine st_getfi dX1_whenSeen_5 f_X1_50 (by first | assumption | rfl) (by rfl) ?_
  refine st_mmax dX1_whenSeen_8 lm_X1_53 (by omega) (Nat.le_of_ble_eq_true rfl) (by omega) (by omega) ?_
  refine st_istore_n (L' := [_, _, _, _, _]) dX1_whenSeen_11 (by decide) rfl rfl ?_
  refine st_iload_n dX1_whenSeen_12 rfl ?_
  refine st_iload_n dX1_whenSeen_13 rfl ?_
  refine st_isub dX1_whenSeen_14 ?_
  refine st_istore (L' := [_, _, _, _, _]) dX1_whenSeen_15 (by decide) rfl rfl ?_
  have hh : 0 < max 1 (M 3 2) ∧ max 1 (M 3 2) ≤ 6 := by omega
  generalize max 1 (M 3 2) = h at hh ⊢
  have loop : ∀ (q : Nat) (k : Int), k < q → -6 ≤ k ∧ k < b → ((b : Int) - k) % h = 0 → (∀ j : Nat, k < j → j < b → ((b : Int) - j) % h = 0 → ¬ S j = w) → AW0 G d m_X1_whenSeen 17 [some (.ref 91), some (I w), some (I b), some (I h), some (I k)] [] M N (CV (fun x M' N' => M' = M ∧ N' = N ∧ ∃ r : Int, x = I r ∧ ((r = -1 ∧ ∀ j : Nat, j < b → ((b : Int) - j) % h = 0 → ¬ S j = w) ∨ (0 ≤ r ∧ r < b ∧ ((b : Int) - r) % h = 0 ∧ S r.toNat = w)))) := by
    intro q
    induction q with
    | zero =>
      intro k hk hr hm hn
      refine st_iload dX1_whenSeen_17 rfl ?_
      refine st_if_lt (tgt := 47) dX1_whenSeen_19 (by omega) rfl (fun h7 => ?_) (fun h7 => ?_)
      · refine st_iconst dX1_whenSeen_47 ?_
        exact r_i dX1_whenSeen_48 rfl ⟨rfl, rfl, -1, rfl, Or.inl ⟨rfl, fun j hj => hn j (by omega) hj⟩⟩
      · skip
        omega
    | succ q ih =>
      intro k hk hr hm hn
      refine st_iload dX1_whenSeen_17 rfl ?_
      refine st_if_lt (tgt := 47) dX1_whenSeen_19 (by omega) rfl (fun h7 => ?_) (fun h7 => ?_)
      · refine st_iconst dX1_whenSeen_47 ?_
        exact r_i dX1_whenSeen_48 rfl ⟨rfl, rfl, -1, rfl, Or.inl ⟨rfl, fun j hj => hn j (by omega) hj⟩⟩
      · refine st_aload_n dX1_whenSeen_22 rfl ?_
        refine st_getfr dX1_whenSeen_23 f_X1_15 (by first | assumption | rfl) (by rfl) ?_
        refine st_iload dX1_whenSeen_26 rfl ?_
        refine c_S2p (d' := d - 1) dX1_whenSeen_28 l_X1_58 k_X10_cell s_X10_cell (by omega) (Nat.le_of_ble_eq_true rfl) (C_cellI sh_93 (by decide) (by omega)) ?_
        rw [hS k.toNat (by omega)]
        have := hSr k.toNat
        refine st_iload_n dX1_whenSeen_31 rfl ?_
        refine st_icmp_ne (tgt := 38) dX1_whenSeen_32 (by omega) (by omega) rfl (fun h8 => ?_) (fun h8 => ?_)
        · refine st_iload dX1_whenSeen_38 rfl ?_
          refine st_iload_n dX1_whenSeen_40 rfl ?_
          refine st_isub dX1_whenSeen_41 ?_
          refine st_istore (L' := [_, _, _, _, _]) dX1_whenSeen_42 (by decide) rfl rfl ?_
          refine st_goto (tgt := 17) dX1_whenSeen_44 rfl ?_
          refine ih (k - h) (by omega) (by omega) (by rw [show (b : Int) - (k - h) = (b - k) + h by omega, Int.add_emod_right]; exact hm) (fun j h1 h2 h3 => ?_)
          by_cases q1 : k < j
          · exact hn j q1 h2 h3
          · by_cases q2 : k = j
            · intro q3
              exact h8 (by rw [← q3, q2, Int.toNat_natCast])
            · exact absurd h3 (no_mult hh.1 hm h1 (by omega))
        · refine st_iload dX1_whenSeen_35 rfl ?_
          exact r_i dX1_whenSeen_37 rfl ⟨rfl, rfl, k, rfl, Or.inr ⟨by omega, hr.2, hm, h8⟩⟩
  exact loop (b + 1) ((b : Int) - h) (by omega) (by omega) (by rw [show (b : Int) - (b - h) = h by omega, Int.emod_self]) (fun j h1 h2 h3 => absurd h3 (no_mult (k := b) hh.1 (by simp) (by omega) (by omega)))
def fmax (f : Nat → Int) (c : Int) : Nat → Int
  | 0 => c
  | n + 1 => max (fmax f c n) (f n)
theorem fmax_ge (f : Nat → Int) (c : Int) : ∀ n, c ≤ fmax f c n
  | 0 => Int.le_refl _
  | n + 1 => by have := fmax_ge f c n; unfold fmax; omega
theorem fmax_max (f : Nat → Int) (c e : Int) (h : c ≤ e) : ∀ n, fmax f e n = max e (fmax f c n)
  | 0 => by unfold fmax; omega
  | n + 1 => by unfold fmax; rw [fmax_max f c e h n]; omega
theorem fmax_le {f : Nat → Int} {c e : Int} (h0 : c ≤ e) : ∀ {n : Nat}, (∀ k, k < n → f k ≤ e) → fmax f c n ≤ e
  | 0, _ => h0
  | n + 1, h => by have h1 := fmax_le h0 (fun k hk => h k (by omega) : ∀ k, k < n → f k ≤ e); have h2 := h n (by omega); unfold fmax; omega
theorem fmax_congr {f g : Nat → Int} {c : Int} : ∀ {n : Nat}, (∀ k, k < n → f k = g k) → fmax f c n = fmax g c n
  | 0, _ => rfl
  | n + 1, h => by unfold fmax; rw [fmax_congr (fun k hk => h k (by omega)), h n (by omega)]
/-- the highest storey of people in these situations -/
def topS (np : Nat) (s : Int) : Int := fmax (g8 s) (-2) np
def toldR (S : Nat → Int) (np k n : Nat) (what : Int) : Int := if what = 0 then k else if what = 1 then n - k else fmax (fun i => topS np (S (k + i))) (-2) (n - k)
theorem topS_rng (np : Nat) (s : Int) : -2 ≤ topS np s ∧ topS np s ≤ 7 := ⟨fmax_ge _ _ _, fmax_le (by omega) (fun k _ => by have := g8_lt s k; omega)⟩
theorem C_told {G : q_G} {d : Nat} {M : q_Mem} {N : q_MemL} {k n : Nat} {what : Int} {S : Nat → Int} (hd : 1 ≤ d) (h4 : 0 ≤ M 3 4 ∧ M 3 4 ≤ 7) (hk : k < n ∧ n ≤ 2000) (hS : ∀ j, j < n → M 93 j = S j) (hSr : ∀ j, 0 ≤ S j ∧ S j < 1073741824) (hw : 0 ≤ what ∧ what ≤ 2) : AC0 G d m_X1_told [.ref 91, I k, I n, I what] M N (CV (PU (I (toldR S (M 3 4).toNat k n what)) M N)) := by
  refine AC.of (L0 := [_, _, _, _, none, none, none]) pn_X1 (Nat.le_of_ble_eq_true rfl) rfl ?_
  refine st_iload_n dX1_told_0 rfl ?_
  refine st_if_ne (tgt := 6) dX1_told_1 (by omega) rfl (fun h => ?_) (fun h => ?_)
  · refine st_iload_n dX1_told_6 rfl ?_
    refine st_iconst dX1_told_7 ?_
    refine st_icmp_ne (tgt := 15) dX1_told_8 (by omega) (by omega) rfl (fun h2 => ?_) (fun h2 => ?_)
    · refine st_bipush dX1_told_15 (by decide) ?_
      refine st_istore (L' := [_, _, _, _, _, _, _]) dX1_told_17 (by decide) rfl rfl ?_
      refine st_iload_n dX1_told_19 rfl ?_
      refine st_istore (L' := [_, _, _, _, _, _, _]) dX1_told_20 (by decide) rfl rfl ?_
      have loop2 : ∀ (q i : Nat) (t c : Int), i + q = (M 3 4).toNat → (j : Nat) → j < n → (-2 ≤ c ∧ c ≤ 7) → t = fmax (g8 (S j)) c i →
          (∀ t', t' = fmax (g8 (S j)) c (M 3 4).toNat → AW0 G d m_X1_told 70 [some (.ref 91), some (I k), some (I n), some (I what), some (I t'), some (I j), none] [] M N (CV (PU (I (toldR S (M 3 4).toNat k n what)) M N))) →
          AW0 G d m_X1_told 31 [some (.ref 91), some (I k), some (I n), some (I what), some (I t), some (I j), some (I i)] [] M N (CV (PU (I (toldR S (M 3 4).toNat k n what)) M N)) := by
        intro q
        induction q with
        | zero =>
          intro i t c hi j hj hc ht kk
          refine st_iload dX1_told_31 rfl ?_
          refine st_aload_n dX1_told_33 rfl ?_
          refine st_getfr dX1_told_34 f_X1_18 (by first | assumption | rfl) (by rfl) ?_
          refine st_getfi dX1_told_37 f_X1_62 (by first | assumption | rfl) (by rfl) ?_
          refine st_icmp_ge (tgt := 70) dX1_told_40 (by omega) (by omega) rfl (fun h7 => ?_) (fun h7 => ?_)
          · skip
            refine AW.le (kk t (by rw [ht, show i = (M 3 4).toNat by omega])) ?_
            exact ⟨rfl, rfl, rfl, rfl, rfl, rfl, trivial⟩
          · skip
            omega
        | succ q ih =>
          intro i t c hi j hj hc ht kk
          have hg := g8_lt (S j) i
          have ht1 : -2 ≤ t ∧ t ≤ 7 := by
            rw [ht]
            have h1 := fmax_ge (g8 (S j)) c i
            have h2 : fmax (g8 (S j)) c i ≤ 7 := fmax_le (by omega) (fun k _ => by have := g8_lt (S j) k; omega)
            omega
          refine st_iload dX1_told_31 rfl ?_
          refine st_aload_n dX1_told_33 rfl ?_
          refine st_getfr dX1_told_34 f_X1_18 (by first | assumption | rfl) (by rfl) ?_
          refine st_getfi dX1_told_37 f_X1_62 (by first | assumption | rfl) (by rfl) ?_
          refine st_icmp_ge (tgt := 70) dX1_told_40 (by omega) (by omega) rfl (fun h7 => ?_) (fun h7 => ?_)
          · skip
            omega
          · refine st_iload dX1_told_43 rfl ?_
            refine st_aload_n dX1_told_45 rfl ?_
            refine st_getfr dX1_told_46 f_X1_15 (by first | assumption | rfl) (by rfl) ?_
            refine st_iload dX1_told_49 rfl ?_
            refine c_S2p (d' := d - 1) dX1_told_51 l_X1_58 k_X10_cell s_X10_cell (by omega) (Nat.le_of_ble_eq_true rfl) (C_cellI sh_93 (by decide) (by omega)) ?_
            rw [show ((j : Int)).toNat = j by omega, hS j hj]
            have := hSr j
            refine st_iload dX1_told_54 rfl ?_
            refine c_S2p (d' := d - 1) dX1_told_56 l_X1_65 k_X10_storeyIn s_X10_storeyIn (by omega) (Nat.le_of_ble_eq_true rfl) (C_storeyIn (by omega) (by omega)) ?_
            refine st_mmax dX1_told_59 lm_X1_53 (by omega) (Nat.le_of_ble_eq_true rfl) (by omega) (by omega) ?_
            refine st_istore (L' := [_, _, _, _, _, _, _]) dX1_told_62 (by decide) rfl rfl ?_
            refine st_iinc (L' := [_, _, _, _, _, _, _]) dX1_told_64 rfl (by decide) rfl rfl ?_
            refine st_goto (tgt := 31) dX1_told_67 rfl ?_
            refine AW.to (ih (i + 1) (max t (g8 (S j) i)) c (by omega) j hj hc (by rw [ht]; rfl) kk) (h2 := by simp)
      have loop1 : ∀ (q i : Nat) (t : Int), i + q = n - k → t = fmax (fun i => topS (M 3 4).toNat (S (k + i))) (-2) i → {l6 : Option Value} → AW0 G d m_X1_told 22 [some (.ref 91), some (I k), some (I n), some (I what), some (I t), some (I (k + i : Nat)), l6] [] M N (CV (PU (I (toldR S (M 3 4).toNat k n what)) M N)) := by
        intro q
        induction q with
        | zero =>
          intro i t hi ht l6
          refine st_iload dX1_told_22 rfl ?_
          refine st_iload_n dX1_told_24 rfl ?_
          refine st_icmp_ge (tgt := 76) dX1_told_25 (by omega) (by omega) rfl (fun h7 => ?_) (fun h7 => ?_)
          · refine st_iload dX1_told_76 rfl ?_
            exact r_i dX1_told_78 rfl ⟨by rw [toldR, if_neg h, if_neg h2, ht, show i = n - k by omega], rfl, rfl⟩
          · skip
            omega
        | succ q ih =>
          intro i t hi ht l6
          have ht1 : -2 ≤ t ∧ t ≤ 7 := by
            rw [ht]
            exact ⟨fmax_ge _ _ _, fmax_le (by omega) (fun k _ => (topS_rng _ _).2)⟩
          refine st_iload dX1_told_22 rfl ?_
          refine st_iload_n dX1_told_24 rfl ?_
          refine st_icmp_ge (tgt := 76) dX1_told_25 (by omega) (by omega) rfl (fun h7 => ?_) (fun h7 => ?_)
          · skip
            omega
          · refine st_iconst dX1_told_28 ?_
            refine st_istore (L' := [_, _, _, _, _, _, _]) dX1_told_29 (by decide) rfl rfl ?_
            refine loop2 (M 3 4).toNat 0 t t (by omega) (k + i) (by omega) ht1 rfl (fun t' ht' => ?_)
            refine st_iinc (L' := [_, _, _, _, _, _, _]) dX1_told_70 rfl (by decide) rfl rfl ?_
            refine st_goto (tgt := 22) dX1_told_73 rfl ?_
            rw [show ((k + i : Nat) : Int) + 1 = ((k + (i + 1) : Nat) : Int) by omega]
            refine ih (i + 1) t' (by omega) ?_
            rw [ht', fmax_max _ (-2) t ht1.1]
            show _ = max (fmax _ _ i) (topS (M 3 4).toNat (S (k + i)))
            rw [ht]
            rfl
      refine AW.to (loop1 (n - k) 0 (-2) (by omega) rfl (l6 := none)) (h2 := by simp)
    · refine st_iload_n dX1_told_11 rfl ?_
      refine st_iload_n dX1_told_12 rfl ?_
      refine st_isub dX1_told_13 ?_
      exact r_i dX1_told_14 rfl ⟨by rw [toldR, if_neg h, if_pos h2], rfl, rfl⟩
  · refine st_iload_n dX1_told_4 rfl ?_
    exact r_i dX1_told_5 rfl ⟨by rw [toldR, if_pos h], rfl, rfl⟩
/-- the first time at which all is as it was at an earlier one -/
def mtch (S : Nat → Int) (h : Int) (k n : Nat) : Prop := ((n : Int) - k) % h = 0 ∧ S k = S n
def LoopR (S : Nat → Int) (h : Int) (np : Nat) (what r : Int) : Prop := (∃ n k : Nat, k < n ∧ n ≤ 2000 ∧ mtch S h k n ∧ (∀ n' k' : Nat, k' < n' → n' < n → ¬ mtch S h k' n') ∧ r = toldR S np k n what) ∨ ((∀ n k : Nat, k < n → n ≤ 2000 → ¬ mtch S h k n) ∧ r = -3)
theorem C_round {G : q_G} {d : Nat} {M : q_Mem} {N : q_MemL} {what : Int} (hd : 5 ≤ d) (hM : Hrg M 3) (h11 : 0 ≤ M 3 11 ∧ M 3 11 ≤ 10000) (h12 : 0 ≤ M 3 12 ∧ M 3 12 < 1073741824) (hw : 0 ≤ what ∧ what ≤ 2) : AC0 G d m_X1_round [.ref 91, I what] M N (CV (fun x M' N' => N' = N ∧ Exc [92, 93] M M' ∧ ∃ r, x = I r ∧ LoopR (fut M 3) (max 1 (M 3 2)) (M 3 4).toNat what r)) := by
  have hSr := fut_rng hM.2.1 h12
  have h4 := hM.2.2.1
  refine AC.of (L0 := [_, _, none, none, none]) pn_X1 (Nat.le_of_ble_eq_true rfl) rfl ?_
  refine st_aload_n dX1_round_0 rfl ?_
  refine st_getfr dX1_round_1 f_X1_18 (by first | assumption | rfl) (by rfl) ?_
  refine st_getfi dX1_round_4 f_X1_22 (by first | assumption | rfl) (by rfl) ?_
  refine st_istore_n (L' := [_, _, _, _, _]) dX1_round_7 (by decide) rfl rfl ?_
  refine st_iconst dX1_round_8 ?_
  refine st_istore_n (L' := [_, _, _, _, _]) dX1_round_9 (by decide) rfl rfl ?_
  have loop : ∀ (q n : Nat) (M1 : q_Mem), n + q = 2001 → Exc [92, 93] M M1 → (∀ j, j < n → M1 93 j = fut M 3 j) → (∀ n' k' : Nat, k' < n' → n' < n → ¬ mtch (fut M 3) (max 1 (M 3 2)) k' n') → {l4 : Option Value} → AW0 G d m_X1_round 10 [some (.ref 91), some (I what), some (I (fut M 3 n)), some (I n), l4] [] M1 N (CV (fun x M' N' => N' = N ∧ Exc [92, 93] M M' ∧ ∃ r, x = I r ∧ LoopR (fut M 3) (max 1 (M 3 2)) (M 3 4).toNat what r)) := by
    intro q
    induction q with
    | zero =>
      intro n M1 hn hE hS hno l4
      refine st_iload_n dX1_round_10 rfl ?_
      refine st_aload_n dX1_round_11 rfl ?_
      refine st_getfr dX1_round_12 f_X1_15 (by first | assumption | rfl) (by rfl) ?_
      refine st_alen dX1_round_15 (by first | assumption | rfl) (by decide) ?_
      refine st_icmp_ge (tgt := 62) dX1_round_16 (by omega) (by omega) rfl (fun h => ?_) (fun h => ?_)
      · refine st_bipush dX1_round_62 (by decide) ?_
        exact r_i dX1_round_64 rfl ⟨rfl, hE, -3, rfl, Or.inr ⟨fun n' k' h1 h2 => hno n' k' h1 (by omega), rfl⟩⟩
      · skip
        omega
    | succ q ih =>
      intro n M1 hn hE hS hno l4
      have e3 := hE 3 (by decide)
      have hrn := hSr n
      refine st_iload_n dX1_round_10 rfl ?_
      refine st_aload_n dX1_round_11 rfl ?_
      refine st_getfr dX1_round_12 f_X1_15 (by first | assumption | rfl) (by rfl) ?_
      refine st_alen dX1_round_15 (by first | assumption | rfl) (by decide) ?_
      refine st_icmp_ge (tgt := 62) dX1_round_16 (by omega) (by omega) rfl (fun h => ?_) (fun h => ?_)
      · skip
        omega
      · refine st_aload_n dX1_round_19 rfl ?_
        refine st_iload_n dX1_round_20 rfl ?_
        refine st_iload_n dX1_round_21 rfl ?_
        refine c_V2i (d' := d - 1) dX1_round_22 l_X1_43 k_X1_whenSeen i_X1_whenSeen (Or.inl ⟨_, _, _, _, _, (by first | assumption | rfl), by rfl⟩) (by omega) (Nat.le_of_ble_eq_true rfl) (C_whenSeen (S := fut M 3) (by omega) (by rw [e3]; exact hM.1) (by omega) hS hSr hrn) (fun x M2 N2 hx => ?_)
        obtain ⟨hM2, hN2, r, rfl, hr⟩ := hx
        rw [hM2, hN2]
        rw [e3] at hr
        refine st_istore (L' := [_, _, _, _, _]) dX1_round_25 (by decide) rfl rfl ?_
        refine st_iload dX1_round_27 rfl ?_
        refine st_iconst dX1_round_29 ?_
        refine st_icmp_eq (tgt := 42) dX1_round_30 (by omega) (by omega) rfl (fun h2 => ?_) (fun h2 => ?_)
        · refine st_aload_n dX1_round_42 rfl ?_
          refine st_getfr dX1_round_43 f_X1_15 (by first | assumption | rfl) (by rfl) ?_
          refine st_iload_n dX1_round_46 rfl ?_
          refine st_iload_n dX1_round_47 rfl ?_
          refine st_iast dX1_round_48 (by first | assumption | rfl) (by omega) (by omega) (hn := by first | decide | omega) ?_
          refine st_aload_n dX1_round_49 rfl ?_
          refine st_iload_n dX1_round_50 rfl ?_
          refine st_iload_n dX1_round_51 rfl ?_
          have hno2 : ∀ j : Nat, j < n → ¬ mtch (fut M 3) (max 1 (M 3 2)) j n := fun j hj hm => by
            rcases hr with ⟨-, hr⟩ | hr
            · exact hr j hj hm.1 hm.2
            · omega
          have hE2 : Exc [92, 93] M (q_up M1 93 (n : Int).toNat (fut M 3 n)) := hE.tr (Exc.up (by decide))
          have e32 := hE2 3 (by decide)
          have hS2 : ∀ j, j < n + 1 → q_up M1 93 (n : Int).toNat (fut M 3 n) 93 j = fut M 3 j := fun j hj => by
            by_cases q1 : j = n
            · simp [q_up, q1]
            · rw [show q_up M1 93 (n : Int).toNat (fut M 3 n) 93 j = M1 93 j by simp [q_up, q1]]
              exact hS j (by omega)
          generalize q_up M1 93 (n : Int).toNat (fut M 3 n) = M4 at hE2 e32 hS2 ⊢
          refine c_V2i (d' := d - 1) dX1_round_52 l_X1_28 k_X1_asTold i_X1_asTold (Or.inl ⟨_, _, _, _, _, (by first | assumption | rfl), by rfl⟩) (by omega) (Nat.le_of_ble_eq_true rfl) (C_asTold (by omega) (hM.exc hE2 (by decide) (by decide) (by decide) (by decide)) (by rw [e32]; exact h11) (by omega) (by omega)) (fun x M3 N3 hx => ?_)
          obtain ⟨rfl, rfl, hE3⟩ := hx
          refine st_istore_n (L' := [_, _, _, _, _]) dX1_round_55 (by decide) rfl rfl ?_
          refine st_iinc (L' := [_, _, _, _, _]) dX1_round_56 rfl (by decide) rfl rfl ?_
          refine st_goto (tgt := 10) dX1_round_59 rfl ?_
          refine AW.to (ih (n + 1) M3 (by omega) (hE2.tr (hE3.sub (by decide))) (fun j hj => by rw [hE3 93 (by decide)]; exact hS2 j hj) (fun n' k' h1 h2 => ?_) (l4 := some (I r))) (h2 := ?_)
          · by_cases q1 : n' < n
            · exact hno n' k' h1 q1
            · have : n' = n := by omega
              subst this
              exact hno2 k' h1
          · rw [show fut M 3 (n + 1) = nxt M 3 (fut M 3 n) (toldV M 3 (M 3 11 + n) 0) from rfl, toldV_congr e32 (hE2 7 (by decide)), e32, ← nxt_congr e32 (hE2 4 (by decide)) (hE2 6 (by decide)) (fun _ _ => rfl)]
            simp
        · refine st_aload_n dX1_round_33 rfl ?_
          refine st_iload dX1_round_34 rfl ?_
          refine st_iload_n dX1_round_36 rfl ?_
          refine st_iload_n dX1_round_37 rfl ?_
          rcases hr with ⟨hr, -⟩ | hr
          · exact absurd hr h2
          rw [show r = ((r.toNat : Nat) : Int) by omega]
          refine c_V3p (d' := d - 1) dX1_round_38 l_X1_46 k_X1_told i_X1_told (Or.inl ⟨_, _, _, _, _, (by first | assumption | rfl), by rfl⟩) (by omega) (Nat.le_of_ble_eq_true rfl) (C_told (S := fut M 3) (by omega) (by rw [e3]; exact h4) (by omega) hS hSr hw) ?_
          rw [e3]
          exact r_i dX1_round_41 rfl ⟨rfl, hE, _, rfl, Or.inl ⟨n, r.toNat, by omega, by omega, ⟨by rw [← hr.2.2.1]; congr 2; omega, hr.2.2.2⟩, hno, rfl⟩⟩
  refine loop 2001 0 M (by omega) Exc.rf (fun j hj => by omega) (fun n' k' h1 h2 => by omega) (l4 := none)


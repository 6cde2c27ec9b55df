/-! the reference reads a rule: entries, parts counted, values -/
/-- what the reading of a rule changes: rows R, fields Y, of the entries those of slot s alone -/
def RFk (s : Nat) (R Y : List Nat) (V V1 : q_Mem) : Prop := Exc R V V1 ∧ (∀ j, j ∉ Y → V1 112 j = V 112 j) ∧ ∀ j, j < 300 * s ∨ 300 * s + 300 ≤ j → V1 133 j = V 133 j ∧ V1 134 j = V 134 j
theorem RFk.rf {s : Nat} {R Y : List Nat} {V : q_Mem} : RFk s R Y V V := ⟨Exc.rf, fun _ _ => rfl, fun _ _ => ⟨rfl, rfl⟩⟩
theorem RFk.tr {s : Nat} {R Y : List Nat} {V V1 V2 : q_Mem} (h : RFk s R Y V V1) (h2 : RFk s R Y V1 V2) : RFk s R Y V V2 := ⟨h.1.tr h2.1, fun j hj => (h2.2.1 j hj).trans (h.2.1 j hj), fun j hj => ⟨(h2.2.2 j hj).1.trans (h.2.2 j hj).1, (h2.2.2 j hj).2.trans (h.2.2 j hj).2⟩⟩
theorem RFk.sub {s : Nat} {R Y R1 Y1 : List Nat} {V V1 : q_Mem} (h : RFk s R Y V V1) (hR : ∀ a, a ∈ R → a ∈ R1) (hY : ∀ a, a ∈ Y → a ∈ Y1) : RFk s R1 Y1 V V1 := ⟨h.1.sub hR, fun j hj => h.2.1 j (fun z => hj (hY j z)), h.2.2⟩
theorem RFk.up {s : Nat} {R Y : List Nat} {V : q_Mem} {i : Nat} {z : Int} (h : 112 ∈ R) (hi : i ∈ Y) : RFk s R Y V (q_up V 112 i z) := by
  refine ⟨Exc.up h, fun j hj => ?_, fun j _ => ?_⟩
  · simp only [q_up]
    rw [if_neg (fun e => hj (by rw [e.2]; exact hi))]
  · rw [q_up_ne (by decide), q_up_ne (by decide)]
    exact ⟨rfl, rfl⟩
theorem RFk.upr {s : Nat} {R Y : List Nat} {V : q_Mem} {a i : Nat} {z : Int} (h : a ∈ R) (ha : ¬ a = 112 ∧ ¬ a = 133 ∧ ¬ a = 134) : RFk s R Y V (q_up V a i z) := by
  refine ⟨Exc.up h, fun j hj => ?_, fun j _ => ?_⟩
  · rw [q_up_ne (fun e => ha.1 e.symm)]
  · rw [q_up_ne (fun e => ha.2.1 e.symm), q_up_ne (fun e => ha.2.2 e.symm)]
    exact ⟨rfl, rfl⟩
theorem RFk.upe {s : Nat} {R Y : List Nat} {V : q_Mem} {a i : Nat} {z : Int} (h : a ∈ R) (ha : a = 133 ∨ a = 134) (hi : 300 * s ≤ i ∧ i < 300 * s + 300) : RFk s R Y V (q_up V a i z) := by
  refine ⟨Exc.up h, fun j hj => ?_, fun j hj => ?_⟩
  · rw [q_up_ne (by omega)]
  · simp only [q_up]
    rw [if_neg (by omega), if_neg (by omega)]
    exact ⟨rfl, rfl⟩
abbrev RS1 (s : Nat) : q_Mem → q_Mem → Prop := RFk s [112, 133, 134] [21, 22, 25, 27]
theorem RS1.r132 {s : Nat} {V V1 : q_Mem} {f : Nat → Int} (h : RS1 s V V1) (hf : V 132 = f) : V1 132 = f := by
  rw [h.1 132 (by decide)]
  exact hf
/-- what the reading keeps: slot, parts, entries -/
def VR (s c : Nat) (E : List Int) (V : q_Mem) : Prop := V 112 23 = (s : Int) ∧ V 112 25 = (E.length : Int) ∧ V 112 27 = (c : Int) ∧ V 112 29 = 11 ∧ ∀ i, i < E.length → cR (E.getD i 0) (V 133 (300 * s + i)) (V 134 (300 * s + i))
/-- the same in a fault -/
def VE (s : Nat) (k : Int) (V : q_Mem) : Prop := V 112 23 = (s : Int) ∧ (0 ≤ V 112 25 ∧ V 112 25 ≤ 300) ∧ (0 ≤ V 112 27 ∧ V 112 27 ≤ k) ∧ V 112 29 = 11
theorem VR.ve {s c : Nat} {E : List Int} {V : q_Mem} {k : Int} (h : VR s c E V) (hE : E.length ≤ 300) (hk : (c : Int) ≤ k) : VE s k V := by
  obtain ⟨a, b, d, e, -⟩ := h
  exact ⟨a, by omega, by omega, e⟩
theorem VE.mono {s : Nat} {k l : Int} {V : q_Mem} (h : VE s k V) (hk : k ≤ l) : VE s l V := by
  obtain ⟨a, b, d, e⟩ := h
  exact ⟨a, b, by omega, e⟩
theorem VR.fx {s c : Nat} {E : List Int} {V V1 : q_Mem} (h : VR s c E V) (hf : fx V V1) (hE : Exc [112] V V1) : VR s c E V1 := by
  unfold VR at *
  rw [hf 23 (by decide), hf 25 (by decide), hf 27 (by decide), hf 29 (by decide), hE 133 (by decide), hE 134 (by decide)]
  exact h
theorem VE.fx {s : Nat} {k : Int} {V V1 : q_Mem} (h : VE s k V) (hf : fx V V1) : VE s k V1 := by
  unfold VE at *
  rw [hf 23 (by decide), hf 25 (by decide), hf 27 (by decide), hf 29 (by decide)]
  exact h
theorem fx.rs {s : Nat} {V V1 : q_Mem} (hf : fx V V1) (hE : Exc [112] V V1) : RS1 s V V1 := ⟨hE.sub (by decide), fun j hj => hf j (by simp at hj ⊢; omega), fun j _ => by
  rw [hE 133 (by decide), hE 134 (by decide)]
  exact ⟨rfl, rfl⟩⟩
theorem RP1.f23 {V : q_Mem} {n p i : Nat} {z : Int} (h : RP1 V n p) (hi : ¬ i = 20 ∧ ¬ i = 21 ∧ ¬ i = 22) : RP1 (q_up V 112 i z) n p := by
  obtain ⟨a, b, c, e, f⟩ := h
  refine ⟨?_, b, ?_, e, ?_⟩ <;> simp only [q_up] <;> rw [if_neg (by omega)] <;> assumption
theorem RE1.f23 {V : q_Mem} {n i : Nat} {z F : Int} (h : RE1 V n F) (hi : ¬ i = 20 ∧ ¬ i = 21 ∧ ¬ i = 22) : RE1 (q_up V 112 i z) n F := by
  obtain ⟨a, b, c, e, f⟩ := h
  refine ⟨?_, b, ?_, ?_, f⟩ <;> simp only [q_up] <;> rw [if_neg (by omega)] <;> assumption
theorem RP1.row {V : q_Mem} {n p a i : Nat} {z : Int} (h : RP1 V n p) (ha : ¬ a = 112) : RP1 (q_up V a i z) n p := h.exc (Exc.up (L := [a]) (by simp)) (by simp; omega)
theorem RE1.row {V : q_Mem} {n a i : Nat} {z F : Int} (h : RE1 V n F) (ha : ¬ a = 112) : RE1 (q_up V a i z) n F := h.exc (Exc.up (L := [a]) (by simp)) (by simp; omega)
theorem RE1.upp {V : q_Mem} {n : Nat} {F q : Int} (h : RE1 V n F) (hq : 0 ≤ q ∧ q ≤ 400) : RE1 (q_up V 112 21 q) n F := by
  obtain ⟨a, b, c, e, f⟩ := h
  exact ⟨by simp [q_up, a], b, by simp [q_up]; omega, by simp [q_up, e], f⟩
theorem C_entry {G : q_G} {d : Nat} {V : q_Mem} {N : q_MemL} {s c n p : Nat} {E : List Int} {x k v : Int} (hp : RP1 V n p) (hV : VR s c E V) (hs : s ≤ 5) (hE : E.length < 300) (hx : cR x k v) : AC0 G d m_X11_entry [.ref 112, I k, I v] V N (CN (fun V1 N1 => N1 = N ∧ RS1 s V V1 ∧ RP1 V1 n p ∧ VR s c (E ++ [x]) V1)) := by
  obtain ⟨a, b, e, f, g⟩ := hV
  refine AC.of (L0 := [_, _, _]) pn_X11 (Nat.le_of_ble_eq_true rfl) rfl ?_
  refine st_aload_n dX11_entry_0 rfl ?_
  refine st_getfi dX11_entry_1 f_X11_220 (by first | with_reducible assumption | rfl) (by rfl) ?_
  rw [hp.2.2.2.2]
  refine st_if_ne (tgt := 55) dX11_entry_4 (by omega) rfl (fun c1 => ?_) (fun c1 => ?_)
  · skip
    exact absurd rfl c1
  · refine st_aload_n dX11_entry_7 rfl ?_
    refine st_getfr dX11_entry_8 f_X11_75 (by first | with_reducible assumption | rfl) (by rfl) ?_
    refine st_sipush dX11_entry_11 (by decide) ?_
    refine st_aload_n dX11_entry_14 rfl ?_
    refine st_getfi dX11_entry_15 f_X11_250 (by first | with_reducible assumption | rfl) (by rfl) ?_
    rw [a]
    refine st_imul dX11_entry_18 ?_
    refine st_aload_n dX11_entry_19 rfl ?_
    refine st_getfi dX11_entry_20 f_X11_253 (by first | with_reducible assumption | rfl) (by rfl) ?_
    rw [b]
    refine st_iadd dX11_entry_23 ?_
    refine st_iload_n dX11_entry_24 rfl ?_
    first | refine st_iastK (k' := _) dX11_entry_25 (by first | with_reducible assumption | rfl) rfl (by omega) (hn := by first | decide | omega) ?_ | refine st_iast dX11_entry_25 (by first | with_reducible assumption | rfl) (by omega) (by omega) (hn := by first | decide | omega) ?_
    refine st_aload_n dX11_entry_26 rfl ?_
    refine st_getfr dX11_entry_27 f_X11_78 (by first | with_reducible assumption | rfl) (by rfl) ?_
    refine st_sipush dX11_entry_30 (by decide) ?_
    refine st_aload_n dX11_entry_33 rfl ?_
    refine st_getfi dX11_entry_34 f_X11_250 (by first | with_reducible assumption | rfl) (by rfl) ?_
    rw [show q_up V 133 ((300 : Int) * (s : Int) + (E.length : Int)).toNat k 112 23 = (s : Int) by rw [q_up_ne (by decide)]; exact a]
    refine st_imul dX11_entry_37 ?_
    refine st_aload_n dX11_entry_38 rfl ?_
    refine st_getfi dX11_entry_39 f_X11_253 (by first | with_reducible assumption | rfl) (by rfl) ?_
    rw [show q_up V 133 ((300 : Int) * (s : Int) + (E.length : Int)).toNat k 112 25 = (E.length : Int) by rw [q_up_ne (by decide)]; exact b]
    refine st_iadd dX11_entry_42 ?_
    refine st_iload_n dX11_entry_43 rfl ?_
    first | refine st_iastK (k' := _) dX11_entry_44 (by first | with_reducible assumption | rfl) rfl (by omega) (hn := by first | decide | omega) ?_ | refine st_iast dX11_entry_44 (by first | with_reducible assumption | rfl) (by omega) (by omega) (hn := by first | decide | omega) ?_
    refine st_aload_n dX11_entry_45 rfl ?_
    refine st_dup dX11_entry_46 rfl ?_
    refine st_getfi dX11_entry_47 f_X11_253 (by first | with_reducible assumption | rfl) (by rfl) ?_
    rw [show q_up (q_up V 133 ((300 : Int) * (s : Int) + (E.length : Int)).toNat k) 134 ((300 : Int) * (s : Int) + (E.length : Int)).toNat v 112 25 = (E.length : Int) by rw [q_up_ne (by decide), q_up_ne (by decide)]; exact b]
    refine st_iconst dX11_entry_50 ?_
    refine st_iadd dX11_entry_51 ?_
    refine st_putfi dX11_entry_52 w_X11_253 (by first | with_reducible assumption | rfl) (by rfl) rfl rfl ?_
    rw [show ((300 : Int) * (s : Int) + (E.length : Int)).toNat = 300 * s + E.length by omega]
    refine r_v dX11_entry_55 rfl ⟨rfl, ((RFk.upe (by simp) (Or.inl rfl) (by omega)).tr (RFk.upe (by simp) (Or.inr rfl) (by omega))).tr (RFk.up (by simp) (by simp)), ((hp.row (by decide)).row (by decide)).f23 (by decide), ?_⟩
    refine ⟨by simp [q_up, a], by simp [q_up], by simp [q_up, e], by simp [q_up, f], fun i hi => ?_⟩
    rw [List.length_append] at hi
    simp only [List.length_cons, List.length_nil] at hi
    rw [q_up_ne (by decide), q_up_ne (by decide), q_upR, q_up_ne (by decide), q_upR, q_up_ne (by decide)]
    unfold upR
    by_cases h : i = E.length
    · rw [if_pos (by omega), if_pos (by omega), h]
      simpa [List.getD_eq_getElem?_getD] using hx
    · rw [if_neg (by omega), if_neg (by omega)]
      have := g i (by omega)
      rw [List.getD_eq_getElem?_getD, List.getElem?_append_left (by omega), ← List.getD_eq_getElem?_getD]
      exact this
theorem C_entryE {G : q_G} {d : Nat} {V : q_Mem} {N : q_MemL} {n : Nat} {F k v : Int} (hp : RE1 V n F) : AC0 G d m_X11_entry [.ref 112, I k, I v] V N (CN (fun V1 N1 => N1 = N ∧ V1 = V)) := by
  have hF := hp.2.2.2.2
  refine AC.of (L0 := [_, _, _]) pn_X11 (Nat.le_of_ble_eq_true rfl) rfl ?_
  refine st_aload_n dX11_entry_0 rfl ?_
  refine st_getfi dX11_entry_1 f_X11_220 (by first | with_reducible assumption | rfl) (by rfl) ?_
  rw [hp.2.2.2.1]
  refine st_if_ne (tgt := 55) dX11_entry_4 (by omega) rfl (fun c1 => ?_) (fun c1 => ?_)
  · skip
    refine r_v dX11_entry_55 rfl ⟨rfl, rfl⟩
  · skip
    omega
theorem C_rfailE {G : q_G} {d : Nat} {V : q_Mem} {N : q_MemL} {n : Nat} {F a k : Int} (h : RE1 V n F) : AC0 G d m_X11_fails [.ref 112, I k, I a] V N (CN (fun V1 N1 => N1 = N ∧ V1 = V)) := by
  obtain ⟨h1, b, c, e, f, g1, g2⟩ := h
  refine AC.mono (fun v S' M' N' hq => ?_) (C_rfails (G := G) (d := d) (N := N) (a := a) (k := k) (M := V) (by rw [e]; unfold i32; omega))
  obtain ⟨hS, hv, hN, hM⟩ := hq
  refine ⟨hS, hv, hN, ?_⟩
  rw [hM, e, flt, if_neg f]
  exact q_up_id e.symm
theorem VR.cnt {s c : Nat} {E : List Int} {V : q_Mem} (h : VR s c E V) : VR s (c + 1) E (q_up V 112 27 ((c + 1 : Nat) : Int)) := by
  obtain ⟨a, b, e, f, g⟩ := h
  refine ⟨by simp [q_up, a], by simp [q_up, b], by simp [q_up], by simp [q_up, f], fun i hi => ?_⟩
  rw [q_up_ne (by decide), q_up_ne (by decide)]
  exact g i hi
theorem VE.cnt {s : Nat} {k : Int} {V : q_Mem} (h : VE s k V) : VE s (k + 1) (q_up V 112 27 (V 112 27 + 1)) := by
  obtain ⟨a, b, e, f⟩ := h
  refine ⟨by simp [q_up, a], by simp [q_up]; omega, by simp [q_up]; omega, by simp [q_up, f]⟩
theorem C_isCnt {G : q_G} {d : Nat} {V : q_Mem} {N : q_MemL} {s c q : Nat} {E : List Int} (hV : VR s c E V) (hc : c < 60) : AC0 G d m_X11_isCounted [.ref 112, I q] V N (CN (fun V1 N1 => N1 = N ∧ V1 = q_up V 112 27 ((c + 1 : Nat) : Int))) := by
  have h3 := hV.2.2.1
  refine AC.of (L0 := [_, _]) pn_X11 (Nat.le_of_ble_eq_true rfl) rfl ?_
  refine st_aload_n dX11_isCounted_0 rfl ?_
  refine st_getfi dX11_isCounted_1 f_X11_256 (by first | with_reducible assumption | rfl) (by rfl) ?_
  rw [h3]
  refine st_bipush dX11_isCounted_4 (by decide) ?_
  refine st_icmp_ne (tgt := 15) dX11_isCounted_6 (by omega) (by omega) rfl (fun c1 => ?_) (fun c1 => ?_)
  · refine st_aload_n dX11_isCounted_15 rfl ?_
    refine st_dup dX11_isCounted_16 rfl ?_
    refine st_getfi dX11_isCounted_17 f_X11_256 (by first | with_reducible assumption | rfl) (by rfl) ?_
    rw [h3]
    refine st_iconst dX11_isCounted_20 ?_
    refine st_iadd dX11_isCounted_21 ?_
    refine st_putfi dX11_isCounted_22 w_X11_256 (by first | with_reducible assumption | rfl) (by rfl) rfl rfl ?_
    refine r_v dX11_isCounted_25 rfl ⟨rfl, by rw [show ((c + 1 : Nat) : Int) = (c : Int) + 1 by omega]⟩
  · skip
    omega
theorem C_isCntF {G : q_G} {d : Nat} {V : q_Mem} {N : q_MemL} {s n p q : Nat} {E : List Int} (hd : 1 ≤ d) (hp : RP1 V n p) (hV : VR s 60 E V) (hq : q ≤ 400) : AC0 G d m_X11_isCounted [.ref 112, I q] V N (CN (fun V1 N1 => N1 = N ∧ V1 = q_up (q_up V 112 22 (1 + 8 * (q : Int) + 3)) 112 27 61 ∧ RE1 V1 n (1 + 8 * (q : Int) + 3))) := by
  have h3 : V 112 27 = 60 := hV.2.2.1
  obtain ⟨a, b, c, e, f⟩ := hp
  refine AC.of (L0 := [_, _]) pn_X11 (Nat.le_of_ble_eq_true rfl) rfl ?_
  refine st_aload_n dX11_isCounted_0 rfl ?_
  refine st_getfi dX11_isCounted_1 f_X11_256 (by first | with_reducible assumption | rfl) (by rfl) ?_
  rw [h3]
  refine st_bipush dX11_isCounted_4 (by decide) ?_
  refine st_icmp_ne (tgt := 15) dX11_isCounted_6 (by omega) (by omega) rfl (fun c1 => ?_) (fun c1 => ?_)
  · skip
    omega
  · refine st_aload_n dX11_isCounted_9 rfl ?_
    refine st_iconst dX11_isCounted_10 ?_
    refine st_iload_n dX11_isCounted_11 rfl ?_
    refine c_V2v (d' := d - 1) dX11_isCounted_12 l_X11_259 k_X11_fails i_X11_fails (Or.inl ⟨_, _, _, _, _, (by first | with_reducible assumption | rfl), by rfl⟩) (by omega) (Nat.le_of_ble_eq_true rfl) (C_rfails (by rw [f]; unfold i32; omega)) (fun V1 N1 hx => ?_)
    obtain ⟨rfl, hM⟩ := hx
    rw [f, flt, if_pos rfl] at hM
    refine st_aload_n dX11_isCounted_15 rfl ?_
    refine st_dup dX11_isCounted_16 rfl ?_
    refine st_getfi dX11_isCounted_17 f_X11_256 (by first | with_reducible assumption | rfl) (by rfl) ?_
    rw [show V1 112 27 = 60 by rw [hM]; simp [q_up, h3]]
    refine st_iconst dX11_isCounted_20 ?_
    refine st_iadd dX11_isCounted_21 ?_
    refine st_putfi dX11_isCounted_22 w_X11_256 (by first | with_reducible assumption | rfl) (by rfl) rfl rfl ?_
    refine r_v dX11_isCounted_25 rfl ⟨rfl, by rw [hM]; rfl, ?_⟩
    rw [hM]
    exact ⟨by simp [q_up, a], b, by simp [q_up]; omega, by simp [q_up], by omega, by omega, by omega⟩
theorem C_isCntE {G : q_G} {d : Nat} {V : q_Mem} {N : q_MemL} {s n q : Nat} {F k : Int} (hd : 1 ≤ d) (hp : RE1 V n F) (hV : VE s k V) (hk : k ≤ 50000) : AC0 G d m_X11_isCounted [.ref 112, I q] V N (CN (fun V1 N1 => N1 = N ∧ V1 = q_up V 112 27 (V 112 27 + 1))) := by
  have h3 := hV.2.2.1
  refine AC.of (L0 := [_, _]) pn_X11 (Nat.le_of_ble_eq_true rfl) rfl ?_
  refine st_aload_n dX11_isCounted_0 rfl ?_
  refine st_getfi dX11_isCounted_1 f_X11_256 (by first | with_reducible assumption | rfl) (by rfl) ?_
  refine st_bipush dX11_isCounted_4 (by decide) ?_
  refine st_icmp_ne (tgt := 15) dX11_isCounted_6 (by omega) (by omega) rfl (fun c1 => ?_) (fun c1 => ?_)
  · refine st_aload_n dX11_isCounted_15 rfl ?_
    refine st_dup dX11_isCounted_16 rfl ?_
    refine st_getfi dX11_isCounted_17 f_X11_256 (by first | with_reducible assumption | rfl) (by rfl) ?_
    refine st_iconst dX11_isCounted_20 ?_
    refine st_iadd dX11_isCounted_21 ?_
    refine st_putfi dX11_isCounted_22 w_X11_256 (by first | with_reducible assumption | rfl) (by rfl) rfl rfl ?_
    refine r_v dX11_isCounted_25 rfl ⟨rfl, rfl⟩
  · refine st_aload_n dX11_isCounted_9 rfl ?_
    refine st_iconst dX11_isCounted_10 ?_
    refine st_iload_n dX11_isCounted_11 rfl ?_
    refine c_V2v (d' := d - 1) dX11_isCounted_12 l_X11_259 k_X11_fails i_X11_fails (Or.inl ⟨_, _, _, _, _, (by first | with_reducible assumption | rfl), by rfl⟩) (by omega) (Nat.le_of_ble_eq_true rfl) (C_rfailE hp) (fun V1 N1 hx => ?_)
    obtain ⟨rfl, rfl⟩ := hx
    refine st_aload_n dX11_isCounted_15 rfl ?_
    refine st_dup dX11_isCounted_16 rfl ?_
    refine st_getfi dX11_isCounted_17 f_X11_256 (by first | with_reducible assumption | rfl) (by rfl) ?_
    refine st_iconst dX11_isCounted_20 ?_
    refine st_iadd dX11_isCounted_21 ?_
    refine st_putfi dX11_isCounted_22 w_X11_256 (by first | with_reducible assumption | rfl) (by rfl) rfl rfl ?_
    refine r_v dX11_isCounted_25 rfl ⟨rfl, rfl⟩
theorem C_digitsE {G : q_G} {d : Nat} {V : q_Mem} {N : q_MemL} {n : Nat} {F : Int} (hd : 2 ≤ d) (hp : RE1 V n F) : AC0 G d m_X11_digits [.ref 112, I 99999] V N (CV (fun x V1 N1 => N1 = N ∧ (∃ z : Int, x = I z ∧ 0 ≤ z ∧ z ≤ 99999) ∧ Exc [112] V V1 ∧ fx V V1 ∧ RE1 V1 n F)) := by
  have hn4 := hp.2.1
  obtain ⟨q, hq⟩ : ∃ q : Nat, V 112 21 = (q : Int) := ⟨(V 112 21).toNat, by have := hp.2.2.1; omega⟩
  have hq4 : q ≤ 400 := by have := hp.2.2.1; omega
  have loop : ∀ (m k : Nat) (v : Int) (V1 : q_Mem), q + k + m = max n q → dgOk k v → V1 112 21 = ((q + k : Nat) : Int) → Exc [112] V V1 → fx V V1 → RE1 V1 n F → AW0 G d m_X11_digits 25 [some (.ref 112), some (I 99999), some (I q), some (I v)] [] V1 N (CV (fun x V1 N1 => N1 = N ∧ (∃ z : Int, x = I z ∧ 0 ≤ z ∧ z ≤ 99999) ∧ Exc [112] V V1 ∧ fx V V1 ∧ RE1 V1 n F)) := by
    intro m
    have tl : ∀ (k : Nat) (v : Int) (V1 : q_Mem), q + k ≤ 400 → dgOk k v → V1 112 21 = ((q + k : Nat) : Int) → Exc [112] V V1 → fx V V1 → RE1 V1 n F → AW0 G d m_X11_digits 72 [some (.ref 112), some (I 99999), some (I q), some (I v)] [] V1 N (CV (fun x V1 N1 => N1 = N ∧ (∃ z : Int, x = I z ∧ 0 ≤ z ∧ z ≤ 99999) ∧ Exc [112] V V1 ∧ fx V V1 ∧ RE1 V1 n F)) := by
      intro k v V1 hk hok h2 hE hfx hT
      have hvr := hok.1
      refine st_aload_n dX11_digits_72 rfl ?_
      refine st_getfi dX11_digits_73 f_X11_223 (by first | with_reducible assumption | rfl) (by rfl) ?_
      rw [h2]
      refine st_iload_n dX11_digits_76 rfl ?_
      refine st_isub dX11_digits_77 ?_
      refine st_iconst dX11_digits_78 ?_
      refine st_icmp_gt (tgt := 87) dX11_digits_79 (by omega) (by omega) rfl (fun c1 => ?_) (fun c1 => ?_)
      · refine st_aload_n dX11_digits_87 rfl ?_
        refine st_iconst dX11_digits_88 ?_
        refine st_iload_n dX11_digits_89 rfl ?_
        refine c_V2v (d' := d - 1) dX11_digits_90 l_X11_259 k_X11_fails i_X11_fails (Or.inl ⟨_, _, _, _, _, (by first | with_reducible assumption | rfl), by rfl⟩) (by omega) (Nat.le_of_ble_eq_true rfl) (C_rfailE hT) (fun V2 N2 hx => ?_)
        obtain ⟨rfl, rfl⟩ := hx
        refine st_iload_n dX11_digits_93 rfl ?_
        exact r_i dX11_digits_94 rfl ⟨rfl, ⟨v, rfl, hvr⟩, hE, hfx, hT⟩
      · refine st_iload_n dX11_digits_82 rfl ?_
        refine st_iload_n dX11_digits_83 rfl ?_
        refine st_icmp_le (tgt := 93) dX11_digits_84 (by omega) (by omega) rfl (fun c2 => ?_) (fun c2 => ?_)
        · refine st_iload_n dX11_digits_93 rfl ?_
          refine r_i dX11_digits_94 rfl ⟨rfl, ⟨v, rfl, hvr⟩, hE, hfx, hT⟩
        · skip
          omega
    induction m with
    | zero =>
      intro k v V1 hm hok h2 hE hfx hT
      have hb : bytA (V1 132) n ((q + k : Nat) : Int) = -1 := by rw [bytA, if_neg (by omega)]
      refine st_aload_n dX11_digits_25 rfl ?_
      refine c_V0p (d' := d - 1) dX11_digits_26 l_X11_263 k_X11_isDigit i_X11_isDigit (Or.inl ⟨_, _, _, _, _, (by first | with_reducible assumption | rfl), by rfl⟩) (by omega) (Nat.le_of_ble_eq_true rfl) (C_isDigit (by omega) hT.1 hn4 h2 (by omega)) ?_
      rw [hb]
      refine b_eq (tgt := 72) dX11_digits_29 rfl (fun c => ?_) (fun c => ?_)
      · skip
        exact tl k v V1 (by omega) hok h2 hE hfx hT
      · skip
        omega
    | succ m ih =>
      intro k v V1 hm hok h2 hE hfx hT
      have hb := bytA_rng (V1 132) n ((q + k : Nat) : Int)
      refine st_aload_n dX11_digits_25 rfl ?_
      refine c_V0p (d' := d - 1) dX11_digits_26 l_X11_263 k_X11_isDigit i_X11_isDigit (Or.inl ⟨_, _, _, _, _, (by first | with_reducible assumption | rfl), by rfl⟩) (by omega) (Nat.le_of_ble_eq_true rfl) (C_isDigit (by omega) hT.1 hn4 h2 (by omega)) ?_
      refine b_eq (tgt := 72) dX11_digits_29 rfl (fun c => ?_) (fun c => ?_)
      · skip
        exact tl k v V1 (by omega) hok h2 hE hfx hT
      · skip
        have hok2 := hok.step c
        have hlt : q + k < n := by
          apply Decidable.byContradiction
          intro z
          rw [bytA, if_neg (by omega)] at c
          omega
        have nx : ∀ (v' : Int), dgOk (k + 1) v' → AW0 G d m_X11_digits 58 [some (.ref 112), some (I 99999), some (I q), some (I v)] [I v'] V1 N (CV (fun x V1 N1 => N1 = N ∧ (∃ z : Int, x = I z ∧ 0 ≤ z ∧ z ≤ 99999) ∧ Exc [112] V V1 ∧ fx V V1 ∧ RE1 V1 n F)) := by
          intro v' hv'
          refine st_istore_n (L' := [_, _, _, _]) dX11_digits_58 (by decide) rfl rfl ?_
          refine st_aload_n dX11_digits_59 rfl ?_
          refine st_dup dX11_digits_60 rfl ?_
          refine st_getfi dX11_digits_61 f_X11_223 (by first | with_reducible assumption | rfl) (by rfl) ?_
          rw [h2]
          refine st_iconst dX11_digits_64 ?_
          refine st_iadd dX11_digits_65 ?_
          refine st_putfi dX11_digits_66 w_X11_223 (by first | with_reducible assumption | rfl) (by rfl) rfl rfl ?_
          refine st_goto (tgt := 25) dX11_digits_69 rfl ?_
          rw [show (((q + k : Nat) : Int) + 1) = ((q + (k + 1) : Nat) : Int) by omega]
          exact AW.to (ih (k + 1) v' (q_up V1 112 21 ((q + (k + 1) : Nat) : Int)) (by omega) hv' (by simp [q_up]) (hE.tr (Exc.up (by simp))) (hfx.tr (fx.up (by simp))) (hT.upp (by omega))) (h2 := by simp)
        refine st_aload_n dX11_digits_32 rfl ?_
        refine st_getfi dX11_digits_33 f_X11_223 (by first | with_reducible assumption | rfl) (by rfl) ?_
        rw [h2]
        refine st_iload_n dX11_digits_36 rfl ?_
        refine st_isub dX11_digits_37 ?_
        refine st_iconst dX11_digits_38 ?_
        refine st_icmp_ge (tgt := 57) dX11_digits_39 (by omega) (by omega) rfl (fun c4 => ?_) (fun c4 => ?_)
        · refine st_iload_n dX11_digits_57 rfl ?_
          rw [if_neg (by omega)] at hok2
          exact nx v hok2
        · refine st_bipush dX11_digits_42 (by decide) ?_
          refine st_iload_n dX11_digits_44 rfl ?_
          refine st_imul dX11_digits_45 ?_
          refine st_aload_n dX11_digits_46 rfl ?_
          refine c_V0p (d' := d - 1) dX11_digits_47 l_X11_226 k_X11_sign i_X11_sign (Or.inl ⟨_, _, _, _, _, (by first | with_reducible assumption | rfl), by rfl⟩) (by omega) (Nat.le_of_ble_eq_true rfl) (C_sign hT.1 hn4 h2 (by omega)) ?_
          refine st_iadd dX11_digits_50 ?_
          refine st_bipush dX11_digits_51 (by decide) ?_
          refine st_isub dX11_digits_53 ?_
          refine st_goto (tgt := 58) dX11_digits_54 rfl ?_
          rw [if_pos (by omega)] at hok2
          refine AW.to (nx _ hok2) (h3 := ?_)
          rw [show (10 : Int) * v = v * 10 by omega]
  refine AC.of (L0 := [_, _, none, none]) pn_X11 (Nat.le_of_ble_eq_true rfl) rfl ?_
  refine st_aload_n dX11_digits_0 rfl ?_
  refine c_V0p (d' := d - 1) dX11_digits_1 l_X11_263 k_X11_isDigit i_X11_isDigit (Or.inl ⟨_, _, _, _, _, (by first | with_reducible assumption | rfl), by rfl⟩) (by omega) (Nat.le_of_ble_eq_true rfl) (C_isDigit (by omega) hp.1 hn4 hq (by omega)) ?_
  refine b_ne (tgt := 18) dX11_digits_4 rfl (fun c => ?_) (fun c => ?_)
  · refine st_aload_n dX11_digits_18 rfl ?_
    refine st_getfi dX11_digits_19 f_X11_223 (by first | with_reducible assumption | rfl) (by rfl) ?_
    rw [hq]
    refine st_istore_n (L' := [_, _, _, _]) dX11_digits_22 (by decide) rfl rfl ?_
    refine st_iconst dX11_digits_23 ?_
    refine st_istore_n (L' := [_, _, _, _]) dX11_digits_24 (by decide) rfl rfl ?_
    exact AW.to (loop (max n q - q) 0 0 V (by omega) (by unfold dgOk; omega) (by simpa using hq) Exc.rf fx.rf hp) (h2 := by simp)
  · refine st_aload_n dX11_digits_7 rfl ?_
    refine st_iconst dX11_digits_8 ?_
    refine st_aload_n dX11_digits_9 rfl ?_
    refine st_getfi dX11_digits_10 f_X11_223 (by first | with_reducible assumption | rfl) (by rfl) ?_
    refine c_V2v (d' := d - 1) dX11_digits_13 l_X11_259 k_X11_fails i_X11_fails (Or.inl ⟨_, _, _, _, _, (by first | with_reducible assumption | rfl), by rfl⟩) (by omega) (Nat.le_of_ble_eq_true rfl) (C_rfailE hp) (fun V2 N2 hx => ?_)
    obtain ⟨rfl, rfl⟩ := hx
    refine st_iconst dX11_digits_16 ?_
    exact r_i dX11_digits_17 rfl ⟨rfl, ⟨0, rfl, by omega, by omega⟩, Exc.rf, fx.rf, hp⟩


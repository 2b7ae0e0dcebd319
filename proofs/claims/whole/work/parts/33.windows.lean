-- WINDOWS
def OW (h h1 : LHeap) : Prop := h1.1 = h.1 ∧ h1.2.1 = h.2.1 ∧ ∀ a, (a < 22 ∨ (24 < a ∧ a < 146) ∨ a = 147 ∨ a = 148 ∨ 152 < a) → hRd h1 a = hRd h a
theorem OW.refl {h : LHeap} : OW h h := ⟨rfl, rfl, fun _ _ => rfl⟩
theorem OW.out {lo hi : Nat} {h h1 h2 : LHeap} (o : OW h h1) (b : Out lo hi h1 h2) (e : (22 ≤ lo ∧ hi ≤ 24) ∨ (146 ≤ lo ∧ hi ≤ 146) ∨ (149 ≤ lo ∧ hi ≤ 152)) : OW h h2 := ⟨b.1.trans o.1, b.2.1.trans o.2.1, fun q hq => (b.2.2 q (by omega)).trans (o.2.2 q hq)⟩
theorem CapH.ow {h h1 : LHeap} {M P J : Int} {wk wt dr tk bh : Int → Int} (hc : CapH h M P J wk wt dr tk bh) (o : OW h h1) : CapH h1 M P J wk wt dr tk bh := by
  obtain ⟨a1, a2, ⟨sh, mo, a3⟩, a4, a5, a6, a7, a8⟩ := hc
  exact ⟨by rw [o.2.2 _ (by omega)]; exact a1, by rw [o.2.2 _ (by omega)]; exact a2, ⟨sh, mo, by rw [o.2.2 _ (by omega)]; exact a3⟩, by rw [o.2.2 _ (by omega)]; exact a4, by rw [o.2.2 _ (by omega)]; exact a5, by rw [o.2.2 _ (by omega)]; exact a6, by rw [o.2.2 _ (by omega)]; exact a7, by rw [o.2.2 _ (by omega)]; exact a8⟩
def WnAt (ct : Int) (ea la : Int → Int) (T : List Int) (tot : Int) (su pa : Int → Int) (h : LHeap) : Prop := hRd h 146 = oWin 147 148 ct 149 tot 151 152 ∧ hRd h 147 = cA 6 ea ∧ hRd h 148 = cA 6 la ∧ Rw 149 T h ∧ hRd h 151 = cA 6 su ∧ hRd h 152 = cA 36 pa ∧ Scr h
theorem WnAt.out {ct tot : Int} {ea la su pa : Int → Int} {T : List Int} {h h1 : LHeap} {lo hi : Nat} (w : WnAt ct ea la T tot su pa h) (o : Out lo hi h h1) (e : (152 < lo ∨ hi < 146) ∧ (24 < lo ∨ hi < 22)) : WnAt ct ea la T tot su pa h1 := by
  obtain ⟨a1, a2, a3, a4, a5, a6, a7⟩ := w
  exact ⟨by rw [o.2.2 _ (by omega)]; exact a1, by rw [o.2.2 _ (by omega)]; exact a2, by rw [o.2.2 _ (by omega)]; exact a3, a4.out o (by omega), by rw [o.2.2 _ (by omega)]; exact a5, by rw [o.2.2 _ (by omega)]; exact a6, a7.out o (by omega)⟩
def ftF (U ea la : Int → Int) : Nat → Int → Int
  | 0, _ => 1
  | n + 1, i => if U (ea i) < U (la i) then ftF U ea la n (i + 1) else 0
def ctS (T : List Int) (tot : Int) : Nat → Int → (Int → Int) → Int → Int
  | 0, _, s => s
  | n + 1, p, s => ctS T tot n (p + 1) (uA s p (if tot = 0 ∨ s p = pfrom T p 0 then pfrom T p 0 else -1))
def ctI (U : Int → Int) (p : Int) : Nat → Int → (Int → Int) → Int → Int
  | 0, _, pa => pa
  | n + 1, q, pa => ctI U p n (q + 1) (if U p < U q then uA pa (p * 6 + q) (pa (p * 6 + q) + 1) else pa)
def ctP (U : Int → Int) : Nat → Int → (Int → Int) → Int → Int
  | 0, _, pa => pa
  | n + 1, p, pa => ctP U n (p + 1) (ctI U p n (p + 1) pa)
/-- ORDERS, one behind the other: how many fit, what is sure, the parts -/
def svF (M J sh : Int) (wk wt dr tk bh : Int → Int) (ct : Int) (ea la : Int → Int) : Nat → List Int → Int → (Int → Int) → (Int → Int) → Int × (Int → Int) × (Int → Int)
  | 0, _, tot, su, pa => (tot, su, pa)
  | n + 1, T, tot, su, pa =>
    if ftF (recU M J sh wk wt dr tk bh T) ea la ct.toNat 0 = 1 then
      (match nxtL T with
      | none => (tot + 1, ctS T tot 6 0 su, ctP (recU M J sh wk wt dr tk bh T) 6 0 pa)
      | some T1 => svF M J sh wk wt dr tk bh ct ea la n T1 (tot + 1) (ctS T tot 6 0 su) (ctP (recU M J sh wk wt dr tk bh T) 6 0 pa))
    else
      (match nxtL T with
      | none => (tot, su, pa)
      | some T1 => svF M J sh wk wt dr tk bh ct ea la n T1 tot su pa)
def SuB (su : Int → Int) : Prop := ∀ p, -1 ≤ su p ∧ su p ≤ 5
theorem ctS_b {T : List Int} {tot : Int} (hT : T.length ≤ 6) : ∀ (n : Nat) (p : Int) (su : Int → Int), SuB su → SuB (ctS T tot n p su) := by
  intro n
  induction n with
  | zero => intro p su h; exact h
  | succ n ih =>
    intro p su h
    rw [ctS]
    have := pfrom_ge T p 0 (by omega)
    refine ih _ _ (fun q => ?_)
    unfold uA
    split
    · split
      · omega
      · omega
    · exact h q
theorem ftF_01 (U ea la : Int → Int) : ∀ (n : Nat) (i : Int), ftF U ea la n i = 0 ∨ ftF U ea la n i = 1 := by
  intro n
  induction n with
  | zero => intro i; exact Or.inr rfl
  | succ n ih =>
    intro i
    rw [ftF]
    split
    · exact ih _
    · exact Or.inl rfl
section
variable {d : Nat} {h h0 : LHeap} {Q : Option Value → LHeap → Prop} {wk wt dr tk bh U ea la su pa : Int → Int} {M P J sh mo p ct tot : Int} {L T : List Int}
theorem l_fits (hd : 2 ≤ d) (hU : TVF U) (h10 : hRd h 10 = oCap 11 17 22 23 24) (h22 : hRd h 22 = cA 6 (fun q => en (U q))) (hw : WnAt ct ea la T tot su pa h) (hct : 0 ≤ ct ∧ ct ≤ 6) (hs : ∀ i, 0 ≤ i → i < ct → 0 ≤ ea i ∧ ea i ≤ 5 ∧ 0 ≤ la i ∧ la i ≤ 5) : ∀ (n : Nat) (i : Int), (n : Int) = ct - i → 0 ≤ i → Q (some (vI (ftF U ea la n i))) h → WPC d 66 3 [some (.ref 146), some (.ref 10), some (vI i)] [] h Q := by
  obtain ⟨a1, a2, a3, -⟩ := hw
  intro n
  induction n with
  | zero =>
    intro i hn hi kk
    rw [WPC_iff]
    simp (disch := omega) only [wr_id, wr_m1, sd_t, nl_I, nl_R, nl_none, c1_I, c1_R, sh_0, sh_1, sh_2, sh_3, sh_4, true_and, and_true, ldA_A, ldB_B, ldS_S, stA_A, stB_B, aL_A, aL_B, aL_S, aC_A, hRd_eq, hRd_ne, cp6, cp8, tl_some, tl_none, List.cons_append, List.nil_append, ofI_t0, ofI_t1, Int.add_zero, Int.zero_add, x66_0, x66_1, x66_2, x66_3, x66_4, x66_5, x66_6, x66_7, x66_8, x66_9, x66_10, x66_11, x66_12, x66_13, x66_14, x66_15, x66_16, x66_17, x66_18, x66_19, x66_20, x66_21, x66_22, x66_23, x66_24, x66_25, x66_26, gf9_2, gf9_0, gf9_1, a1]
    exact ⟨fun _ => kk, fun q => by omega⟩
  | succ n ih =>
    intro i hn hi kk
    have hb := hs i hi (by omega)
    rw [ftF] at kk
    rw [WPC_iff]
    simp (disch := omega) only [wr_id, wr_m1, sd_t, nl_I, nl_R, nl_none, c1_I, c1_R, sh_0, sh_1, sh_2, sh_3, sh_4, true_and, and_true, ldA_A, ldB_B, ldS_S, stA_A, stB_B, aL_A, aL_B, aL_S, aC_A, hRd_eq, hRd_ne, cp6, cp8, tl_some, tl_none, List.cons_append, List.nil_append, ofI_t0, ofI_t1, Int.add_zero, Int.zero_add, x66_0, x66_1, x66_2, x66_3, x66_4, x66_5, x66_6, x66_7, x66_8, x66_9, x66_10, x66_11, x66_12, x66_13, x66_14, x66_15, x66_16, x66_17, x66_18, x66_19, x66_20, x66_21, x66_22, x66_23, x66_24, x66_25, x66_26, gf9_2, gf9_0, gf9_1, a1, a2, a3]
    refine ⟨fun q => by omega, fun _ => ⟨fun q => by omega, fun _ => ⟨by omega, by omega, ?_⟩⟩⟩
    refine s_isEarlier (by omega) hU h10 h22 (by omega) (by omega) ?_
    by_cases q : U (ea i) < U (la i)
    · rw [if_pos q] at kk ⊢
      simp (disch := omega) only [wr_id, wr_m1, sd_t, nl_I, nl_R, nl_none, c1_I, c1_R, sh_0, sh_1, sh_2, sh_3, sh_4, true_and, and_true, ldA_A, ldB_B, ldS_S, stA_A, stB_B, aL_A, aL_B, aL_S, aC_A, hRd_eq, hRd_ne, cp6, cp8, tl_some, tl_none, List.cons_append, List.nil_append, ofI_t0, ofI_t1, Int.add_zero, Int.zero_add, x66_0, x66_1, x66_2, x66_3, x66_4, x66_5, x66_6, x66_7, x66_8, x66_9, x66_10, x66_11, x66_12, x66_13, x66_14, x66_15, x66_16, x66_17, x66_18, x66_19, x66_20, x66_21, x66_22, x66_23, x66_24, x66_25, x66_26, gf9_2, gf9_0, gf9_1]
      exact ⟨fun _ => ih (i + 1) (by omega) (by omega) kk, fun z => by omega⟩
    · rw [if_neg q] at kk ⊢
      simp (disch := omega) only [wr_id, wr_m1, sd_t, nl_I, nl_R, nl_none, c1_I, c1_R, sh_0, sh_1, sh_2, sh_3, sh_4, true_and, and_true, ldA_A, ldB_B, ldS_S, stA_A, stB_B, aL_A, aL_B, aL_S, aC_A, hRd_eq, hRd_ne, cp6, cp8, tl_some, tl_none, List.cons_append, List.nil_append, ofI_t0, ofI_t1, Int.add_zero, Int.zero_add, x66_0, x66_1, x66_2, x66_3, x66_4, x66_5, x66_6, x66_7, x66_8, x66_9, x66_10, x66_11, x66_12, x66_13, x66_14, x66_15, x66_16, x66_17, x66_18, x66_19, x66_20, x66_21, x66_22, x66_23, x66_24, x66_25, x66_26, gf9_2, gf9_0, gf9_1]
      exact ⟨fun z => by first | omega | exact absurd trivial z | exact absurd rfl z, fun _ => kk⟩
theorem s_fits (hd : 3 ≤ d) (hU : TVF U) (h10 : hRd h 10 = oCap 11 17 22 23 24) (h22 : hRd h 22 = cA 6 (fun q => en (U q))) (hw : WnAt ct ea la T tot su pa h) (hct : 0 ≤ ct ∧ ct ≤ 6) (hs : ∀ i, 0 ≤ i → i < ct → 0 ≤ ea i ∧ ea i ≤ 5 ∧ 0 ≤ la i ∧ la i ≤ 5) (kk : Q (some (vI (ftF U ea la ct.toNat 0))) h) : CALL d 66 [.ref 146, .ref 10] h Q := by
  refine cl66 (by omega) hw.1 ?_
  simp (disch := omega) only [wr_id, wr_m1, sd_t, nl_I, nl_R, nl_none, c1_I, c1_R, sh_0, sh_1, sh_2, sh_3, sh_4, true_and, and_true, ldA_A, ldB_B, ldS_S, stA_A, stB_B, aL_A, aL_B, aL_S, aC_A, hRd_eq, hRd_ne, cp6, cp8, tl_some, tl_none, List.cons_append, List.nil_append, ofI_t0, ofI_t1, Int.add_zero, Int.zero_add, x66_0, x66_1, x66_2, x66_3, x66_4, x66_5, x66_6, x66_7, x66_8, x66_9, x66_10, x66_11, x66_12, x66_13, x66_14, x66_15, x66_16, x66_17, x66_18, x66_19, x66_20, x66_21, x66_22, x66_23, x66_24, x66_25, x66_26, gf9_2, gf9_0, gf9_1]
  exact l_fits (by omega) hU h10 h22 hw hct hs ct.toNat 0 (by omega) (by omega) kk
theorem l_ctI {l3 : Option Value} (hd : 2 ≤ d) (hU : TVF U) (hp : 0 ≤ p ∧ p ≤ 5) : ∀ (n : Nat) (q : Int) (pa : Int → Int) (h : LHeap), (n : Int) = 6 - q → p < q → hRd h 10 = oCap 11 17 22 23 24 → hRd h 22 = cA 6 (fun q => en (U q)) → WnAt ct ea la T tot su pa h → (∀ h1, WnAt ct ea la T tot su (ctI U p n q pa) h1 → Out 152 152 h h1 → WP d 67 54 [some (.ref 146), some (.ref 10), some (vI p), l3, some (vI 6)] [] h1 Q) → nl l3 → WPC d 67 32 [some (.ref 146), some (.ref 10), some (vI p), l3, some (vI q)] [] h Q := by
  intro n
  induction n with
  | zero =>
    intro q pa h hn hq h10 h22 hw kk hl
    have : q = 6 := by omega
    subst this
    rw [WPC_iff]
    simp (disch := omega) only [wr_id, wr_m1, sd_t, nl_I, nl_R, nl_none, c1_I, c1_R, sh_0, sh_1, sh_2, sh_3, sh_4, true_and, and_true, ldA_A, ldB_B, ldS_S, stA_A, stB_B, aL_A, aL_B, aL_S, aC_A, hRd_eq, hRd_ne, cp6, cp8, tl_some, tl_none, List.cons_append, List.nil_append, ofI_t0, ofI_t1, Int.add_zero, Int.zero_add, x67_32, x67_33, x67_34]
    exact ⟨fun _ => kk h hw Out.refl, fun z => by first | omega | exact absurd trivial z | exact absurd (by omega) z⟩
  | succ n ih =>
    intro q pa h hn hq h10 h22 hw kk hl
    rw [ctI] at kk
    have hw0 := hw
    obtain ⟨a1, a2, a3, a4, a5, a6, a7⟩ := hw
    have hl2 : nl l3 = True := eq_true hl
    rw [WPC_iff]
    simp (disch := omega) only [wr_id, wr_m1, sd_t, nl_I, nl_R, nl_none, c1_I, c1_R, sh_0, sh_1, sh_2, sh_3, sh_4, true_and, and_true, ldA_A, ldB_B, ldS_S, stA_A, stB_B, aL_A, aL_B, aL_S, aC_A, hRd_eq, hRd_ne, cp6, cp8, tl_some, tl_none, List.cons_append, List.nil_append, ofI_t0, ofI_t1, Int.add_zero, Int.zero_add, x67_32, x67_33, x67_34, x67_35, x67_36, x67_37, x67_38]
    refine ⟨fun z => by omega, fun _ => ?_⟩
    refine s_isEarlier (by omega) hU h10 h22 (by omega) (by omega) ?_
    by_cases e : U p < U q
    · rw [if_pos e] at kk ⊢
      simp (disch := omega) only [wr_id, wr_m1, sd_t, nl_I, nl_R, nl_none, c1_I, c1_R, sh_0, sh_1, sh_2, sh_3, sh_4, true_and, and_true, ldA_A, ldB_B, ldS_S, stA_A, stB_B, aL_A, aL_B, aL_S, aC_A, hRd_eq, hRd_ne, cp6, cp8, tl_some, tl_none, List.cons_append, List.nil_append, ofI_t0, ofI_t1, Int.add_zero, Int.zero_add, x67_39, x67_40, x67_41, x67_42, x67_43, x67_44, x67_45, x67_46, x67_47, x67_48, x67_49, x67_50, x67_51, x67_52, x67_53, x67_31, gf9_6, a1, a6, hl2]
      refine ⟨fun z => by omega, fun _ => ⟨by omega, by omega, ?_⟩⟩
      have ow : Out 152 152 h (hWr h 152 (cA 36 (uA pa (p * 6 + q) (pa (p * 6 + q) + 1)))) := Out.refl.wr (by omega) (by omega)
      refine ih (q + 1) _ _ (by omega) (by omega) (by rw [hRd_ne (by omega)]; exact h10) (by rw [hRd_ne (by omega)]; exact h22) ⟨?_, ?_, ?_, a4.out ow (by omega), ?_, hRd_eq, a7.out ow (by omega)⟩ (fun h1 w1 o1 => kk h1 w1 (ow.trans o1)) hl
      · rw [hRd_ne (by omega)]; exact a1
      · rw [hRd_ne (by omega)]; exact a2
      · rw [hRd_ne (by omega)]; exact a3
      · rw [hRd_ne (by omega)]; exact a5
    · rw [if_neg e] at kk ⊢
      simp (disch := omega) only [wr_id, wr_m1, sd_t, nl_I, nl_R, nl_none, c1_I, c1_R, sh_0, sh_1, sh_2, sh_3, sh_4, true_and, and_true, ldA_A, ldB_B, ldS_S, stA_A, stB_B, aL_A, aL_B, aL_S, aC_A, hRd_eq, hRd_ne, cp6, cp8, tl_some, tl_none, List.cons_append, List.nil_append, ofI_t0, ofI_t1, Int.add_zero, Int.zero_add, x67_39, x67_52, x67_53, x67_31, hl2]
      exact ⟨fun _ => ih (q + 1) pa h (by omega) (by omega) h10 h22 hw0 kk hl, fun z => by first | omega | exact absurd trivial z | exact absurd rfl z⟩
theorem l_ctO (hd : 2 ≤ d) (hU : TVF U) (hT : T.length ≤ 6) (ht : 0 ≤ tot ∧ tot ≤ 720) : ∀ (n : Nat) (p : Int) (su pa : Int → Int) (h : LHeap) (l3 l4 : Option Value), (n : Int) = 6 - p → 0 ≤ p → SuB su → hRd h 10 = oCap 11 17 22 23 24 → hRd h 22 = cA 6 (fun q => en (U q)) → WnAt ct ea la T tot su pa h → (∀ h1, WnAt ct ea la T (tot + 1) (ctS T tot n p su) (ctP U n p pa) h1 → Out 146 152 h h1 → hRd h1 147 = hRd h 147 → hRd h1 148 = hRd h 148 → Q none h1) → WPC d 67 3 [some (.ref 146), some (.ref 10), some (vI p), l3, l4] [] h Q := by
  intro n
  induction n with
  | zero =>
    intro p su pa h l3 l4 hn hp hsu h10 h22 hw kk
    obtain ⟨a1, a2, a3, a4, a5, a6, a7⟩ := hw
    rw [WPC_iff]
    simp (disch := omega) only [wr_id, wr_m1, sd_t, nl_I, nl_R, nl_none, c1_I, c1_R, sh_0, sh_1, sh_2, sh_3, sh_4, true_and, and_true, ldA_A, ldB_B, ldS_S, stA_A, stB_B, aL_A, aL_B, aL_S, aC_A, hRd_eq, hRd_ne, cp6, cp8, tl_some, tl_none, List.cons_append, List.nil_append, ofI_t0, ofI_t1, Int.add_zero, Int.zero_add, x67_0, x67_1, x67_2, x67_3, x67_4, x67_5, x67_6, x67_7, x67_8, x67_9, x67_10, x67_11, x67_12, x67_13, x67_14, x67_15, x67_16, x67_17, x67_18, x67_19, x67_20, x67_21, x67_22, x67_23, x67_24, x67_25, x67_26, x67_27, x67_28, x67_29, x67_30, x67_31, x67_32, x67_33, x67_34, x67_35, x67_36, x67_37, x67_38, x67_39, x67_40, x67_41, x67_42, x67_43, x67_44, x67_45, x67_46, x67_47, x67_48, x67_49, x67_50, x67_51, x67_52, x67_53, x67_54, x67_55, x67_56, x67_57, x67_58, x67_59, x67_60, x67_61, x67_62, gf9_3, gf9_5, gf9_4, gf9_6, pf9_4, a1]
    refine ⟨fun _ => ?_, fun z => by omega⟩
    have ow : Out 146 146 h (hWr h 146 (oWin 147 148 ct 149 (tot + 1) 151 152)) := Out.refl.wr (by omega) (by omega)
    refine kk _ ⟨hRd_eq, ?_, ?_, a4.out ow (by omega), ?_, ?_, a7.out ow (by omega)⟩ (ow.widen (by omega) (by omega)) ?_ ?_
    · rw [hRd_ne (by omega)]; exact a2
    · rw [hRd_ne (by omega)]; exact a3
    · rw [hRd_ne (by omega)]; exact a5
    · rw [hRd_ne (by omega)]; exact a6
    · rw [hRd_ne (by omega)]
    · rw [hRd_ne (by omega)]
  | succ n ih =>
    intro p su pa h l3 l4 hn hp hsu h10 h22 hw kk
    rw [ctS, ctP] at kk
    obtain ⟨a1, a2, a3, a4, a5, a6, a7⟩ := hw
    have hg := pfrom_ge T p 0 (by omega)
    have hsp := hsu p
    rw [WPC_iff]
    simp (disch := omega) only [wr_id, wr_m1, sd_t, nl_I, nl_R, nl_none, c1_I, c1_R, sh_0, sh_1, sh_2, sh_3, sh_4, true_and, and_true, ldA_A, ldB_B, ldS_S, stA_A, stB_B, aL_A, aL_B, aL_S, aC_A, hRd_eq, hRd_ne, cp6, cp8, tl_some, tl_none, List.cons_append, List.nil_append, ofI_t0, ofI_t1, Int.add_zero, Int.zero_add, x67_3, x67_4, x67_5, x67_6, x67_7, x67_8, x67_9, gf9_3, a1]
    refine ⟨fun z => by omega, fun _ => ?_⟩
    refine p_placeOf (by omega) a4 (by omega) (by omega) ?_
    -- behind the store of what is sure
    have rest : ∀ x : Int, x = (if tot = 0 ∨ su p = pfrom T p 0 then pfrom T p 0 else -1) → WP d 67 26 [some (.ref 146), some (.ref 10), some (vI p), some (vI (pfrom T p 0)), l4] [vI x, vI p, .ref 151] h Q := by
      intro x hx
      simp (disch := omega) only [wr_id, wr_m1, sd_t, nl_I, nl_R, nl_none, c1_I, c1_R, sh_0, sh_1, sh_2, sh_3, sh_4, true_and, and_true, ldA_A, ldB_B, ldS_S, stA_A, stB_B, aL_A, aL_B, aL_S, aC_A, hRd_eq, hRd_ne, cp6, cp8, tl_some, tl_none, List.cons_append, List.nil_append, ofI_t0, ofI_t1, Int.add_zero, Int.zero_add, x67_26, x67_27, x67_28, x67_29, x67_30, x67_31, a5]
      refine ⟨⟨by omega, by omega, by omega⟩, ?_⟩
      have ow : Out 151 151 h (hWr h 151 (cA 6 (uA su p x))) := Out.refl.wr (by omega) (by omega)
      rw [← hx] at kk
      refine l_ctI (ct := ct) (ea := ea) (la := la) (tot := tot) (su := uA su p x) (T := T) hd hU ⟨hp, by omega⟩ n (p + 1) pa _ (by omega) (by omega) (by rw [hRd_ne (by omega)]; exact h10) (by rw [hRd_ne (by omega)]; exact h22) ⟨?_, ?_, ?_, a4.out ow (by omega), hRd_eq, ?_, a7.out ow (by omega)⟩ (fun h1 w1 o1 => ?_) (of_eq_true (nl_I _))
      · rw [hRd_ne (by omega)]; exact a1
      · rw [hRd_ne (by omega)]; exact a2
      · rw [hRd_ne (by omega)]; exact a3
      · rw [hRd_ne (by omega)]; exact a6
      · simp (disch := omega) only [wr_id, wr_m1, sd_t, nl_I, nl_R, nl_none, c1_I, c1_R, sh_0, sh_1, sh_2, sh_3, sh_4, true_and, and_true, ldA_A, ldB_B, ldS_S, stA_A, stB_B, aL_A, aL_B, aL_S, aC_A, hRd_eq, hRd_ne, cp6, cp8, tl_some, tl_none, List.cons_append, List.nil_append, ofI_t0, ofI_t1, Int.add_zero, Int.zero_add, x67_54, x67_55, x67_2]
        have o2 : Out 151 152 h h1 := (ow.widen (by omega) (by omega)).trans (o1.widen (by omega) (by omega))
        refine ih (p + 1) _ _ h1 _ _ (by omega) (by omega) (fun q => ?_) (by rw [o2.2.2 _ (by omega)]; exact h10) (by rw [o2.2.2 _ (by omega)]; exact h22) w1 (fun h2 w2 o3 e1 e2 => kk h2 w2 ((o2.widen (by omega) (by omega)).trans o3) (e1.trans (o2.2.2 _ (by omega))) (e2.trans (o2.2.2 _ (by omega))))
        unfold uA
        split
        · rw [hx]
          split <;> omega
        · exact hsu q
    simp (disch := omega) only [wr_id, wr_m1, sd_t, nl_I, nl_R, nl_none, c1_I, c1_R, sh_0, sh_1, sh_2, sh_3, sh_4, true_and, and_true, ldA_A, ldB_B, ldS_S, stA_A, stB_B, aL_A, aL_B, aL_S, aC_A, hRd_eq, hRd_ne, cp6, cp8, tl_some, tl_none, List.cons_append, List.nil_append, ofI_t0, ofI_t1, Int.add_zero, Int.zero_add, x67_10, x67_11, x67_12, x67_13, x67_14, x67_15, x67_16, x67_17, x67_18, x67_19, x67_20, x67_21, x67_22, x67_23, x67_24, x67_25, gf9_4, gf9_5, a1, a5]
    refine ⟨fun z => rest _ ?_, fun z => ⟨by omega, fun z2 => rest _ ?_, fun z2 => rest _ ?_⟩⟩
    · rw [if_pos (Or.inl z)]
    · rw [if_neg (by omega)]
    · rw [if_pos (Or.inr (by omega))]
theorem s_countTrial (hd : 3 ≤ d) (hU : TVF U) (hT : T.length ≤ 6) (ht : 0 ≤ tot ∧ tot ≤ 720) (hsu : SuB su) (h10 : hRd h 10 = oCap 11 17 22 23 24) (h22 : hRd h 22 = cA 6 (fun q => en (U q))) (hw : WnAt ct ea la T tot su pa h) (kk : ∀ h1, WnAt ct ea la T (tot + 1) (ctS T tot 6 0 su) (ctP U 6 0 pa) h1 → Out 146 152 h h1 → hRd h1 147 = hRd h 147 → hRd h1 148 = hRd h 148 → Q none h1) : CALL d 67 [.ref 146, .ref 10] h Q := by
  refine cl67 (by omega) hw.1 ?_
  simp (disch := omega) only [wr_id, wr_m1, sd_t, nl_I, nl_R, nl_none, c1_I, c1_R, sh_0, sh_1, sh_2, sh_3, sh_4, true_and, and_true, ldA_A, ldB_B, ldS_S, stA_A, stB_B, aL_A, aL_B, aL_S, aC_A, hRd_eq, hRd_ne, cp6, cp8, tl_some, tl_none, List.cons_append, List.nil_append, ofI_t0, ofI_t1, Int.add_zero, Int.zero_add, x67_0, x67_1, x67_2]
  exact l_ctO (by omega) hU hT ht 6 0 su pa h none none (by omega) (by omega) hsu h10 h22 hw kk
end

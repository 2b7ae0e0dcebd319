-- THE ROW, and what else is small
/-- the cells f, m of them, are the list L of persons -/
def RI (f : Int → Int) (m : Int) (L : List Int) : Prop := m = (L.length : Int) ∧ L.length ≤ 6 ∧ (∀ (i : Nat) (x : Int), L[i]? = some x → f (i : Int) = x) ∧ ∀ x ∈ L, 0 ≤ x ∧ x ≤ 5
theorem RI.at {f : Int → Int} {m a : Int} {pre S : List Int} (h : RI f m (pre ++ a :: S)) : f (pre.length : Int) = a ∧ 0 ≤ a ∧ a ≤ 5 ∧ m = (pre.length : Int) + 1 + (S.length : Int) ∧ m ≤ 6 := by
  obtain ⟨h1, h2, h3, h4⟩ := h
  have e := h3 pre.length a (by simp)
  have e2 := h4 a (by simp)
  simp only [List.length_append, List.length_cons] at h1 h2
  exact ⟨e, e2.1, e2.2, by omega, by omega⟩
theorem RI.end {f : Int → Int} {m : Int} {pre : List Int} (h : RI f m (pre ++ [])) : m = (pre.length : Int) ∧ m ≤ 6 := by
  obtain ⟨h1, h2, -, -⟩ := h
  simp only [List.append_nil] at h1 h2
  exact ⟨h1, by omega⟩
theorem RI.len {f : Int → Int} {m : Int} {L : List Int} (h : RI f m L) : m = (L.length : Int) ∧ 0 ≤ m ∧ m ≤ 6 := ⟨h.1, by have := h.1; omega, by have := h.1; have := h.2.1; omega⟩
theorem RI.snoc {f : Int → Int} {m a : Int} {pre S : List Int} (h : RI f m (pre ++ a :: S)) : RI f m ((pre ++ [a]) ++ S) := by
  rw [List.append_assoc]
  exact h
theorem RI.get {f : Int → Int} {m i : Int} {L : List Int} (h : RI f m L) (h0 : 0 ≤ i) (h1 : i < m) : 0 ≤ f i ∧ f i ≤ 5 ∧ L[i.toNat]? = some (f i) := by
  obtain ⟨e1, e2, e3, e4⟩ := h
  have hl : i.toNat < L.length := by omega
  have e5 := List.getElem?_eq_getElem hl
  have e6 := e3 _ _ e5
  rw [show ((i.toNat : Nat) : Int) = i by omega] at e6
  have e7 := e4 _ (List.mem_of_getElem? e5)
  rw [e6]
  exact ⟨e7.1, e7.2, e5⟩
theorem RI.mk {f : Int → Int} {m : Int} {L : List Int} (h1 : m = (L.length : Int)) (h2 : L.length ≤ 6) (h3 : ∀ i : Int, 0 ≤ i → i < m → L[i.toNat]? = some (f i)) (h4 : ∀ x ∈ L, 0 ≤ x ∧ x ≤ 5) : RI f m L := by
  refine ⟨h1, h2, fun i x hx => ?_, h4⟩
  have hl := (List.getElem?_eq_some_iff.mp hx).1
  have := h3 (i : Int) (by omega) (by omega)
  rw [show ((i : Int)).toNat = i by omega, hx] at this
  exact (Option.some.inj this).symm
/-- the first place of p, from i on -/
def pfrom : List Int → Int → Int → Int
  | [], _, _ => -1
  | a :: L, p, i => if a = p then i else pfrom L p (i + 1)
section
variable {d r c a n : Nat} {h : LHeap} {Q : Option Value → LHeap → Prop} {f : Int → Int} {i p m : Int} {L : List Int}
theorem s_valueAt (hd : 1 ≤ d) (hc : hRd h a = cA n f) (hn : n ≤ 1000) (h1 : -2147483648 ≤ i) (h2 : i ≤ 2147483647) (kk : Q (some (vI (if 0 ≤ i ∧ i < n then f i else -1))) h) : CALL d 107 [.ref a, vI i] h Q := by
  refine cl107 (by omega) ?_
  simp (disch := omega) only [wr_id, wr_m1, sd_t, nl_I, nl_R, nl_none, c1_I, c1_R, sh_0, sh_1, sh_2, sh_3, sh_4, true_and, and_true, ldA_A, ldB_B, ldS_S, stA_A, stB_B, aL_A, aL_B, aL_S, aC_A, hRd_eq, hRd_ne, cp6, cp8, tl_some, tl_none, List.cons_append, List.nil_append, ofI_t0, ofI_t1, Int.add_zero, Int.zero_add, x107_0, x107_1, x107_2, x107_3, x107_4, x107_5, x107_6, x107_7, x107_8, x107_9, x107_10, x107_11, hc]
  repeat' (first | (refine ⟨?_, ?_⟩) | intro _)
  all_goals first
    | omega
    | exact kk
    | (rw [if_pos (by omega)] at kk; exact kk)
    | (rw [if_neg (by omega)] at kk; exact kk)
theorem s_holds (hd : 1 ≤ d) (hc : hRd h a = cA n f) (hn : n ≤ 1000) (h1 : -2147483648 ≤ i) (h2 : i ≤ 2147483647) (kk : Q (some (vI (if 0 ≤ i ∧ i < n then 1 else 0))) h) : CALL d 106 [.ref a, vI i] h Q := by
  refine cl106 (by omega) ?_
  simp (disch := omega) only [wr_id, wr_m1, sd_t, nl_I, nl_R, nl_none, c1_I, c1_R, sh_0, sh_1, sh_2, sh_3, sh_4, true_and, and_true, ldA_A, ldB_B, ldS_S, stA_A, stB_B, aL_A, aL_B, aL_S, aC_A, hRd_eq, hRd_ne, cp6, cp8, tl_some, tl_none, List.cons_append, List.nil_append, ofI_t0, ofI_t1, Int.add_zero, Int.zero_add, x106_0, x106_1, x106_2, x106_3, x106_4, x106_5, x106_6, x106_7, x106_8, x106_9, hc]
  repeat' (first | (refine ⟨?_, ?_⟩) | intro _)
  all_goals first
    | omega
    | exact kk
    | (rw [if_pos (by omega)] at kk; exact kk)
    | (rw [if_neg (by omega)] at kk; exact kk)
theorem s_laterOf {x y : Int} (hd : 2 ≤ d) (h1 : -1 ≤ x) (h2 : x ≤ 1000) (h3 : -1 ≤ y) (h4 : y ≤ 1000) (kk : Q (some (vI (if x = -1 ∨ y = -1 then -1 else if x < y then y else x))) h) : CALL d 108 [vI x, vI y] h Q := by
  refine cl108 (by omega) ?_
  simp (disch := omega) only [wr_id, wr_m1, sd_t, nl_I, nl_R, nl_none, c1_I, c1_R, sh_0, sh_1, sh_2, sh_3, sh_4, true_and, and_true, ldA_A, ldB_B, ldS_S, stA_A, stB_B, aL_A, aL_B, aL_S, aC_A, hRd_eq, hRd_ne, cp6, cp8, tl_some, tl_none, List.cons_append, List.nil_append, ofI_t0, ofI_t1, Int.add_zero, Int.zero_add, x108_0, x108_1, x108_2, x108_3, x108_4, x108_5, x108_6, x108_7, x108_8, x108_9, x108_10, x108_11]
  repeat' (first | (refine ⟨?_, ?_⟩) | intro _)
  all_goals first
    | (rw [if_pos (by omega)] at kk; exact kk)
    | (rw [if_neg (by omega)] at kk; exact kk)
theorem s_Row_at (hd : 2 ≤ d) (hr : hRd h r = oRow c m) (hc : hRd h c = cA 6 f) (hm0 : 0 ≤ m) (hm : m ≤ 6) (h1 : -2147483648 ≤ i) (h2 : i ≤ 2147483647) (kk : Q (some (vI (if 0 ≤ i ∧ i < m then f i else -1))) h) : CALL d 44 [.ref r, vI i] h Q := by
  refine cl44 (by omega) hr ?_
  simp (disch := omega) only [wr_id, wr_m1, sd_t, nl_I, nl_R, nl_none, c1_I, c1_R, sh_0, sh_1, sh_2, sh_3, sh_4, true_and, and_true, ldA_A, ldB_B, ldS_S, stA_A, stB_B, aL_A, aL_B, aL_S, aC_A, hRd_eq, hRd_ne, cp6, cp8, tl_some, tl_none, List.cons_append, List.nil_append, ofI_t0, ofI_t1, Int.add_zero, Int.zero_add, x44_0, x44_1, x44_2, x44_3, x44_4, x44_5, x44_6, x44_7, x44_8, x44_9, x44_10, gf6_1, gf6_0, hr, hc]
  refine ⟨fun q => ?_, fun q => ?_⟩
  · rw [if_neg (by omega)] at kk
    exact kk
  · refine s_valueAt (by omega) hc (by omega) h1 h2 ?_
    simp (disch := omega) only [wr_id, wr_m1, sd_t, nl_I, nl_R, nl_none, c1_I, c1_R, sh_0, sh_1, sh_2, sh_3, sh_4, true_and, and_true, ldA_A, ldB_B, ldS_S, stA_A, stB_B, aL_A, aL_B, aL_S, aC_A, hRd_eq, hRd_ne, cp6, cp8, tl_some, tl_none, List.cons_append, List.nil_append, ofI_t0, ofI_t1, Int.add_zero, Int.zero_add, x44_0, x44_1, x44_2, x44_3, x44_4, x44_5, x44_6, x44_7, x44_8, x44_9, x44_10, gf6_1, gf6_0]
    by_cases q2 : 0 ≤ i
    · rw [if_pos (by omega)] at kk ⊢
      exact kk
    · rw [if_neg (by omega)] at kk ⊢
      exact kk
theorem l_placeOf (hr : hRd h r = oRow c m) (hc : hRd h c = cA 6 f) (h1 : -2147483648 ≤ p) (h2 : p ≤ 2147483647) : ∀ (S pre : List Int) (i : Int), RI f m (pre ++ S) → i = (pre.length : Int) → Q (some (vI (pfrom S p i))) h → WPC d 45 3 [some (.ref r), some (vI p), some (vI i)] [] h Q := by
  intro S
  induction S with
  | nil =>
    intro pre i hR hi kk
    have := hR.end
    rw [WPC_iff]
    simp (disch := omega) only [wr_id, wr_m1, sd_t, nl_I, nl_R, nl_none, c1_I, c1_R, sh_0, sh_1, sh_2, sh_3, sh_4, true_and, and_true, ldA_A, ldB_B, ldS_S, stA_A, stB_B, aL_A, aL_B, aL_S, aC_A, hRd_eq, hRd_ne, cp6, cp8, tl_some, tl_none, List.cons_append, List.nil_append, ofI_t0, ofI_t1, Int.add_zero, Int.zero_add, x45_0, x45_1, x45_2, x45_3, x45_4, x45_5, x45_6, x45_7, x45_8, x45_9, x45_10, x45_11, x45_12, x45_13, x45_14, x45_15, x45_16, x45_17, x45_18, x45_19, x45_20, x45_21, x45_22, x45_23, gf6_1, gf6_0, hr, hc]
    exact ⟨fun _ => kk, fun q => by omega⟩
  | cons a S ih =>
    intro pre i hR hi kk
    have e := hR.at
    rw [← hi] at e
    rw [WPC_iff]
    simp (disch := omega) only [wr_id, wr_m1, sd_t, nl_I, nl_R, nl_none, c1_I, c1_R, sh_0, sh_1, sh_2, sh_3, sh_4, true_and, and_true, ldA_A, ldB_B, ldS_S, stA_A, stB_B, aL_A, aL_B, aL_S, aC_A, hRd_eq, hRd_ne, cp6, cp8, tl_some, tl_none, List.cons_append, List.nil_append, ofI_t0, ofI_t1, Int.add_zero, Int.zero_add, x45_0, x45_1, x45_2, x45_3, x45_4, x45_5, x45_6, x45_7, x45_8, x45_9, x45_10, x45_11, x45_12, x45_13, x45_14, x45_15, x45_16, x45_17, x45_18, x45_19, x45_20, x45_21, x45_22, x45_23, gf6_1, gf6_0, hr, hc, e.1]
    refine ⟨fun q => by omega, fun _ => ⟨fun q => by omega, fun _ => ⟨by omega, fun q => ?_, fun q => ?_⟩⟩⟩
    · refine ih (pre ++ [a]) (i + 1) hR.snoc (by simp; omega) ?_
      rw [pfrom, if_neg q] at kk
      exact kk
    · rw [pfrom, if_pos (by omega)] at kk
      exact kk
theorem s_placeOf (hd : 1 ≤ d) (hr : hRd h r = oRow c m) (hc : hRd h c = cA 6 f) (hR : RI f m L) (h1 : -2147483648 ≤ p) (h2 : p ≤ 2147483647) (kk : Q (some (vI (pfrom L p 0))) h) : CALL d 45 [.ref r, vI p] h Q := by
  refine cl45 (by omega) hr ?_
  simp (disch := omega) only [wr_id, wr_m1, sd_t, nl_I, nl_R, nl_none, c1_I, c1_R, sh_0, sh_1, sh_2, sh_3, sh_4, true_and, and_true, ldA_A, ldB_B, ldS_S, stA_A, stB_B, aL_A, aL_B, aL_S, aC_A, hRd_eq, hRd_ne, cp6, cp8, tl_some, tl_none, List.cons_append, List.nil_append, ofI_t0, ofI_t1, Int.add_zero, Int.zero_add, x45_0, x45_1, x45_2, x45_3, x45_4, x45_5, x45_6, x45_7, x45_8, x45_9, x45_10, x45_11, x45_12, x45_13, x45_14, x45_15, x45_16, x45_17, x45_18, x45_19, x45_20, x45_21, x45_22, x45_23, gf6_1, gf6_0, hr, hc]
  exact l_placeOf hr hc h1 h2 L [] 0 hR rfl kk
end

-- TRIALS
/-- the same but for the trials' and the reckoner's cells -/
def OT (h h1 : LHeap) : Prop := h1.1 = h.1 ∧ h1.2.1 = h.2.1 ∧ ∀ a, (a < 22 ∨ (24 < a ∧ a < 141) ∨ 145 < a) → hRd h1 a = hRd h a
theorem OT.refl {h : LHeap} : OT h h := ⟨rfl, rfl, fun _ _ => rfl⟩
theorem OT.out {lo hi : Nat} {h h1 h2 : LHeap} (o : OT h h1) (b : Out lo hi h1 h2) (e : (22 ≤ lo ∧ hi ≤ 24) ∨ (141 ≤ lo ∧ hi ≤ 145)) : OT h h2 := ⟨b.1.trans o.1, b.2.1.trans o.2.1, fun q hq => (b.2.2 q (by omega)).trans (o.2.2 q hq)⟩
theorem OT.wr {a : Nat} {h h1 : LHeap} {c : LCell} (o : OT h h1) (e : (22 ≤ a ∧ a ≤ 24) ∨ (141 ≤ a ∧ a ≤ 145)) : OT h (hWr h1 a c) := ⟨o.1, o.2.1, fun q hq => by rw [hRd_ne (by omega)]; exact o.2.2 q hq⟩
theorem CapH.ot {h h1 : LHeap} {M P J : Int} {wk wt dr tk bh : Int → Int} (hc : CapH h M P J wk wt dr tk bh) (o : OT h h1) : CapH h1 M P J wk wt dr tk bh := by
  obtain ⟨a1, a2, ⟨sh, mo, a3⟩, a4, a5, a6, a7, a8⟩ := hc
  exact ⟨by rw [o.2.2 _ (by omega)]; exact a1, by rw [o.2.2 _ (by omega)]; exact a2, ⟨sh, mo, by rw [o.2.2 _ (by omega)]; exact a3⟩, by rw [o.2.2 _ (by omega)]; exact a4, by rw [o.2.2 _ (by omega)]; exact a5, by rw [o.2.2 _ (by omega)]; exact a6, by rw [o.2.2 _ (by omega)]; exact a7, by rw [o.2.2 _ (by omega)]; exact a8⟩
theorem Rw.ot {r : Nat} {L : List Int} {h h1 : LHeap} (hr : Rw r L h) (o : OT h h1) (e : r + 1 < 22) : Rw r L h1 := by
  obtain ⟨f, a1, a2, a3⟩ := hr
  exact ⟨f, by rw [o.2.2 _ (by omega)]; exact a1, by rw [o.2.2 _ (by omega)]; exact a2, a3⟩
/-- the trials' own cells: the order that is tried, the best one -/
def TrAt (T B : List Int) (fw bp ha : Int) (h : LHeap) : Prop := hRd h 141 = oTri 142 144 fw bp ha ∧ Rw 142 T h ∧ Rw 144 B h ∧ Scr h
def Prs (P : Int) (L : List Int) : Prop := ∀ x ∈ L, 0 ≤ x ∧ x < P
def PX (X : Int → Prop) (f : Int → Int) (m : Int) : Prop := ∀ i, 0 ≤ i → i < m → X (f i)
theorem swF_px {X : Int → Prop} {f : Int → Int} {m a b : Int} (h : PX X f m) (ha : 0 ≤ a ∧ a < m) (hb : 0 ≤ b ∧ b < m) : PX X (swF f a b) m := by
  intro i h0 h1
  unfold swF uA
  split
  · exact h a ha.1 ha.2
  · split
    · exact h b hb.1 hb.2
    · exact h i h0 h1
theorem rvF_px {X : Int → Prop} : ∀ (n : Nat) {f : Int → Int} {m a b : Int}, PX X f m → 0 ≤ a → b < m → PX X (rvF n f a b) m := by
  intro n
  induction n with
  | zero => intro f m a b h h0 h1; exact h
  | succ n ih =>
    intro f m a b h h0 h1
    rw [rvF]
    by_cases q : a < b
    · rw [if_pos q]
      exact ih (swF_px h (by omega) (by omega)) (by omega) (by omega)
    · rw [if_neg q]
      exact h
theorem nxF_px {X : Int → Prop} {f : Int → Int} {m : Int} (h : PX X f m) (h0 : 0 ≤ nxK f m) : PX X (nxF f m) m := by
  have hb := nxK_b f m
  have hj := jSr_le 7 f (nxK f m) (m - 1)
  unfold nxF
  exact rvF_px 7 (swF_px h (by omega) (by omega)) (by omega) (by omega)
theorem nxtL_mem {L L1 : List Int} (h : nxtL L = some L1) : L1.length = L.length ∧ ∀ x ∈ L1, x ∈ L := by
  unfold nxtL at h
  split at h
  · cases h
  · rename_i hk
    have h := Option.some.inj h
    subst h
    refine ⟨by simp, fun x hx => ?_⟩
    obtain ⟨i, hi, rfl⟩ := List.mem_map.mp hx
    have hi := List.mem_range.mp hi
    have hp : PX (fun x => x ∈ L) (fL L) L.length := fun j h0 h1 => by
      unfold fL
      have hl : j.toNat < L.length := by omega
      rw [List.getD_eq_getElem?_getD, List.getElem?_eq_getElem hl]
      exact List.getElem_mem hl
    exact nxF_px hp (by omega) (i : Int) (by omega) (by omega)
/-- RAISE, over the orders one behind the other: the fewest, the best -/
def rsF (M J sh : Int) (wk wt dr tk bh : Int → Int) (O : List Int) (jobs t : Int) : Nat → List Int → Int → List Int → Int × List Int
  | 0, _, fw, B => (fw, B)
  | n + 1, T, fw, B =>
    if (fw = -1 ∨ raisF O T 0 0 < fw) ∧ adF (recD M J sh wk wt dr tk bh T) jobs t 8 0 = 1 then
      (match nxtL T with
      | none => (raisF O T 0 0, T)
      | some T1 => rsF M J sh wk wt dr tk bh O jobs t n T1 (raisF O T 0 0) T)
    else
      (match nxtL T with
      | none => (fw, B)
      | some T1 => rsF M J sh wk wt dr tk bh O jobs t n T1 fw B)
theorem adF_01 (D : Int → Int) (jobs t : Int) : ∀ (n : Nat) (j : Int), adF D jobs t n j = 0 ∨ adF D jobs t n j = 1 := by
  intro n
  induction n with
  | zero => intro j; exact Or.inr rfl
  | succ n ih =>
    intro j
    rw [adF]
    split
    · exact Or.inl rfl
    · exact ih _
theorem raisF_b (O : List Int) : ∀ (L : List Int) (i n : Int), n ≤ raisF O L i n ∧ raisF O L i n ≤ n + (L.length : Int) := by
  intro L
  induction L with
  | nil => intro i n; simp [raisF]
  | cons p L ih =>
    intro i n
    rw [raisF]
    simp only [List.length_cons]
    split
    · have := ih (i + 1) (n + 1); omega
    · have := ih (i + 1) n; omega
section
variable {d : Nat} {h h0 : LHeap} {Q : Option Value → LHeap → Prop} {wk wt dr tk bh : Int → Int} {M P J sh mo p fw bp ha : Int} {L T B : List Int}
theorem Rw.len {r : Nat} (hr : Rw r L h) : L.length ≤ 6 := by
  obtain ⟨f, a1, a2, a3⟩ := hr
  exact a3.2.1
theorem Rw.nx {r : Nat} {L1 : List Int} (hr : Rw r L h) (e : nxtL L = some L1) : L1.length = L.length ∧ ∀ x ∈ L1, x ∈ L := by
  exact nxtL_mem e
theorem p_trialDoes {jobs t : Int} (hd : 6 ≤ d) (hC : CapH h M P J wk wt dr tk bh) (h17 : hRd h 17 = oState 18 20 21 sh mo) (hB : CapB M P J wk wt dr tk bh) (hT : TrAt T B fw bp ha h) (hL : Prs P T) (ht : 0 ≤ t ∧ t ≤ 999) (kk : ∀ h1, TrAt T B fw bp ha h1 → Out 22 24 h h1 → Q (some (vI (adF (recD M J sh wk wt dr tk bh T) jobs t 8 0))) h1) : CALL d 59 [.ref 141, .ref 10, vI jobs, vI t] h Q := by
  obtain ⟨a1, a2, a3, a4⟩ := hT
  have h10 := hC.1
  refine cl59 (by omega) a1 ?_
  simp (disch := omega) only [wr_id, wr_m1, sd_t, nl_I, nl_R, nl_none, c1_I, c1_R, sh_0, sh_1, sh_2, sh_3, sh_4, true_and, and_true, ldA_A, ldB_B, ldS_S, stA_A, stB_B, aL_A, aL_B, aL_S, aC_A, hRd_eq, hRd_ne, cp6, cp8, tl_some, tl_none, List.cons_append, List.nil_append, ofI_t0, ofI_t1, Int.add_zero, Int.zero_add, x59_0, x59_1, x59_2, x59_3, x59_4, x59_5, x59_6, x59_7, x59_8, x59_9, x59_10, x59_11, gf8_0, gf1_1, gf7_3, a1, h10, h17]
  refine p_reckon (by omega) hC hB a4 a2 (by omega) (fun x hx => (hL x hx).2) (fun h1 e22 e23 hs o => ?_)
  have h10b : hRd h1 10 = oCap 11 17 22 23 24 := by rw [o.2.2 _ (by omega)]; exact h10
  simp (disch := omega) only [wr_id, wr_m1, sd_t, nl_I, nl_R, nl_none, c1_I, c1_R, sh_0, sh_1, sh_2, sh_3, sh_4, true_and, and_true, ldA_A, ldB_B, ldS_S, stA_A, stB_B, aL_A, aL_B, aL_S, aC_A, hRd_eq, hRd_ne, cp6, cp8, tl_some, tl_none, List.cons_append, List.nil_append, ofI_t0, ofI_t1, Int.add_zero, Int.zero_add, x59_0, x59_1, x59_2, x59_3, x59_4, x59_5, x59_6, x59_7, x59_8, x59_9, x59_10, x59_11, gf8_0, gf1_1, gf7_3]
  refine s_allDone (by omega) (TVF_recD hB hL) h10b e23 ht ?_
  simp (disch := omega) only [wr_id, wr_m1, sd_t, nl_I, nl_R, nl_none, c1_I, c1_R, sh_0, sh_1, sh_2, sh_3, sh_4, true_and, and_true, ldA_A, ldB_B, ldS_S, stA_A, stB_B, aL_A, aL_B, aL_S, aC_A, hRd_eq, hRd_ne, cp6, cp8, tl_some, tl_none, List.cons_append, List.nil_append, ofI_t0, ofI_t1, Int.add_zero, Int.zero_add, x59_0, x59_1, x59_2, x59_3, x59_4, x59_5, x59_6, x59_7, x59_8, x59_9, x59_10, x59_11, gf8_0, gf1_1, gf7_3]
  exact ⟨ofI_01 (adF_01 _ _ _ _ _), kk h1 ⟨by rw [o.2.2 _ (by omega)]; exact a1, a2.out o (by omega), a3.out o (by omega), hs⟩ o⟩
theorem l_tryR {jobs t : Int} (hd : 6 ≤ d) (hC : CapH h0 M P J wk wt dr tk bh) (h17 : hRd h0 17 = oState 18 20 21 sh mo) (hB : CapB M P J wk wt dr tk bh) (hL : Rw 18 L h0) (ht : 0 ≤ t ∧ t ≤ 999) : ∀ (n : Nat) (k : Int) (T B : List Int) (fw : Int) (h : LHeap) (l6 : Option Value), (n : Int) = 720 - k → 0 ≤ k → Prs P T → -1 ≤ fw → fw ≤ 6 → TrAt T B fw bp ha h → OT h0 h → (∀ h1, (∃ T1, TrAt T1 (rsF M J sh wk wt dr tk bh L jobs t n T fw B).2 (rsF M J sh wk wt dr tk bh L jobs t n T fw B).1 bp ha h1) → OT h0 h1 → Q none h1) → WPC d 58 15 [some (.ref 141), some (.ref 10), some (vI jobs), some (vI t), some (.ref 18), some (vI k), l6] [] h Q := by
  intro n
  induction n with
  | zero =>
    intro k T B fw h l6 hn hk hP hf0 hf1 hT o kk
    rw [WPC_iff]
    simp (disch := omega) only [wr_id, wr_m1, sd_t, nl_I, nl_R, nl_none, c1_I, c1_R, sh_0, sh_1, sh_2, sh_3, sh_4, true_and, and_true, ldA_A, ldB_B, ldS_S, stA_A, stB_B, aL_A, aL_B, aL_S, aC_A, hRd_eq, hRd_ne, cp6, cp8, tl_some, tl_none, List.cons_append, List.nil_append, ofI_t0, ofI_t1, Int.add_zero, Int.zero_add, x58_0, x58_1, x58_2, x58_3, x58_4, x58_5, x58_6, x58_7, x58_8, x58_9, x58_10, x58_11, x58_12, x58_13, x58_14, x58_15, x58_16, x58_17, x58_18, x58_19, x58_20, x58_21, x58_22, x58_23, x58_24, x58_25, x58_26, x58_27, x58_28, x58_29, x58_30, x58_31, x58_32, x58_33, x58_34, x58_35, x58_36, x58_37, x58_38, x58_39, x58_40, x58_41, x58_42, x58_43, x58_44, x58_45, x58_46, x58_47, x58_48, x58_49, x58_50, x58_51, x58_52, gf1_1, gf7_0, pf8_2, gf8_0, gf8_2, gf8_1]
    exact ⟨fun _ => kk h ⟨T, hT⟩ o, fun q => by omega⟩
  | succ n ih =>
    intro k T B fw h l6 hn hk hP hf0 hf1 hT o kk
    have hT0 := hT
    obtain ⟨a1, a2, a3, a4⟩ := hT
    have hr18 := hL.ot o (by omega)
    have hCh := hC.ot o
    have h17h : hRd h 17 = oState 18 20 21 sh mo := by rw [o.2.2 _ (by omega)]; exact h17
    have hrb := raisF_b L T 0 0
    have hlen := a2.len
    rw [WPC_iff]
    simp (disch := omega) only [wr_id, wr_m1, sd_t, nl_I, nl_R, nl_none, c1_I, c1_R, sh_0, sh_1, sh_2, sh_3, sh_4, true_and, and_true, ldA_A, ldB_B, ldS_S, stA_A, stB_B, aL_A, aL_B, aL_S, aC_A, hRd_eq, hRd_ne, cp6, cp8, tl_some, tl_none, List.cons_append, List.nil_append, ofI_t0, ofI_t1, Int.add_zero, Int.zero_add, x58_0, x58_1, x58_2, x58_3, x58_4, x58_5, x58_6, x58_7, x58_8, x58_9, x58_10, x58_11, x58_12, x58_13, x58_14, x58_15, x58_16, x58_17, x58_18, x58_19, x58_20, x58_21, x58_22, x58_23, x58_24, x58_25, x58_26, x58_27, x58_28, x58_29, x58_30, x58_31, x58_32, x58_33, x58_34, x58_35, x58_36, x58_37, x58_38, x58_39, x58_40, x58_41, x58_42, x58_43, x58_44, x58_45, x58_46, x58_47, x58_48, x58_49, x58_50, x58_51, x58_52, gf1_1, gf7_0, pf8_2, gf8_0, gf8_2, gf8_1, a1]
    refine ⟨fun q => by omega, fun _ => ?_⟩
    refine p_raised (by omega) a2 hr18 ?_
    -- from the turn to the next order on
    have turn : ∀ (h2 : LHeap) (fw2 : Int) (B2 : List Int) , -1 ≤ fw2 → fw2 ≤ 6 → TrAt T B2 fw2 bp ha h2 → OT h0 h2 → (∀ h1, (∃ T1, TrAt T1 ((match nxtL T with | none => (fw2, B2) | some T1 => rsF M J sh wk wt dr tk bh L jobs t n T1 fw2 B2) : Int × List Int).2 ((match nxtL T with | none => (fw2, B2) | some T1 => rsF M J sh wk wt dr tk bh L jobs t n T1 fw2 B2) : Int × List Int).1 bp ha h1) → OT h0 h1 → Q none h1) → WP d 58 45 [some (.ref 141), some (.ref 10), some (vI jobs), some (vI t), some (.ref 18), some (vI k), some (vI (raisF L T 0 0))] [] h2 Q := by
      intro h2 fw2 B2 q0 q1 hT2 o2 k2
      have hT20 := hT2
      obtain ⟨b1, b2, b3, b4⟩ := hT2
      simp (disch := omega) only [wr_id, wr_m1, sd_t, nl_I, nl_R, nl_none, c1_I, c1_R, sh_0, sh_1, sh_2, sh_3, sh_4, true_and, and_true, ldA_A, ldB_B, ldS_S, stA_A, stB_B, aL_A, aL_B, aL_S, aC_A, hRd_eq, hRd_ne, cp6, cp8, tl_some, tl_none, List.cons_append, List.nil_append, ofI_t0, ofI_t1, Int.add_zero, Int.zero_add, x58_0, x58_1, x58_2, x58_3, x58_4, x58_5, x58_6, x58_7, x58_8, x58_9, x58_10, x58_11, x58_12, x58_13, x58_14, x58_15, x58_16, x58_17, x58_18, x58_19, x58_20, x58_21, x58_22, x58_23, x58_24, x58_25, x58_26, x58_27, x58_28, x58_29, x58_30, x58_31, x58_32, x58_33, x58_34, x58_35, x58_36, x58_37, x58_38, x58_39, x58_40, x58_41, x58_42, x58_43, x58_44, x58_45, x58_46, x58_47, x58_48, x58_49, x58_50, x58_51, x58_52, gf1_1, gf7_0, pf8_2, gf8_0, gf8_2, gf8_1, b1]
      refine p_advance (by omega) b2 (fun e => ?_) (fun T1 e h3 hT3 o3 => ?_)
      · simp (disch := omega) only [wr_id, wr_m1, sd_t, nl_I, nl_R, nl_none, c1_I, c1_R, sh_0, sh_1, sh_2, sh_3, sh_4, true_and, and_true, ldA_A, ldB_B, ldS_S, stA_A, stB_B, aL_A, aL_B, aL_S, aC_A, hRd_eq, hRd_ne, cp6, cp8, tl_some, tl_none, List.cons_append, List.nil_append, ofI_t0, ofI_t1, Int.add_zero, Int.zero_add, x58_0, x58_1, x58_2, x58_3, x58_4, x58_5, x58_6, x58_7, x58_8, x58_9, x58_10, x58_11, x58_12, x58_13, x58_14, x58_15, x58_16, x58_17, x58_18, x58_19, x58_20, x58_21, x58_22, x58_23, x58_24, x58_25, x58_26, x58_27, x58_28, x58_29, x58_30, x58_31, x58_32, x58_33, x58_34, x58_35, x58_36, x58_37, x58_38, x58_39, x58_40, x58_41, x58_42, x58_43, x58_44, x58_45, x58_46, x58_47, x58_48, x58_49, x58_50, x58_51, x58_52, gf1_1, gf7_0, pf8_2, gf8_0, gf8_2, gf8_1]
        rw [e] at k2
        exact ⟨fun q => by first | omega | exact absurd trivial q | exact absurd rfl q, fun _ => k2 h2 ⟨T, hT20⟩ o2⟩
      · simp (disch := omega) only [wr_id, wr_m1, sd_t, nl_I, nl_R, nl_none, c1_I, c1_R, sh_0, sh_1, sh_2, sh_3, sh_4, true_and, and_true, ldA_A, ldB_B, ldS_S, stA_A, stB_B, aL_A, aL_B, aL_S, aC_A, hRd_eq, hRd_ne, cp6, cp8, tl_some, tl_none, List.cons_append, List.nil_append, ofI_t0, ofI_t1, Int.add_zero, Int.zero_add, x58_0, x58_1, x58_2, x58_3, x58_4, x58_5, x58_6, x58_7, x58_8, x58_9, x58_10, x58_11, x58_12, x58_13, x58_14, x58_15, x58_16, x58_17, x58_18, x58_19, x58_20, x58_21, x58_22, x58_23, x58_24, x58_25, x58_26, x58_27, x58_28, x58_29, x58_30, x58_31, x58_32, x58_33, x58_34, x58_35, x58_36, x58_37, x58_38, x58_39, x58_40, x58_41, x58_42, x58_43, x58_44, x58_45, x58_46, x58_47, x58_48, x58_49, x58_50, x58_51, x58_52, gf1_1, gf7_0, pf8_2, gf8_0, gf8_2, gf8_1]
        rw [e] at k2
        refine ⟨fun _ => ?_, fun q => by omega⟩
        have hnx := b2.nx e
        exact ih (k + 1) T1 B2 fw2 h3 _ (by omega) (by omega) (fun x hx => hP x (hnx.2 x hx)) q0 q1 ⟨by rw [o3.2.2 _ (by omega)]; exact b1, hT3, b3.out o3 (by omega), b4.out o3 (by omega)⟩ (o2.out o3 (by omega)) k2
    have does : (fw = -1 ∨ raisF L T 0 0 < fw) → WP d 58 31 [some (.ref 141), some (.ref 10), some (vI jobs), some (vI t), some (.ref 18), some (vI k), some (vI (raisF L T 0 0))] [] h Q := by
      intro hc
      simp (disch := omega) only [wr_id, wr_m1, sd_t, nl_I, nl_R, nl_none, c1_I, c1_R, sh_0, sh_1, sh_2, sh_3, sh_4, true_and, and_true, ldA_A, ldB_B, ldS_S, stA_A, stB_B, aL_A, aL_B, aL_S, aC_A, hRd_eq, hRd_ne, cp6, cp8, tl_some, tl_none, List.cons_append, List.nil_append, ofI_t0, ofI_t1, Int.add_zero, Int.zero_add, x58_0, x58_1, x58_2, x58_3, x58_4, x58_5, x58_6, x58_7, x58_8, x58_9, x58_10, x58_11, x58_12, x58_13, x58_14, x58_15, x58_16, x58_17, x58_18, x58_19, x58_20, x58_21, x58_22, x58_23, x58_24, x58_25, x58_26, x58_27, x58_28, x58_29, x58_30, x58_31, x58_32, x58_33, x58_34, x58_35, x58_36, x58_37, x58_38, x58_39, x58_40, x58_41, x58_42, x58_43, x58_44, x58_45, x58_46, x58_47, x58_48, x58_49, x58_50, x58_51, x58_52, gf1_1, gf7_0, pf8_2, gf8_0, gf8_2, gf8_1]
      refine p_trialDoes (by omega) hCh h17h hB hT0 hP ht (fun h2 hT2 o2 => ?_)
      have had := adF_01 (recD M J sh wk wt dr tk bh T) jobs t 8 0
      rw [rsF] at kk
      simp (disch := omega) only [wr_id, wr_m1, sd_t, nl_I, nl_R, nl_none, c1_I, c1_R, sh_0, sh_1, sh_2, sh_3, sh_4, true_and, and_true, ldA_A, ldB_B, ldS_S, stA_A, stB_B, aL_A, aL_B, aL_S, aC_A, hRd_eq, hRd_ne, cp6, cp8, tl_some, tl_none, List.cons_append, List.nil_append, ofI_t0, ofI_t1, Int.add_zero, Int.zero_add, x58_36, x58_37, x58_38]
      refine ⟨fun q => ?_, fun q => ?_⟩
      · rw [if_neg (fun z => by omega)] at kk
        exact turn h2 fw B hf0 hf1 hT2 (o.out o2 (by omega)) kk
      · rw [if_pos ⟨hc, by omega⟩] at kk
        obtain ⟨b1, b2, b3, b4⟩ := hT2
        simp (disch := omega) only [wr_id, wr_m1, sd_t, nl_I, nl_R, nl_none, c1_I, c1_R, sh_0, sh_1, sh_2, sh_3, sh_4, true_and, and_true, ldA_A, ldB_B, ldS_S, stA_A, stB_B, aL_A, aL_B, aL_S, aC_A, hRd_eq, hRd_ne, cp6, cp8, tl_some, tl_none, List.cons_append, List.nil_append, ofI_t0, ofI_t1, Int.add_zero, Int.zero_add, x58_39, x58_40, x58_41, x58_42, x58_43, x58_44, gf8_0, gf8_1, gf8_2, pf8_2, b1]
        have ow : Out 141 141 h2 (hWr h2 141 (oTri 142 144 (raisF L T 0 0) bp ha)) := Out.refl.wr (by omega) (by omega)
        refine p_become (by omega) (b3.out ow (by omega)) (b2.out ow (by omega)) (by omega) (fun h3 hB3 o3 => ?_)
        simp (disch := omega) only [wr_id, wr_m1, sd_t, nl_I, nl_R, nl_none, c1_I, c1_R, sh_0, sh_1, sh_2, sh_3, sh_4, true_and, and_true, ldA_A, ldB_B, ldS_S, stA_A, stB_B, aL_A, aL_B, aL_S, aC_A, hRd_eq, hRd_ne, cp6, cp8, tl_some, tl_none, List.cons_append, List.nil_append, ofI_t0, ofI_t1, Int.add_zero, Int.zero_add]
        refine turn h3 (raisF L T 0 0) T (by omega) (by omega) ⟨?_, (b2.out ow (by omega)).out o3 (by omega), hB3, (b4.out ow (by omega)).out o3 (by omega)⟩ (((o.out o2 (by omega)).out ow (by omega)).out o3 (by omega)) kk
        rw [o3.2.2 _ (by omega)]
        exact hRd_eq
    simp (disch := omega) only [wr_id, wr_m1, sd_t, nl_I, nl_R, nl_none, c1_I, c1_R, sh_0, sh_1, sh_2, sh_3, sh_4, true_and, and_true, ldA_A, ldB_B, ldS_S, stA_A, stB_B, aL_A, aL_B, aL_S, aC_A, hRd_eq, hRd_ne, cp6, cp8, tl_some, tl_none, List.cons_append, List.nil_append, ofI_t0, ofI_t1, Int.add_zero, Int.zero_add, x58_22, x58_23, x58_24, x58_25, x58_26, x58_27, x58_28, x58_29, x58_30, gf8_2, a1]
    refine ⟨fun q => does (Or.inl q), fun q => ⟨fun q2 => ?_, fun q2 => does (Or.inr (by omega))⟩⟩
    rw [rsF, if_neg (fun z => by omega)] at kk
    exact turn h fw B hf0 hf1 hT0 o kk
theorem p_tryR {jobs t : Int} (hd : 7 ≤ d) (hC : CapH h M P J wk wt dr tk bh) (h17 : hRd h 17 = oState 18 20 21 sh mo) (hB : CapB M P J wk wt dr tk bh) (hL : Rw 18 L h) (hLP : Prs P (lineL (memF L 0) P6)) (ht : 0 ≤ t ∧ t ≤ 999) (hT : TrAt T B fw bp ha h) (kk : ∀ h1, (∃ T1, TrAt T1 (rsF M J sh wk wt dr tk bh L jobs t 720 (lineL (memF L 0) P6) (-1) B).2 (rsF M J sh wk wt dr tk bh L jobs t 720 (lineL (memF L 0) P6) (-1) B).1 bp ha h1) → OT h h1 → Q none h1) : CALL d 58 [.ref 141, .ref 10, vI jobs, vI t] h Q := by
  obtain ⟨a1, a2, a3, a4⟩ := hT
  have h10 := hC.1
  refine cl58 (by omega) a1 ?_
  have ow : Out 141 141 h (hWr h 141 (oTri 142 144 (-1) bp ha)) := Out.refl.wr (by omega) (by omega)
  simp (disch := omega) only [wr_id, wr_m1, sd_t, nl_I, nl_R, nl_none, c1_I, c1_R, sh_0, sh_1, sh_2, sh_3, sh_4, true_and, and_true, ldA_A, ldB_B, ldS_S, stA_A, stB_B, aL_A, aL_B, aL_S, aC_A, hRd_eq, hRd_ne, cp6, cp8, tl_some, tl_none, List.cons_append, List.nil_append, ofI_t0, ofI_t1, Int.add_zero, Int.zero_add, x58_0, x58_1, x58_2, x58_3, x58_4, x58_5, x58_6, x58_7, x58_8, x58_9, x58_10, x58_11, x58_12, x58_13, x58_14, x58_15, x58_16, x58_17, x58_18, x58_19, x58_20, x58_21, x58_22, x58_23, x58_24, x58_25, x58_26, x58_27, x58_28, x58_29, x58_30, x58_31, x58_32, x58_33, x58_34, x58_35, x58_36, x58_37, x58_38, x58_39, x58_40, x58_41, x58_42, x58_43, x58_44, x58_45, x58_46, x58_47, x58_48, x58_49, x58_50, x58_51, x58_52, gf1_1, gf7_0, pf8_2, gf8_0, gf8_2, gf8_1, a1, h10, h17]
  refine p_members (by omega) (hL.out ow (by omega)) ?_
  simp (disch := omega) only [wr_id, wr_m1, sd_t, nl_I, nl_R, nl_none, c1_I, c1_R, sh_0, sh_1, sh_2, sh_3, sh_4, true_and, and_true, ldA_A, ldB_B, ldS_S, stA_A, stB_B, aL_A, aL_B, aL_S, aC_A, hRd_eq, hRd_ne, cp6, cp8, tl_some, tl_none, List.cons_append, List.nil_append, ofI_t0, ofI_t1, Int.add_zero, Int.zero_add, x58_0, x58_1, x58_2, x58_3, x58_4, x58_5, x58_6, x58_7, x58_8, x58_9, x58_10, x58_11, x58_12, x58_13, x58_14, x58_15, x58_16, x58_17, x58_18, x58_19, x58_20, x58_21, x58_22, x58_23, x58_24, x58_25, x58_26, x58_27, x58_28, x58_29, x58_30, x58_31, x58_32, x58_33, x58_34, x58_35, x58_36, x58_37, x58_38, x58_39, x58_40, x58_41, x58_42, x58_43, x58_44, x58_45, x58_46, x58_47, x58_48, x58_49, x58_50, x58_51, x58_52, gf1_1, gf7_0, pf8_2, gf8_0, gf8_2, gf8_1]
  refine p_line (by omega) (a2.out ow (by omega)) (fun h2 hT2 o2 => ?_)
  simp (disch := omega) only [wr_id, wr_m1, sd_t, nl_I, nl_R, nl_none, c1_I, c1_R, sh_0, sh_1, sh_2, sh_3, sh_4, true_and, and_true, ldA_A, ldB_B, ldS_S, stA_A, stB_B, aL_A, aL_B, aL_S, aC_A, hRd_eq, hRd_ne, cp6, cp8, tl_some, tl_none, List.cons_append, List.nil_append, ofI_t0, ofI_t1, Int.add_zero, Int.zero_add, x58_0, x58_1, x58_2, x58_3, x58_4, x58_5, x58_6, x58_7, x58_8, x58_9, x58_10, x58_11, x58_12, x58_13, x58_14, x58_15, x58_16, x58_17, x58_18, x58_19, x58_20, x58_21, x58_22, x58_23, x58_24, x58_25, x58_26, x58_27, x58_28, x58_29, x58_30, x58_31, x58_32, x58_33, x58_34, x58_35, x58_36, x58_37, x58_38, x58_39, x58_40, x58_41, x58_42, x58_43, x58_44, x58_45, x58_46, x58_47, x58_48, x58_49, x58_50, x58_51, x58_52, gf1_1, gf7_0, pf8_2, gf8_0, gf8_2, gf8_1]
  refine l_tryR (by omega) hC h17 hB hL ht 720 0 _ B (-1) h2 none (by omega) (by omega) hLP (by omega) (by omega) ⟨?_, hT2, (a3.out ow (by omega)).out o2 (by omega), (a4.out ow (by omega)).out o2 (by omega)⟩ ((OT.refl.out ow (by omega)).out o2 (by omega)) kk
  rw [o2.2.2 _ (by omega)]
  exact hRd_eq
end

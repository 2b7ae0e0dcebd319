-- TRIALS, going on: free, least harm
def bc1 (i : Int) : Int := i - zand (zushr i 1) 1431655765
def bc2 (i : Int) : Int := zand i 858993459 + zand (zushr i 2) 858993459
def bc3 (i : Int) : Int := zand (i + zushr i 4) 252645135
def bc4 (i : Int) : Int := i + zushr i 8
def bc5 (i : Int) : Int := i + zushr i 16
def bcF (x : Int) : Int := zand (bc5 (bc4 (bc3 (bc2 (bc1 x))))) 63
def popc (n : Nat) : Nat := n % 2 + n / 2 % 2 + n / 4 % 2 + n / 8 % 2 + n / 16 % 2 + n / 32 % 2
theorem bc_tab : ∀ n : Nat, n < 64 → bcF (n : Int) = (popc n : Int) := by decide +kernel
theorem zor_tab : ∀ s : Nat, s < 64 → ∀ p : Nat, p < 6 → 0 ≤ zor (s : Int) (zshl 1 (p : Int)) ∧ zor (s : Int) (zshl 1 (p : Int)) < 64 := by decide +kernel
theorem bc_pop {x : Int} (h0 : 0 ≤ x) (h1 : x < 64) : bcF x = (popc x.toNat : Int) := by
  have := bc_tab x.toNat (by omega)
  rwa [show ((x.toNat : Nat) : Int) = x by omega] at this
theorem bc_b {x : Int} (h0 : 0 ≤ x) (h1 : x < 64) : 0 ≤ bcF x ∧ bcF x ≤ 6 := by
  rw [bc_pop h0 h1]
  unfold popc
  omega
theorem zor_b {s p : Int} (h0 : 0 ≤ s) (h1 : s < 64) (h2 : 0 ≤ p) (h3 : p ≤ 5) : 0 ≤ zor s (zshl 1 p) ∧ zor s (zshl 1 p) < 64 := by
  have := zor_tab s.toNat (by omega) p.toNat (by omega)
  rwa [show ((s.toNat : Nat) : Int) = s by omega, show ((p.toNat : Nat) : Int) = p by omega] at this
theorem memF_b : ∀ (L : List Int) (s : Int), (∀ x ∈ L, 0 ≤ x ∧ x ≤ 5) → 0 ≤ s → s < 64 → 0 ≤ memF L s ∧ memF L s < 64 := by
  intro L
  induction L with
  | nil => intro s _ h0 h1; exact ⟨h0, h1⟩
  | cons p L ih =>
    intro s hL h0 h1
    have hp := hL p List.mem_cons_self
    have := zor_b h0 h1 hp.1 hp.2
    rw [memF]
    exact ih _ (fun x hx => hL x (List.mem_cons_of_mem _ hx)) this.1 this.2
theorem stF_b (U : Int → Int) : ∀ (L : List Int) (s : Int), (∀ x ∈ L, 0 ≤ x ∧ x ≤ 5) → 0 ≤ s → s < 64 → 0 ≤ stF U L s ∧ stF U L s < 64 := by
  intro L
  induction L with
  | nil => intro s _ h0 h1; exact ⟨h0, h1⟩
  | cons p L ih =>
    intro s hL h0 h1
    have hp := hL p List.mem_cons_self
    have hz := zor_b h0 h1 hp.1 hp.2
    rw [stF]
    split
    · exact ih _ (fun x hx => hL x (List.mem_cons_of_mem _ hx)) hz.1 hz.2
    · exact ih _ (fun x hx => hL x (List.mem_cons_of_mem _ hx)) h0 h1
theorem suF_b {M but : Int} {U : Int → Int} (hU : TVF U) (hM : 0 ≤ M ∧ M ≤ 999) : ∀ (L : List Int) (s : Int), s ≤ suF M but U L s ∧ suF M but U L s ≤ s + 999 * (L.length : Int) := by
  intro L
  induction L with
  | nil => intro s; simp [suF]
  | cons p L ih =>
    intro s
    rw [suF]
    simp only [List.length_cons]
    have hp := hU p
    unfold TV at hp
    split
    · have := ih s; omega
    · split
      · have := ih (s + M); omega
      · have := ih (s + U p); omega
/-- an order without the persons of a set -/
def woF (set : Int) : List Int → List Int → List Int
  | [], T => T
  | p :: S, T => woF set S (if zand (zshr set p) 1 = 1 then outL T p else T)
def nsF (M J sh : Int) (wk wt dr tk bh : Int → Int) (T : List Int) : Int := stF (recU M J sh wk wt dr tk bh T) T 0
/-- FREE: the sets from set on, the best till then -/
def frF (M J sh : Int) (wk wt dr tk bh : Int → Int) (L : List Int) (mem : Int) : Nat → Int → Int → Int
  | 0, _, best => best
  | n + 1, set, best => frF M J sh wk wt dr tk bh L mem n (set + 1) (if bcF set < bcF best ∧ zand set (zxor mem (-1)) = 0 ∧ nsF M J sh wk wt dr tk bh (woF set P6 L) = 0 then set else best)
def hrT (L : List Int) (p pl : Int) : List Int := insL (outL L p) pl p
/-- LEAST HARM: the places from pl on, the best till then -/
def hpF (M J sh : Int) (wk wt dr tk bh : Int → Int) (L : List Int) (p : Int) : Nat → Int → Int → Int → Int × Int
  | 0, _, bp, ha => (bp, ha)
  | n + 1, pl, bp, ha => if ha = -1 ∨ suF M p (recU M J sh wk wt dr tk bh (hrT L p pl)) (hrT L p pl) 0 < ha then hpF M J sh wk wt dr tk bh L p n (pl + 1) pl (suF M p (recU M J sh wk wt dr tk bh (hrT L p pl)) (hrT L p pl) 0) else hpF M J sh wk wt dr tk bh L p n (pl + 1) bp ha
theorem outL_mem {L : List Int} {p x : Int} (h : x ∈ outL L p) : x ∈ L := by
  unfold outL at h
  split at h
  · exact h
  · exact List.mem_of_mem_eraseIdx h
theorem woF_mem {set x : Int} : ∀ (S T : List Int), x ∈ woF set S T → x ∈ T := by
  intro S
  induction S with
  | nil => intro T h; exact h
  | cons p S ih =>
    intro T h
    rw [woF] at h
    have := ih _ h
    split at this
    · exact outL_mem this
    · exact this
theorem insL_mem {L : List Int} {pl p x : Int} (h : x ∈ insL L pl p) : x = p ∨ x ∈ L := by
  unfold insL at h
  rcases List.mem_append.mp h with h | h
  · exact Or.inr (List.mem_of_mem_take h)
  · rcases List.mem_cons.mp h with h | h
    · exact Or.inl h
    · exact Or.inr (List.mem_of_mem_drop h)
section
variable {d : Nat} {h h0 : LHeap} {Q : Option Value → LHeap → Prop} {wk wt dr tk bh : Int → Int} {M P J sh mo p fw bp ha : Int} {L T B : List Int}
theorem s_bitCount {x : Int} (hd : 1 ≤ d) (kk : Q (some (vI (bcF x))) h) : CALL d 180 [vI x] h Q := by
  refine cl180 (by omega) ?_
  simp (disch := omega) only [wr_id, wr_m1, sd_t, nl_I, nl_R, nl_none, c1_I, c1_R, sh_0, sh_1, sh_2, sh_3, sh_4, true_and, and_true, ldA_A, ldB_B, ldS_S, stA_A, stB_B, aL_A, aL_B, aL_S, aC_A, hRd_eq, hRd_ne, cp6, cp8, tl_some, tl_none, List.cons_append, List.nil_append, ofI_t0, ofI_t1, Int.add_zero, Int.zero_add, x180_0, x180_1, x180_2, x180_3, x180_4, x180_5, x180_6, x180_7, x180_8, x180_9, x180_10, x180_11, x180_12, x180_13, x180_14, x180_15, x180_16, x180_17, x180_18, x180_19, x180_20, x180_21, x180_22, x180_23, x180_24, x180_25, x180_26, x180_27, x180_28, x180_29, x180_30, x180_31, x180_32, x180_33, x180_34, x180_35, x180_36, x180_37, x180_38, x180_39, x180_40, x180_41]
  exact kk
theorem Rw.prs {r : Nat} (hr : Rw r L h) : ∀ x ∈ L, 0 ≤ x ∧ x ≤ 5 := by
  obtain ⟨f, a1, a2, a3⟩ := hr
  exact a3.2.2.2
theorem l_nsw {set : Int} (hd : 6 ≤ d) (hC : CapH h0 M P J wk wt dr tk bh) (h17 : hRd h0 17 = oState 18 20 21 sh mo) (hB : CapB M P J wk wt dr tk bh) : ∀ (S pre T : List Int) (i : Int) (h : LHeap), pre ++ S = P6 → i = (pre.length : Int) → Prs P T → TrAt T B fw bp ha h → OT h0 h → (∀ h1, (∃ T1, TrAt T1 B fw bp ha h1) → OT h0 h1 → Q (some (vI (if nsF M J sh wk wt dr tk bh (woF set S T) = 0 then 1 else 0))) h1) → WPC d 62 9 [some (.ref 141), some (.ref 10), some (vI set), some (vI i)] [] h Q := by
  intro S
  induction S with
  | nil =>
    intro pre T i h hp hi hPT hT o kk
    rw [List.append_nil] at hp
    subst hp
    have : i = 6 := hi
    subst this
    obtain ⟨a1, a2, a3, a4⟩ := hT
    have h10 : hRd h 10 = oCap 11 17 22 23 24 := by rw [o.2.2 _ (by omega)]; exact hC.1
    have h17h : hRd h 17 = oState 18 20 21 sh mo := by rw [o.2.2 _ (by omega)]; exact h17
    rw [WPC_iff]
    simp (disch := omega) only [wr_id, wr_m1, sd_t, nl_I, nl_R, nl_none, c1_I, c1_R, sh_0, sh_1, sh_2, sh_3, sh_4, true_and, and_true, ldA_A, ldB_B, ldS_S, stA_A, stB_B, aL_A, aL_B, aL_S, aC_A, hRd_eq, hRd_ne, cp6, cp8, tl_some, tl_none, List.cons_append, List.nil_append, ofI_t0, ofI_t1, Int.add_zero, Int.zero_add, x62_0, x62_1, x62_2, x62_3, x62_4, x62_5, x62_6, x62_7, x62_8, x62_9, x62_10, x62_11, x62_12, x62_13, x62_14, x62_15, x62_16, x62_17, x62_18, x62_19, x62_20, x62_21, x62_22, x62_23, x62_24, x62_25, x62_26, x62_27, x62_28, x62_29, x62_30, x62_31, x62_32, x62_33, x62_34, x62_35, x62_36, x62_37, x62_38, x62_39, x62_40, gf8_0, gf1_1, gf7_0, gf7_3, a1, h10, h17h]
    refine ⟨fun _ => ?_, fun q => by omega⟩
    refine p_reckon (by omega) (hC.ot o) hB a4 a2 (by omega) (fun x hx => (hPT x hx).2) (fun h1 e22 e23 hs o1 => ?_)
    have b1 : hRd h1 141 = oTri 142 144 fw bp ha := by rw [o1.2.2 _ (by omega)]; exact a1
    have h10b : hRd h1 10 = oCap 11 17 22 23 24 := by rw [o1.2.2 _ (by omega)]; exact h10
    have b2 := a2.out o1 (by omega)
    obtain ⟨f, c1, c2, c3⟩ := b2
    simp (disch := omega) only [wr_id, wr_m1, sd_t, nl_I, nl_R, nl_none, c1_I, c1_R, sh_0, sh_1, sh_2, sh_3, sh_4, true_and, and_true, ldA_A, ldB_B, ldS_S, stA_A, stB_B, aL_A, aL_B, aL_S, aC_A, hRd_eq, hRd_ne, cp6, cp8, tl_some, tl_none, List.cons_append, List.nil_append, ofI_t0, ofI_t1, Int.add_zero, Int.zero_add, x62_0, x62_1, x62_2, x62_3, x62_4, x62_5, x62_6, x62_7, x62_8, x62_9, x62_10, x62_11, x62_12, x62_13, x62_14, x62_15, x62_16, x62_17, x62_18, x62_19, x62_20, x62_21, x62_22, x62_23, x62_24, x62_25, x62_26, x62_27, x62_28, x62_29, x62_30, x62_31, x62_32, x62_33, x62_34, x62_35, x62_36, x62_37, x62_38, x62_39, x62_40, gf8_0, gf1_1, gf7_0, gf7_3, b1]
    refine s_stuckIn (by omega) (TVF_recU hB hPT) h10b e22 c1 c2 c3 ?_
    have hb := stF_b (recU M J sh wk wt dr tk bh T) T 0 c3.2.2.2 (by omega) (by omega)
    simp (disch := omega) only [wr_id, wr_m1, sd_t, nl_I, nl_R, nl_none, c1_I, c1_R, sh_0, sh_1, sh_2, sh_3, sh_4, true_and, and_true, ldA_A, ldB_B, ldS_S, stA_A, stB_B, aL_A, aL_B, aL_S, aC_A, hRd_eq, hRd_ne, cp6, cp8, tl_some, tl_none, List.cons_append, List.nil_append, ofI_t0, ofI_t1, Int.add_zero, Int.zero_add, x62_0, x62_1, x62_2, x62_3, x62_4, x62_5, x62_6, x62_7, x62_8, x62_9, x62_10, x62_11, x62_12, x62_13, x62_14, x62_15, x62_16, x62_17, x62_18, x62_19, x62_20, x62_21, x62_22, x62_23, x62_24, x62_25, x62_26, x62_27, x62_28, x62_29, x62_30, x62_31, x62_32, x62_33, x62_34, x62_35, x62_36, x62_37, x62_38, x62_39, x62_40, gf8_0, gf1_1, gf7_0, gf7_3]
    have fin := kk h1 ⟨T, b1, ⟨f, c1, c2, c3⟩, a3.out o1 (by omega), hs⟩ (o.out o1 (by omega))
    rw [woF] at fin
    unfold nsF at fin
    refine ⟨fun q => ?_, fun q => ?_⟩
    · rw [if_neg q] at fin; exact fin
    · rw [if_pos (by omega)] at fin; exact fin
  | cons a S ih =>
    intro pre T i h hp hi hPT hT o kk
    have hT0 := hT
    obtain ⟨a1, a2, a3, a4⟩ := hT
    have hlen : pre.length + (S.length + 1) = 6 := by
      have := congrArg List.length hp
      rw [List.length_append, List.length_cons] at this
      exact this
    have hai : a = i := by
      have e : P6[pre.length]? = some a := by rw [← hp]; simp
      have hl : pre.length < 6 := by omega
      have : ∀ n : Nat, n < 6 → P6[n]? = some (n : Int) := by decide
      rw [this _ hl] at e
      have := Option.some.inj e
      omega
    subst hai
    have hz := z_bit (zshr set a) 1
    rw [WPC_iff]
    rw [woF] at kk
    simp (disch := omega) only [wr_id, wr_m1, sd_t, nl_I, nl_R, nl_none, c1_I, c1_R, sh_0, sh_1, sh_2, sh_3, sh_4, true_and, and_true, ldA_A, ldB_B, ldS_S, stA_A, stB_B, aL_A, aL_B, aL_S, aC_A, hRd_eq, hRd_ne, cp6, cp8, tl_some, tl_none, List.cons_append, List.nil_append, ofI_t0, ofI_t1, Int.add_zero, Int.zero_add, x62_0, x62_1, x62_2, x62_3, x62_4, x62_5, x62_6, x62_7, x62_8, x62_9, x62_10, x62_11, x62_12, x62_13, x62_14, x62_15, x62_16, x62_17, x62_18, x62_19, x62_20, x62_21, x62_22, x62_23, x62_24, x62_25, x62_26, x62_27, x62_28, x62_29, x62_30, x62_31, x62_32, x62_33, x62_34, x62_35, x62_36, x62_37, x62_38, x62_39, x62_40, gf8_0, gf1_1, gf7_0, gf7_3, a1]
    refine ⟨fun q => by omega, fun _ => ⟨fun q => ?_, fun q => ?_⟩⟩
    · rw [if_neg q] at kk
      exact ih (pre ++ [a]) T (a + 1) h (by rw [List.append_assoc]; exact hp) (by simp; omega) hPT hT0 o kk
    · rw [if_pos (show zand (zshr set a) 1 = 1 by omega)] at kk
      refine p_takeOut (by omega) a2 (by omega) (by omega) (fun h1 hT1 o1 => ?_)
      simp (disch := omega) only [wr_id, wr_m1, sd_t, nl_I, nl_R, nl_none, c1_I, c1_R, sh_0, sh_1, sh_2, sh_3, sh_4, true_and, and_true, ldA_A, ldB_B, ldS_S, stA_A, stB_B, aL_A, aL_B, aL_S, aC_A, hRd_eq, hRd_ne, cp6, cp8, tl_some, tl_none, List.cons_append, List.nil_append, ofI_t0, ofI_t1, Int.add_zero, Int.zero_add, x62_0, x62_1, x62_2, x62_3, x62_4, x62_5, x62_6, x62_7, x62_8, x62_9, x62_10, x62_11, x62_12, x62_13, x62_14, x62_15, x62_16, x62_17, x62_18, x62_19, x62_20, x62_21, x62_22, x62_23, x62_24, x62_25, x62_26, x62_27, x62_28, x62_29, x62_30, x62_31, x62_32, x62_33, x62_34, x62_35, x62_36, x62_37, x62_38, x62_39, x62_40, gf8_0, gf1_1, gf7_0, gf7_3]
      exact ih (pre ++ [a]) _ (a + 1) h1 (by rw [List.append_assoc]; exact hp) (by simp; omega) (fun x hx => hPT x (outL_mem hx)) ⟨by rw [o1.2.2 _ (by omega)]; exact a1, hT1, a3.out o1 (by omega), a4.out o1 (by omega)⟩ (o.out o1 (by omega)) kk
theorem p_nsw {set : Int} (hd : 7 ≤ d) (hC : CapH h0 M P J wk wt dr tk bh) (h17 : hRd h0 17 = oState 18 20 21 sh mo) (hB : CapB M P J wk wt dr tk bh) (hL : Rw 18 L h0) (hPL : Prs P L) (hT : TrAt T B fw bp ha h) (o : OT h0 h) (kk : ∀ h1, (∃ T1, TrAt T1 B fw bp ha h1) → OT h0 h1 → Q (some (vI (if nsF M J sh wk wt dr tk bh (woF set P6 L) = 0 then 1 else 0))) h1) : CALL d 62 [.ref 141, .ref 10, vI set] h Q := by
  obtain ⟨a1, a2, a3, a4⟩ := hT
  have h10 : hRd h 10 = oCap 11 17 22 23 24 := by rw [o.2.2 _ (by omega)]; exact hC.1
  have h17h : hRd h 17 = oState 18 20 21 sh mo := by rw [o.2.2 _ (by omega)]; exact h17
  refine cl62 (by omega) a1 ?_
  simp (disch := omega) only [wr_id, wr_m1, sd_t, nl_I, nl_R, nl_none, c1_I, c1_R, sh_0, sh_1, sh_2, sh_3, sh_4, true_and, and_true, ldA_A, ldB_B, ldS_S, stA_A, stB_B, aL_A, aL_B, aL_S, aC_A, hRd_eq, hRd_ne, cp6, cp8, tl_some, tl_none, List.cons_append, List.nil_append, ofI_t0, ofI_t1, Int.add_zero, Int.zero_add, x62_0, x62_1, x62_2, x62_3, x62_4, x62_5, x62_6, x62_7, x62_8, x62_9, x62_10, x62_11, x62_12, x62_13, x62_14, x62_15, x62_16, x62_17, x62_18, x62_19, x62_20, x62_21, x62_22, x62_23, x62_24, x62_25, x62_26, x62_27, x62_28, x62_29, x62_30, x62_31, x62_32, x62_33, x62_34, x62_35, x62_36, x62_37, x62_38, x62_39, x62_40, gf8_0, gf1_1, gf7_0, gf7_3, a1, h10, h17h]
  refine p_become (by omega) a2 (hL.ot o (by omega)) (by omega) (fun h1 hT1 o1 => ?_)
  simp (disch := omega) only [wr_id, wr_m1, sd_t, nl_I, nl_R, nl_none, c1_I, c1_R, sh_0, sh_1, sh_2, sh_3, sh_4, true_and, and_true, ldA_A, ldB_B, ldS_S, stA_A, stB_B, aL_A, aL_B, aL_S, aC_A, hRd_eq, hRd_ne, cp6, cp8, tl_some, tl_none, List.cons_append, List.nil_append, ofI_t0, ofI_t1, Int.add_zero, Int.zero_add, x62_0, x62_1, x62_2, x62_3, x62_4, x62_5, x62_6, x62_7, x62_8, x62_9, x62_10, x62_11, x62_12, x62_13, x62_14, x62_15, x62_16, x62_17, x62_18, x62_19, x62_20, x62_21, x62_22, x62_23, x62_24, x62_25, x62_26, x62_27, x62_28, x62_29, x62_30, x62_31, x62_32, x62_33, x62_34, x62_35, x62_36, x62_37, x62_38, x62_39, x62_40, gf8_0, gf1_1, gf7_0, gf7_3]
  exact l_nsw (by omega) hC h17 hB P6 [] L 0 h1 rfl rfl hPL ⟨by rw [o1.2.2 _ (by omega)]; exact a1, hT1, a3.out o1 (by omega), a4.out o1 (by omega)⟩ (o.out o1 (by omega)) kk
theorem l_free {mem : Int} (hd : 7 ≤ d) (hC : CapH h0 M P J wk wt dr tk bh) (h17 : hRd h0 17 = oState 18 20 21 sh mo) (hB : CapB M P J wk wt dr tk bh) (hL : Rw 18 L h0) (hPL : Prs P L) (hm : 0 ≤ mem ∧ mem < 64) : ∀ (n : Nat) (set best : Int) (T : List Int) (h : LHeap) (l5 : Option Value), (n : Int) = mem - set → 0 ≤ set → 0 ≤ best → best < 64 → TrAt T B fw bp ha h → OT h0 h → (∀ h1, (∃ T1, TrAt T1 B fw bp ha h1) → OT h0 h1 → Q (some (vI (frF M J sh wk wt dr tk bh L mem n set best))) h1) → WPC d 61 10 [some (.ref 141), some (.ref 10), some (vI mem), some (vI best), some (vI set), l5] [] h Q := by
  intro n
  induction n with
  | zero =>
    intro set best T h l5 hn h0s hb0 hb1 hT o kk
    rw [WPC_iff]
    simp (disch := omega) only [wr_id, wr_m1, sd_t, nl_I, nl_R, nl_none, c1_I, c1_R, sh_0, sh_1, sh_2, sh_3, sh_4, true_and, and_true, ldA_A, ldB_B, ldS_S, stA_A, stB_B, aL_A, aL_B, aL_S, aC_A, hRd_eq, hRd_ne, cp6, cp8, tl_some, tl_none, List.cons_append, List.nil_append, ofI_t0, ofI_t1, Int.add_zero, Int.zero_add, x61_0, x61_1, x61_2, x61_3, x61_4, x61_5, x61_6, x61_7, x61_8, x61_9, x61_10, x61_11, x61_12, x61_13, x61_14, x61_15, x61_16, x61_17, x61_18, x61_19, x61_20, x61_21, x61_22, x61_23, x61_24, x61_25, x61_26, x61_27, x61_28, x61_29, x61_30, x61_31, x61_32, x61_33, x61_34, x61_35, x61_36, x61_37, x61_38, x61_39, x61_40, gf1_1, gf7_0]
    exact ⟨fun _ => kk h ⟨T, hT⟩ o, fun q => by omega⟩
  | succ n ih =>
    intro set best T h l5 hn h0s hb0 hb1 hT o kk
    have c1 := bc_b h0s (by omega : set < 64)
    have c2 := bc_b hb0 hb1
    rw [frF] at kk
    rw [WPC_iff]
    simp (disch := omega) only [wr_id, wr_m1, sd_t, nl_I, nl_R, nl_none, c1_I, c1_R, sh_0, sh_1, sh_2, sh_3, sh_4, true_and, and_true, ldA_A, ldB_B, ldS_S, stA_A, stB_B, aL_A, aL_B, aL_S, aC_A, hRd_eq, hRd_ne, cp6, cp8, tl_some, tl_none, List.cons_append, List.nil_append, ofI_t0, ofI_t1, Int.add_zero, Int.zero_add, x61_0, x61_1, x61_2, x61_3, x61_4, x61_5, x61_6, x61_7, x61_8, x61_9, x61_10, x61_11, x61_12, x61_13, x61_14, x61_15, x61_16, x61_17, x61_18, x61_19, x61_20, x61_21, x61_22, x61_23, x61_24, x61_25, x61_26, x61_27, x61_28, x61_29, x61_30, x61_31, x61_32, x61_33, x61_34, x61_35, x61_36, x61_37, x61_38, x61_39, x61_40, gf1_1, gf7_0]
    refine ⟨fun q => by omega, fun _ => ?_⟩
    refine s_bitCount (by omega) ?_
    simp (disch := omega) only [wr_id, wr_m1, sd_t, nl_I, nl_R, nl_none, c1_I, c1_R, sh_0, sh_1, sh_2, sh_3, sh_4, true_and, and_true, ldA_A, ldB_B, ldS_S, stA_A, stB_B, aL_A, aL_B, aL_S, aC_A, hRd_eq, hRd_ne, cp6, cp8, tl_some, tl_none, List.cons_append, List.nil_append, ofI_t0, ofI_t1, Int.add_zero, Int.zero_add, x61_0, x61_1, x61_2, x61_3, x61_4, x61_5, x61_6, x61_7, x61_8, x61_9, x61_10, x61_11, x61_12, x61_13, x61_14, x61_15, x61_16, x61_17, x61_18, x61_19, x61_20, x61_21, x61_22, x61_23, x61_24, x61_25, x61_26, x61_27, x61_28, x61_29, x61_30, x61_31, x61_32, x61_33, x61_34, x61_35, x61_36, x61_37, x61_38, x61_39, x61_40, gf1_1, gf7_0]
    refine s_bitCount (by omega) ?_
    have hz := z_bit set (zxor mem (-1))
    simp (disch := omega) only [wr_id, wr_m1, sd_t, nl_I, nl_R, nl_none, c1_I, c1_R, sh_0, sh_1, sh_2, sh_3, sh_4, true_and, and_true, ldA_A, ldB_B, ldS_S, stA_A, stB_B, aL_A, aL_B, aL_S, aC_A, hRd_eq, hRd_ne, cp6, cp8, tl_some, tl_none, List.cons_append, List.nil_append, ofI_t0, ofI_t1, Int.add_zero, Int.zero_add, x61_0, x61_1, x61_2, x61_3, x61_4, x61_5, x61_6, x61_7, x61_8, x61_9, x61_10, x61_11, x61_12, x61_13, x61_14, x61_15, x61_16, x61_17, x61_18, x61_19, x61_20, x61_21, x61_22, x61_23, x61_24, x61_25, x61_26, x61_27, x61_28, x61_29, x61_30, x61_31, x61_32, x61_33, x61_34, x61_35, x61_36, x61_37, x61_38, x61_39, x61_40, gf1_1, gf7_0]
    refine ⟨fun q => ⟨fun _ => ?_, fun z => by first | omega | exact absurd trivial z | exact absurd rfl z⟩, fun q => ⟨fun z => by omega, fun _ => ⟨fun q2 => ?_, fun q2 => ?_⟩⟩⟩
    · rw [if_neg (fun z => by omega)] at kk
      exact ih (set + 1) best T h _ (by omega) (by omega) hb0 hb1 hT o kk
    · rw [if_neg (fun z => q2 z.2.1)] at kk
      exact ih (set + 1) best T h _ (by omega) (by omega) hb0 hb1 hT o kk
    · refine p_nsw (by omega) hC h17 hB hL hPL hT o (fun h1 ⟨T1, hT1⟩ o1 => ?_)
      have q3 : zand set (zxor mem (-1)) = 0 := by omega
      by_cases e : nsF M J sh wk wt dr tk bh (woF set P6 L) = 0
      · rw [if_pos e]
        rw [if_pos ⟨by omega, q3, e⟩] at kk
        simp (disch := omega) only [wr_id, wr_m1, sd_t, nl_I, nl_R, nl_none, c1_I, c1_R, sh_0, sh_1, sh_2, sh_3, sh_4, true_and, and_true, ldA_A, ldB_B, ldS_S, stA_A, stB_B, aL_A, aL_B, aL_S, aC_A, hRd_eq, hRd_ne, cp6, cp8, tl_some, tl_none, List.cons_append, List.nil_append, ofI_t0, ofI_t1, Int.add_zero, Int.zero_add, x61_0, x61_1, x61_2, x61_3, x61_4, x61_5, x61_6, x61_7, x61_8, x61_9, x61_10, x61_11, x61_12, x61_13, x61_14, x61_15, x61_16, x61_17, x61_18, x61_19, x61_20, x61_21, x61_22, x61_23, x61_24, x61_25, x61_26, x61_27, x61_28, x61_29, x61_30, x61_31, x61_32, x61_33, x61_34, x61_35, x61_36, x61_37, x61_38, x61_39, x61_40, gf1_1, gf7_0]
        exact ⟨fun z => by omega, fun _ => ih (set + 1) set T1 h1 _ (by omega) (by omega) h0s (by omega) hT1 o1 kk⟩
      · rw [if_neg e]
        rw [if_neg (fun z => e z.2.2)] at kk
        simp (disch := omega) only [wr_id, wr_m1, sd_t, nl_I, nl_R, nl_none, c1_I, c1_R, sh_0, sh_1, sh_2, sh_3, sh_4, true_and, and_true, ldA_A, ldB_B, ldS_S, stA_A, stB_B, aL_A, aL_B, aL_S, aC_A, hRd_eq, hRd_ne, cp6, cp8, tl_some, tl_none, List.cons_append, List.nil_append, ofI_t0, ofI_t1, Int.add_zero, Int.zero_add, x61_0, x61_1, x61_2, x61_3, x61_4, x61_5, x61_6, x61_7, x61_8, x61_9, x61_10, x61_11, x61_12, x61_13, x61_14, x61_15, x61_16, x61_17, x61_18, x61_19, x61_20, x61_21, x61_22, x61_23, x61_24, x61_25, x61_26, x61_27, x61_28, x61_29, x61_30, x61_31, x61_32, x61_33, x61_34, x61_35, x61_36, x61_37, x61_38, x61_39, x61_40, gf1_1, gf7_0]
        exact ⟨fun _ => ih (set + 1) best T1 h1 _ (by omega) (by omega) hb0 hb1 hT1 o1 kk, fun z => by first | omega | exact absurd trivial z | exact absurd rfl z⟩
theorem p_free (hd : 8 ≤ d) (hC : CapH h M P J wk wt dr tk bh) (h17 : hRd h 17 = oState 18 20 21 sh mo) (hB : CapB M P J wk wt dr tk bh) (hL : Rw 18 L h) (hPL : Prs P L) (hT : TrAt T B fw bp ha h) (kk : ∀ h1, (∃ T1, TrAt T1 B fw bp ha h1) → OT h h1 → Q (some (vI (frF M J sh wk wt dr tk bh L (memF L 0) (memF L 0).toNat 0 (memF L 0)))) h1) : CALL d 61 [.ref 141, .ref 10] h Q := by
  have a1 := hT.1
  have h10 := hC.1
  have hm := memF_b L 0 hL.prs (by omega) (by omega)
  refine cl61 (by omega) a1 ?_
  simp (disch := omega) only [wr_id, wr_m1, sd_t, nl_I, nl_R, nl_none, c1_I, c1_R, sh_0, sh_1, sh_2, sh_3, sh_4, true_and, and_true, ldA_A, ldB_B, ldS_S, stA_A, stB_B, aL_A, aL_B, aL_S, aC_A, hRd_eq, hRd_ne, cp6, cp8, tl_some, tl_none, List.cons_append, List.nil_append, ofI_t0, ofI_t1, Int.add_zero, Int.zero_add, x61_0, x61_1, x61_2, x61_3, x61_4, x61_5, x61_6, x61_7, x61_8, x61_9, x61_10, x61_11, x61_12, x61_13, x61_14, x61_15, x61_16, x61_17, x61_18, x61_19, x61_20, x61_21, x61_22, x61_23, x61_24, x61_25, x61_26, x61_27, x61_28, x61_29, x61_30, x61_31, x61_32, x61_33, x61_34, x61_35, x61_36, x61_37, x61_38, x61_39, x61_40, gf1_1, gf7_0, h10, h17]
  refine p_members (by omega) hL ?_
  simp (disch := omega) only [wr_id, wr_m1, sd_t, nl_I, nl_R, nl_none, c1_I, c1_R, sh_0, sh_1, sh_2, sh_3, sh_4, true_and, and_true, ldA_A, ldB_B, ldS_S, stA_A, stB_B, aL_A, aL_B, aL_S, aC_A, hRd_eq, hRd_ne, cp6, cp8, tl_some, tl_none, List.cons_append, List.nil_append, ofI_t0, ofI_t1, Int.add_zero, Int.zero_add, x61_0, x61_1, x61_2, x61_3, x61_4, x61_5, x61_6, x61_7, x61_8, x61_9, x61_10, x61_11, x61_12, x61_13, x61_14, x61_15, x61_16, x61_17, x61_18, x61_19, x61_20, x61_21, x61_22, x61_23, x61_24, x61_25, x61_26, x61_27, x61_28, x61_29, x61_30, x61_31, x61_32, x61_33, x61_34, x61_35, x61_36, x61_37, x61_38, x61_39, x61_40, gf1_1, gf7_0]
  exact l_free (by omega) hC h17 hB hL hPL hm (memF L 0).toNat 0 (memF L 0) T h none (by omega) (by omega) hm.1 hm.2 hT OT.refl kk
theorem pfrom_mem : ∀ (L : List Int) (p i : Int), 0 ≤ i → ¬ pfrom L p i = -1 → p ∈ L := by
  intro L
  induction L with
  | nil => intro p i h0 h; exact absurd rfl h
  | cons a L ih =>
    intro p i h0 h
    rw [pfrom] at h
    split at h
    · rename_i e
      rw [e]
      exact List.mem_cons_self
    · exact List.mem_cons_of_mem _ (ih p (i + 1) (by omega) h)
theorem l_places (hd : 6 ≤ d) (hC : CapH h0 M P J wk wt dr tk bh) (h17 : hRd h0 17 = oState 18 20 21 sh mo) (hB : CapB M P J wk wt dr tk bh) (hL : Rw 18 L h0) (hPL : Prs P L) (hp : ¬ pfrom L p 0 = -1) : ∀ (n : Nat) (pl bp ha : Int) (T : List Int) (h : LHeap) (l5 : Option Value), (n : Int) = L.length - pl → 0 ≤ pl → -1 ≤ ha → ha ≤ 10000 → TrAt T B fw bp ha h → OT h0 h → (∀ h1, (∃ T1, TrAt T1 B fw (hpF M J sh wk wt dr tk bh L p n pl bp ha).1 (hpF M J sh wk wt dr tk bh L p n pl bp ha).2 h1) → OT h0 h1 → Q none h1) → WPC d 60 19 [some (.ref 141), some (.ref 10), some (vI p), some (.ref 18), some (vI pl), l5] [] h Q := by
  have hpL := pfrom_mem L p 0 (by omega) hp
  have hp05 := hL.prs p hpL
  have hlen := hL.len
  have hol : (outL L p).length = L.length - 1 := by
    have hg := pfrom_ge L p 0 (by omega)
    unfold outL delL
    rw [if_neg hp, List.length_eraseIdx, if_pos (by omega)]
  intro n
  induction n with
  | zero =>
    intro pl bp ha T h l5 hn h0p hh0 hh1 hT o kk
    obtain ⟨f, g1, g2, g3⟩ := hL.ot o (by omega)
    rw [WPC_iff]
    simp (disch := omega) only [wr_id, wr_m1, sd_t, nl_I, nl_R, nl_none, c1_I, c1_R, sh_0, sh_1, sh_2, sh_3, sh_4, true_and, and_true, ldA_A, ldB_B, ldS_S, stA_A, stB_B, aL_A, aL_B, aL_S, aC_A, hRd_eq, hRd_ne, cp6, cp8, tl_some, tl_none, List.cons_append, List.nil_append, ofI_t0, ofI_t1, Int.add_zero, Int.zero_add, x60_0, x60_1, x60_2, x60_3, x60_4, x60_5, x60_6, x60_7, x60_8, x60_9, x60_10, x60_11, x60_12, x60_13, x60_14, x60_15, x60_16, x60_17, x60_18, x60_19, x60_20, x60_21, x60_22, x60_23, x60_24, x60_25, x60_26, x60_27, x60_28, x60_29, x60_30, x60_31, x60_32, x60_33, x60_34, x60_35, x60_36, x60_37, x60_38, x60_39, x60_40, x60_41, x60_42, x60_43, x60_44, x60_45, x60_46, x60_47, x60_48, x60_49, x60_50, x60_51, x60_52, x60_53, x60_54, x60_55, x60_56, x60_57, x60_58, x60_59, x60_60, x60_61, x60_62, x60_63, x60_64, x60_65, gf1_1, gf7_0, pf8_3, pf8_4, gf6_1, gf8_0, gf7_3, gf8_4, g1]
    exact ⟨fun _ => kk h ⟨T, hT⟩ o, fun q => by omega⟩
  | succ n ih =>
    intro pl bp ha T h l5 hn h0p hh0 hh1 hT o kk
    obtain ⟨a1, a2, a3, a4⟩ := hT
    have hL1 := hL.ot o (by omega)
    obtain ⟨f, g1, g2, g3⟩ := hL1
    rw [WPC_iff]
    simp (disch := omega) only [wr_id, wr_m1, sd_t, nl_I, nl_R, nl_none, c1_I, c1_R, sh_0, sh_1, sh_2, sh_3, sh_4, true_and, and_true, ldA_A, ldB_B, ldS_S, stA_A, stB_B, aL_A, aL_B, aL_S, aC_A, hRd_eq, hRd_ne, cp6, cp8, tl_some, tl_none, List.cons_append, List.nil_append, ofI_t0, ofI_t1, Int.add_zero, Int.zero_add, x60_0, x60_1, x60_2, x60_3, x60_4, x60_5, x60_6, x60_7, x60_8, x60_9, x60_10, x60_11, x60_12, x60_13, x60_14, x60_15, x60_16, x60_17, x60_18, x60_19, x60_20, x60_21, x60_22, x60_23, x60_24, x60_25, x60_26, x60_27, x60_28, x60_29, x60_30, x60_31, x60_32, x60_33, x60_34, x60_35, x60_36, x60_37, x60_38, x60_39, x60_40, x60_41, x60_42, x60_43, x60_44, x60_45, x60_46, x60_47, x60_48, x60_49, x60_50, x60_51, x60_52, x60_53, x60_54, x60_55, x60_56, x60_57, x60_58, x60_59, x60_60, x60_61, x60_62, x60_63, x60_64, x60_65, gf1_1, gf7_0, pf8_3, pf8_4, gf6_1, gf8_0, gf7_3, gf8_4, g1, a1]
    refine ⟨fun q => by omega, fun _ => ?_⟩
    refine p_become (by omega) a2 (hL.ot o (by omega)) (by omega) (fun h1 hT1 o1 => ?_)
    have b1 : hRd h1 141 = oTri 142 144 fw bp ha := by rw [o1.2.2 _ (by omega)]; exact a1
    simp (disch := omega) only [wr_id, wr_m1, sd_t, nl_I, nl_R, nl_none, c1_I, c1_R, sh_0, sh_1, sh_2, sh_3, sh_4, true_and, and_true, ldA_A, ldB_B, ldS_S, stA_A, stB_B, aL_A, aL_B, aL_S, aC_A, hRd_eq, hRd_ne, cp6, cp8, tl_some, tl_none, List.cons_append, List.nil_append, ofI_t0, ofI_t1, Int.add_zero, Int.zero_add, x60_0, x60_1, x60_2, x60_3, x60_4, x60_5, x60_6, x60_7, x60_8, x60_9, x60_10, x60_11, x60_12, x60_13, x60_14, x60_15, x60_16, x60_17, x60_18, x60_19, x60_20, x60_21, x60_22, x60_23, x60_24, x60_25, x60_26, x60_27, x60_28, x60_29, x60_30, x60_31, x60_32, x60_33, x60_34, x60_35, x60_36, x60_37, x60_38, x60_39, x60_40, x60_41, x60_42, x60_43, x60_44, x60_45, x60_46, x60_47, x60_48, x60_49, x60_50, x60_51, x60_52, x60_53, x60_54, x60_55, x60_56, x60_57, x60_58, x60_59, x60_60, x60_61, x60_62, x60_63, x60_64, x60_65, gf1_1, gf7_0, pf8_3, pf8_4, gf6_1, gf8_0, gf7_3, gf8_4, b1]
    refine p_takeOut (by omega) hT1 (by omega) (by omega) (fun h2 hT2 o2 => ?_)
    have b2 : hRd h2 141 = oTri 142 144 fw bp ha := by rw [o2.2.2 _ (by omega)]; exact b1
    simp (disch := omega) only [wr_id, wr_m1, sd_t, nl_I, nl_R, nl_none, c1_I, c1_R, sh_0, sh_1, sh_2, sh_3, sh_4, true_and, and_true, ldA_A, ldB_B, ldS_S, stA_A, stB_B, aL_A, aL_B, aL_S, aC_A, hRd_eq, hRd_ne, cp6, cp8, tl_some, tl_none, List.cons_append, List.nil_append, ofI_t0, ofI_t1, Int.add_zero, Int.zero_add, x60_0, x60_1, x60_2, x60_3, x60_4, x60_5, x60_6, x60_7, x60_8, x60_9, x60_10, x60_11, x60_12, x60_13, x60_14, x60_15, x60_16, x60_17, x60_18, x60_19, x60_20, x60_21, x60_22, x60_23, x60_24, x60_25, x60_26, x60_27, x60_28, x60_29, x60_30, x60_31, x60_32, x60_33, x60_34, x60_35, x60_36, x60_37, x60_38, x60_39, x60_40, x60_41, x60_42, x60_43, x60_44, x60_45, x60_46, x60_47, x60_48, x60_49, x60_50, x60_51, x60_52, x60_53, x60_54, x60_55, x60_56, x60_57, x60_58, x60_59, x60_60, x60_61, x60_62, x60_63, x60_64, x60_65, gf1_1, gf7_0, pf8_3, pf8_4, gf6_1, gf8_0, gf7_3, gf8_4, b2]
    refine p_putIn (by omega) hT2 (by omega) h0p (by omega) hp05 (fun h3 hT3 o3 => ?_)
    have b3 : hRd h3 141 = oTri 142 144 fw bp ha := by rw [o3.2.2 _ (by omega)]; exact b2
    have ot3 : OT h0 h3 := ((o.out o1 (by omega)).out o2 (by omega)).out o3 (by omega)
    have h10 : hRd h3 10 = oCap 11 17 22 23 24 := by rw [ot3.2.2 _ (by omega)]; exact hC.1
    have h17h : hRd h3 17 = oState 18 20 21 sh mo := by rw [ot3.2.2 _ (by omega)]; exact h17
    have sc3 := ((a4.out o1 (by omega)).out o2 (by omega)).out o3 (by omega)
    have be3 := ((a3.out o1 (by omega)).out o2 (by omega)).out o3 (by omega)
    simp (disch := omega) only [wr_id, wr_m1, sd_t, nl_I, nl_R, nl_none, c1_I, c1_R, sh_0, sh_1, sh_2, sh_3, sh_4, true_and, and_true, ldA_A, ldB_B, ldS_S, stA_A, stB_B, aL_A, aL_B, aL_S, aC_A, hRd_eq, hRd_ne, cp6, cp8, tl_some, tl_none, List.cons_append, List.nil_append, ofI_t0, ofI_t1, Int.add_zero, Int.zero_add, x60_0, x60_1, x60_2, x60_3, x60_4, x60_5, x60_6, x60_7, x60_8, x60_9, x60_10, x60_11, x60_12, x60_13, x60_14, x60_15, x60_16, x60_17, x60_18, x60_19, x60_20, x60_21, x60_22, x60_23, x60_24, x60_25, x60_26, x60_27, x60_28, x60_29, x60_30, x60_31, x60_32, x60_33, x60_34, x60_35, x60_36, x60_37, x60_38, x60_39, x60_40, x60_41, x60_42, x60_43, x60_44, x60_45, x60_46, x60_47, x60_48, x60_49, x60_50, x60_51, x60_52, x60_53, x60_54, x60_55, x60_56, x60_57, x60_58, x60_59, x60_60, x60_61, x60_62, x60_63, x60_64, x60_65, gf1_1, gf7_0, pf8_3, pf8_4, gf6_1, gf8_0, gf7_3, gf8_4, b3, h10, h17h]
    have hPT : Prs P (hrT L p pl) := fun x hx => by
      rcases insL_mem hx with e | e
      · rw [e]; exact hPL p hpL
      · exact hPL x (outL_mem e)
    have hT3' : Rw 142 (hrT L p pl) h3 := hT3
    refine p_reckon (by omega) (hC.ot ot3) hB sc3 hT3' (by omega) (fun x hx => (hPT x hx).2) (fun h4 e22 e23 hs o4 => ?_)
    have b4 : hRd h4 141 = oTri 142 144 fw bp ha := by rw [o4.2.2 _ (by omega)]; exact b3
    have ot4 := ot3.out o4 (by omega)
    obtain ⟨f4, c1, c2, c3⟩ := hT3'.out o4 (by omega)
    have hU := TVF_recU (sh := sh) hB hPT
    simp (disch := omega) only [wr_id, wr_m1, sd_t, nl_I, nl_R, nl_none, c1_I, c1_R, sh_0, sh_1, sh_2, sh_3, sh_4, true_and, and_true, ldA_A, ldB_B, ldS_S, stA_A, stB_B, aL_A, aL_B, aL_S, aC_A, hRd_eq, hRd_ne, cp6, cp8, tl_some, tl_none, List.cons_append, List.nil_append, ofI_t0, ofI_t1, Int.add_zero, Int.zero_add, x60_0, x60_1, x60_2, x60_3, x60_4, x60_5, x60_6, x60_7, x60_8, x60_9, x60_10, x60_11, x60_12, x60_13, x60_14, x60_15, x60_16, x60_17, x60_18, x60_19, x60_20, x60_21, x60_22, x60_23, x60_24, x60_25, x60_26, x60_27, x60_28, x60_29, x60_30, x60_31, x60_32, x60_33, x60_34, x60_35, x60_36, x60_37, x60_38, x60_39, x60_40, x60_41, x60_42, x60_43, x60_44, x60_45, x60_46, x60_47, x60_48, x60_49, x60_50, x60_51, x60_52, x60_53, x60_54, x60_55, x60_56, x60_57, x60_58, x60_59, x60_60, x60_61, x60_62, x60_63, x60_64, x60_65, gf1_1, gf7_0, pf8_3, pf8_4, gf6_1, gf8_0, gf7_3, gf8_4, b4]
    refine s_upOthers (by omega) (hC.ot ot4) hB.1 hU e22 c1 c2 (by omega) c3 ?_
    have hsb := suF_b (but := p) hU hB.1 (hrT L p pl) 0
    have hlT : (hrT L p pl).length ≤ 6 := c3.2.1
    simp (disch := omega) only [wr_id, wr_m1, sd_t, nl_I, nl_R, nl_none, c1_I, c1_R, sh_0, sh_1, sh_2, sh_3, sh_4, true_and, and_true, ldA_A, ldB_B, ldS_S, stA_A, stB_B, aL_A, aL_B, aL_S, aC_A, hRd_eq, hRd_ne, cp6, cp8, tl_some, tl_none, List.cons_append, List.nil_append, ofI_t0, ofI_t1, Int.add_zero, Int.zero_add, x60_0, x60_1, x60_2, x60_3, x60_4, x60_5, x60_6, x60_7, x60_8, x60_9, x60_10, x60_11, x60_12, x60_13, x60_14, x60_15, x60_16, x60_17, x60_18, x60_19, x60_20, x60_21, x60_22, x60_23, x60_24, x60_25, x60_26, x60_27, x60_28, x60_29, x60_30, x60_31, x60_32, x60_33, x60_34, x60_35, x60_36, x60_37, x60_38, x60_39, x60_40, x60_41, x60_42, x60_43, x60_44, x60_45, x60_46, x60_47, x60_48, x60_49, x60_50, x60_51, x60_52, x60_53, x60_54, x60_55, x60_56, x60_57, x60_58, x60_59, x60_60, x60_61, x60_62, x60_63, x60_64, x60_65, gf1_1, gf7_0, pf8_3, pf8_4, gf6_1, gf8_0, gf7_3, gf8_4, b4, hWr_same]
    rw [hpF] at kk
    have ow : ∀ c : LCell, Out 141 141 h4 (hWr h4 141 c) := fun c => Out.refl.wr (by omega) (by omega)
    have better : (ha = -1 ∨ suF M p (recU M J sh wk wt dr tk bh (hrT L p pl)) (hrT L p pl) 0 < ha) → WPC d 60 19 [some (.ref 141), some (.ref 10), some (vI p), some (.ref 18), some (vI (pl + 1)), some (vI (suF M p (recU M J sh wk wt dr tk bh (hrT L p pl)) (hrT L p pl) 0))] [] (hWr h4 141 (oTri 142 144 fw pl (suF M p (recU M J sh wk wt dr tk bh (hrT L p pl)) (hrT L p pl) 0))) Q := by
      intro hc
      rw [if_pos hc] at kk
      exact ih (pl + 1) pl _ _ _ _ (by omega) (by omega) (by omega) (by omega) ⟨hRd_eq, Rw.out (r := 142) (L := hrT L p pl) ⟨f4, c1, c2, c3⟩ (ow _) (by omega), (be3.out o4 (by omega)).out (ow _) (by omega), hs.out (ow _) (by omega)⟩ (ot4.out (ow _) (by omega)) kk
    refine ⟨fun q => better (Or.inl q), fun q => ⟨fun q2 => ?_, fun q2 => better (Or.inr (by omega))⟩⟩
    rw [if_neg (fun z => by omega)] at kk
    exact ih (pl + 1) bp ha _ _ _ (by omega) (by omega) hh0 hh1 ⟨b4, ⟨f4, c1, c2, c3⟩, be3.out o4 (by omega), hs⟩ ot4 kk
theorem p_places (hd : 7 ≤ d) (hC : CapH h M P J wk wt dr tk bh) (h17 : hRd h 17 = oState 18 20 21 sh mo) (hB : CapB M P J wk wt dr tk bh) (hL : Rw 18 L h) (hPL : Prs P L) (hp : 0 ≤ p ∧ p ≤ 5) (hT : TrAt T B fw bp ha h) (k1 : pfrom L p 0 = -1 → ∀ h1, (∃ T1, TrAt T1 B fw (-1) (-1) h1) → OT h h1 → Q none h1) (k2 : ¬ pfrom L p 0 = -1 → ∀ h1, (∃ T1, TrAt T1 B fw (hpF M J sh wk wt dr tk bh L p L.length 0 (-1) (-1)).1 (hpF M J sh wk wt dr tk bh L p L.length 0 (-1) (-1)).2 h1) → OT h h1 → Q none h1) : CALL d 60 [.ref 141, .ref 10, vI p] h Q := by
  obtain ⟨a1, a2, a3, a4⟩ := hT
  have h10 := hC.1
  have hg := pfrom_ge L p 0 (by omega)
  have hlen := hL.len
  refine cl60 (by omega) a1 ?_
  have ow : Out 141 141 h (hWr h 141 (oTri 142 144 fw (-1) (-1))) := Out.refl.wr (by omega) (by omega)
  have hT1 : TrAt T B fw (-1) (-1) (hWr h 141 (oTri 142 144 fw (-1) (-1))) := ⟨hRd_eq, a2.out ow (by omega), a3.out ow (by omega), a4.out ow (by omega)⟩
  simp (disch := omega) only [wr_id, wr_m1, sd_t, nl_I, nl_R, nl_none, c1_I, c1_R, sh_0, sh_1, sh_2, sh_3, sh_4, true_and, and_true, ldA_A, ldB_B, ldS_S, stA_A, stB_B, aL_A, aL_B, aL_S, aC_A, hRd_eq, hRd_ne, cp6, cp8, tl_some, tl_none, List.cons_append, List.nil_append, ofI_t0, ofI_t1, Int.add_zero, Int.zero_add, x60_0, x60_1, x60_2, x60_3, x60_4, x60_5, x60_6, x60_7, x60_8, x60_9, x60_10, x60_11, x60_12, x60_13, x60_14, x60_15, x60_16, x60_17, x60_18, x60_19, x60_20, x60_21, x60_22, x60_23, x60_24, x60_25, x60_26, x60_27, x60_28, x60_29, x60_30, x60_31, x60_32, x60_33, x60_34, x60_35, x60_36, x60_37, x60_38, x60_39, x60_40, x60_41, x60_42, x60_43, x60_44, x60_45, x60_46, x60_47, x60_48, x60_49, x60_50, x60_51, x60_52, x60_53, x60_54, x60_55, x60_56, x60_57, x60_58, x60_59, x60_60, x60_61, x60_62, x60_63, x60_64, x60_65, gf1_1, gf7_0, pf8_3, pf8_4, gf6_1, gf8_0, gf7_3, gf8_4, a1, h10, h17, hWr_same]
  refine p_placeOf (by omega) (hL.out ow (by omega)) (by omega) (by omega) ?_
  simp (disch := omega) only [wr_id, wr_m1, sd_t, nl_I, nl_R, nl_none, c1_I, c1_R, sh_0, sh_1, sh_2, sh_3, sh_4, true_and, and_true, ldA_A, ldB_B, ldS_S, stA_A, stB_B, aL_A, aL_B, aL_S, aC_A, hRd_eq, hRd_ne, cp6, cp8, tl_some, tl_none, List.cons_append, List.nil_append, ofI_t0, ofI_t1, Int.add_zero, Int.zero_add, x60_0, x60_1, x60_2, x60_3, x60_4, x60_5, x60_6, x60_7, x60_8, x60_9, x60_10, x60_11, x60_12, x60_13, x60_14, x60_15, x60_16, x60_17, x60_18, x60_19, x60_20, x60_21, x60_22, x60_23, x60_24, x60_25, x60_26, x60_27, x60_28, x60_29, x60_30, x60_31, x60_32, x60_33, x60_34, x60_35, x60_36, x60_37, x60_38, x60_39, x60_40, x60_41, x60_42, x60_43, x60_44, x60_45, x60_46, x60_47, x60_48, x60_49, x60_50, x60_51, x60_52, x60_53, x60_54, x60_55, x60_56, x60_57, x60_58, x60_59, x60_60, x60_61, x60_62, x60_63, x60_64, x60_65, gf1_1, gf7_0, pf8_3, pf8_4, gf6_1, gf8_0, gf7_3, gf8_4]
  refine ⟨fun q => ?_, fun q => k1 (by omega) _ ⟨T, hT1⟩ (OT.refl.out ow (by omega))⟩
  exact l_places (by omega) hC h17 hB hL hPL q L.length 0 (-1) (-1) T _ none (by omega) (by omega) (by omega) (by omega) hT1 (OT.refl.out ow (by omega)) (k2 q)
end

-- THE READER: the whole text, a letter more
def clr (D : CC) : CC := (0, 0, 0, D.2.2.2)
section
variable {d : Nat} {h h0 : LHeap} {Q : Option Value → LHeap → Prop} {f wk wt dr tk bh : Int → Int} {n tr pl a na M P J w : Int} {D : CC}
/-- the text's end -/
def TE (Q : Option Value → LHeap → Prop) (h0 : LHeap) (f : Int → Int) (r : Int × Int × CC) : Prop := ∀ h1 D1 a1 na1, RdAt f 0 r.1 (if r.1 = 0 then -1 else r.2.1) a1 na1 h1 → CiC 4 D1 h1 → DB D1 → (r.1 = 0 → D1 = r.2.2) → Out 2 9 h0 h1 → Q none h1
theorem l_text (hd : 7 ≤ d) (hT : TxB f n) : ∀ (m : Nat) (a na k : Int) (D : CC) (h : LHeap), n - a ≤ (m : Int) → 0 ≤ k → k ≤ a → a ≤ n → RdAt f n 0 (-1) a na h → CiC 4 D h → DB D → TE Q h f (txF f n m a D) → WPC d 31 15 [some (.ref 2), some (vI k)] [] h Q := by
  have hn := hT.1
  -- the end
  have fin : ∀ (tr pl a2 na2 k : Int) (h2 : LHeap) (D2 : CC), RdAt f n tr pl a2 na2 h2 → CiC 4 D2 h2 → DB D2 → (∀ h3, RdAt f 0 tr pl a2 na2 h3 → CiC 4 D2 h3 → Out 2 2 h2 h3 → Q none h3) → WP d 31 33 [some (.ref 2), some (vI k)] [] h2 Q := by
    intro tr pl a2 na2 k h2 D2 r2 c2 b2 kk
    have r21 := r2.1
    simp (disch := omega) only [wr_id, wr_m1, sd_t, nl_I, nl_R, nl_none, c1_I, c1_R, sh_0, sh_1, sh_2, sh_3, sh_4, true_and, and_true, ldA_A, ldB_B, ldS_S, stA_A, stB_B, aL_A, aL_B, aL_S, aC_A, hRd_eq, hRd_ne, cp6, cp8, tl_some, tl_none, List.cons_append, List.nil_append, ofI_t0, ofI_t1, Int.add_zero, Int.zero_add, x31_33, x31_34, x31_35, x31_36, pf5_2, r21]
    have o : Out 2 2 h2 (hWr h2 2 (oRead 3 4 0 tr pl a2 na2)) := Out.refl.wr (by omega) (by omega)
    exact kk _ ⟨hRd_eq, by rw [hRd_ne (by omega)]; exact r2.2⟩ (c2.out o (by omega)) o
  -- behind a fault
  have flt : ∀ (tr pl a2 na2 k : Int) (h2 : LHeap) (D2 : CC), 1 ≤ tr ∧ tr ≤ 4 → 0 ≤ a2 ∧ a2 ≤ n → 0 ≤ k → k ≤ 220 → RdAt f n tr pl a2 na2 h2 → CiC 4 D2 h2 → DB D2 → (∀ h3 a3, RdAt f 0 tr pl a3 na2 h3 → CiC 4 D2 h3 → Out 2 2 h2 h3 → Q none h3) → WPC d 31 15 [some (.ref 2), some (vI k)] [] h2 Q := by
    intro tr pl a2 na2 k h2 D2 ht ha hk0 hk1 r2 c2 b2 kk
    have hs := sk_b (f := f) ha.2
    rw [WPC_iff]
    simp (disch := omega) only [wr_id, wr_m1, sd_t, nl_I, nl_R, nl_none, c1_I, c1_R, sh_0, sh_1, sh_2, sh_3, sh_4, true_and, and_true, ldA_A, ldB_B, ldS_S, stA_A, stB_B, aL_A, aL_B, aL_S, aC_A, hRd_eq, hRd_ne, cp6, cp8, tl_some, tl_none, List.cons_append, List.nil_append, ofI_t0, ofI_t1, Int.add_zero, Int.zero_add, x31_15, x31_16, x31_17, x31_18, x31_19]
    refine ⟨fun z => by omega, fun _ => ?_⟩
    refine s_skip (by omega) hT r2 ha ?_
    have o1 : Out 2 2 h2 (hWr h2 2 (oRead 3 4 n tr pl (sk f n a2) na2)) := Out.refl.wr (by omega) (by omega)
    have r3 : RdAt f n tr pl (sk f n a2) na2 (hWr h2 2 (oRead 3 4 n tr pl (sk f n a2) na2)) := r2.at tr pl
    simp (disch := omega) only [wr_id, wr_m1, sd_t, nl_I, nl_R, nl_none, c1_I, c1_R, sh_0, sh_1, sh_2, sh_3, sh_4, true_and, and_true, ldA_A, ldB_B, ldS_S, stA_A, stB_B, aL_A, aL_B, aL_S, aC_A, hRd_eq, hRd_ne, cp6, cp8, tl_some, tl_none, List.cons_append, List.nil_append, ofI_t0, ofI_t1, Int.add_zero, Int.zero_add, x31_20, x31_21, x31_22, x31_23, x31_24, x31_25, x31_26, x31_27, x31_28, gf5_5, gf5_2, gf5_3]
    have e := fin tr pl _ _ k _ D2 r3 (c2.out o1 (by omega)) b2 (fun h3 r c o => kk h3 _ r c (o1.trans o))
    exact ⟨fun _ => e, fun _ => ⟨fun z => by omega, fun _ => e⟩⟩
  intro m
  induction m with
  | zero =>
    intro a na k D h hm hk0 hka han hr hc hD kk
    have : a = n := by omega
    subst this
    have e : sk f a a = a := by rw [sk_eq, if_neg (by omega)]
    rw [WPC_iff]
    simp (disch := omega) only [wr_id, wr_m1, sd_t, nl_I, nl_R, nl_none, c1_I, c1_R, sh_0, sh_1, sh_2, sh_3, sh_4, true_and, and_true, ldA_A, ldB_B, ldS_S, stA_A, stB_B, aL_A, aL_B, aL_S, aC_A, hRd_eq, hRd_ne, cp6, cp8, tl_some, tl_none, List.cons_append, List.nil_append, ofI_t0, ofI_t1, Int.add_zero, Int.zero_add, x31_15, x31_16, x31_17, x31_18, x31_19]
    refine ⟨fun z => by omega, fun _ => ?_⟩
    refine s_skip (by omega) hT hr (by omega) ?_
    rw [e, hWr_self hr.1]
    have hr1 := hr.1
    simp (disch := omega) only [wr_id, wr_m1, sd_t, nl_I, nl_R, nl_none, c1_I, c1_R, sh_0, sh_1, sh_2, sh_3, sh_4, true_and, and_true, ldA_A, ldB_B, ldS_S, stA_A, stB_B, aL_A, aL_B, aL_S, aC_A, hRd_eq, hRd_ne, cp6, cp8, tl_some, tl_none, List.cons_append, List.nil_append, ofI_t0, ofI_t1, Int.add_zero, Int.zero_add, x31_20, x31_21, x31_22, x31_23, x31_24, gf5_5, gf5_2, hr1]
    refine ⟨fun _ => ?_, fun z => by first | omega | exact absurd trivial z | exact absurd (by omega) z⟩
    exact fin 0 (-1) _ _ k _ D hr hc hD (fun h3 r c o => kk h3 D _ _ (by rw [txF, if_pos rfl]; exact r) c hD (fun _ => rfl) (o.widen (by omega) (by omega)))
  | succ m ih =>
    intro a na k D h hm hk0 hka han hr hc hD kk
    have hs := sk_b (f := f) han
    rw [WPC_iff]
    simp (disch := omega) only [wr_id, wr_m1, sd_t, nl_I, nl_R, nl_none, c1_I, c1_R, sh_0, sh_1, sh_2, sh_3, sh_4, true_and, and_true, ldA_A, ldB_B, ldS_S, stA_A, stB_B, aL_A, aL_B, aL_S, aC_A, hRd_eq, hRd_ne, cp6, cp8, tl_some, tl_none, List.cons_append, List.nil_append, ofI_t0, ofI_t1, Int.add_zero, Int.zero_add, x31_15, x31_16, x31_17, x31_18, x31_19]
    refine ⟨fun z => by omega, fun _ => ?_⟩
    refine s_skip (by omega) hT hr (by omega) ?_
    have o1 : Out 2 2 h (hWr h 2 (oRead 3 4 n 0 (-1) (sk f n a) na)) := Out.refl.wr (by omega) (by omega)
    have r1 : RdAt f n 0 (-1) (sk f n a) na (hWr h 2 (oRead 3 4 n 0 (-1) (sk f n a) na)) := hr.at 0 (-1)
    have c1 := hc.out o1 (by omega)
    rw [txF] at kk
    simp (disch := omega) only [wr_id, wr_m1, sd_t, nl_I, nl_R, nl_none, c1_I, c1_R, sh_0, sh_1, sh_2, sh_3, sh_4, true_and, and_true, ldA_A, ldB_B, ldS_S, stA_A, stB_B, aL_A, aL_B, aL_S, aC_A, hRd_eq, hRd_ne, cp6, cp8, tl_some, tl_none, List.cons_append, List.nil_append, ofI_t0, ofI_t1, Int.add_zero, Int.zero_add, x31_20, x31_21, x31_22, x31_23, x31_24, x31_25, x31_26, x31_27, gf5_5, gf5_2, gf5_3]
    refine ⟨fun z => ?_, fun z => ⟨fun _ => ?_, fun z2 => by first | omega | exact absurd trivial z2 | exact absurd rfl z2⟩⟩
    · rw [if_neg (by omega)] at kk
      exact fin 0 (-1) _ _ k _ D r1 c1 hD (fun h3 r c o => kk h3 D _ _ (by rw [if_pos rfl]; exact r) c hD (fun _ => rfl) ((o1.trans o).widen (by omega) (by omega)))
    · rw [if_pos (by omega)] at kk
      simp (disch := omega) only [wr_id, wr_m1, sd_t, nl_I, nl_R, nl_none, c1_I, c1_R, sh_0, sh_1, sh_2, sh_3, sh_4, true_and, and_true, ldA_A, ldB_B, ldS_S, stA_A, stB_B, aL_A, aL_B, aL_S, aC_A, hRd_eq, hRd_ne, cp6, cp8, tl_some, tl_none, List.cons_append, List.nil_append, ofI_t0, ofI_t1, Int.add_zero, Int.zero_add, x31_29, x31_30]
      refine s_rdClause (by omega) hT r1 ⟨by omega, by omega⟩ c1 hD ⟨fun e h2 D1 a1 na1 r2 c2 b2 e1 e2 o2 => ?_, fun e h2 na1 r2 c2 b2 e1 e2 o2 => ?_⟩
      · simp (disch := omega) only [wr_id, wr_m1, sd_t, nl_I, nl_R, nl_none, c1_I, c1_R, sh_0, sh_1, sh_2, sh_3, sh_4, true_and, and_true, ldA_A, ldB_B, ldS_S, stA_A, stB_B, aL_A, aL_B, aL_S, aC_A, hRd_eq, hRd_ne, cp6, cp8, tl_some, tl_none, List.cons_append, List.nil_append, ofI_t0, ofI_t1, Int.add_zero, Int.zero_add, x31_31, x31_32, x31_14]
        rw [if_neg e] at kk
        have hb := clF_b (f := f) (n := n) (w := sk f n a) (D := D)
        refine flt _ _ a1 na1 (k + 1) h2 D1 (by omega) ⟨by omega, by omega⟩ (by omega) (by omega) r2 c2 b2 (fun h3 a3 r c o => kk h3 D1 a3 na1 ?_ c b2 (fun z0 => absurd z0 e) (((o1.widen (by omega) (by omega)).trans o2).trans (o.widen (by omega) (by omega))))
        rw [if_neg e]
        exact r
      · simp (disch := omega) only [wr_id, wr_m1, sd_t, nl_I, nl_R, nl_none, c1_I, c1_R, sh_0, sh_1, sh_2, sh_3, sh_4, true_and, and_true, ldA_A, ldB_B, ldS_S, stA_A, stB_B, aL_A, aL_B, aL_S, aC_A, hRd_eq, hRd_ne, cp6, cp8, tl_some, tl_none, List.cons_append, List.nil_append, ofI_t0, ofI_t1, Int.add_zero, Int.zero_add, x31_31, x31_32, x31_14]
        rw [if_pos e] at kk
        exact ih _ _ (k + 1) _ h2 (by omega) (by omega) (by omega) e2 r2 c2 b2 (fun h3 D3 a3 na3 r c b e3 o => kk h3 D3 a3 na3 r c b e3 (((o1.widen (by omega) (by omega)).trans o2).trans o))
theorem s_text (hd : 8 ≤ d) (hT : TxB f n) (hr : RdAt f n tr pl a na h) (hc : CiC 4 D h) (hD : ∀ i, -1 ≤ D.2.2.2.2.1 i ∧ D.2.2.2.2.1 i ≤ 7) (kk : TE Q h f (txF f n n.toNat 0 (clr D))) : CALL d 31 [.ref 2] h Q := by
  have hn := hT.1
  have hr1 := hr.1
  refine cl31 (by omega) hr.1 ?_
  simp (disch := omega) only [wr_id, wr_m1, sd_t, nl_I, nl_R, nl_none, c1_I, c1_R, sh_0, sh_1, sh_2, sh_3, sh_4, true_and, and_true, ldA_A, ldB_B, ldS_S, stA_A, stB_B, aL_A, aL_B, aL_S, aC_A, hRd_eq, hRd_ne, cp6, cp8, tl_some, tl_none, List.cons_append, List.nil_append, ofI_t0, ofI_t1, Int.add_zero, Int.zero_add, x31_0, x31_1, x31_2, gf5_1, hr1]
  refine s_Ci_clear (by omega) hc (fun h1 hc1 o1 => ?_)
  have r1 := hr.out o1 (by omega)
  have r11 := r1.1
  simp (disch := omega) only [wr_id, wr_m1, sd_t, nl_I, nl_R, nl_none, c1_I, c1_R, sh_0, sh_1, sh_2, sh_3, sh_4, true_and, and_true, ldA_A, ldB_B, ldS_S, stA_A, stB_B, aL_A, aL_B, aL_S, aC_A, hRd_eq, hRd_ne, cp6, cp8, tl_some, tl_none, List.cons_append, List.nil_append, ofI_t0, ofI_t1, Int.add_zero, Int.zero_add, x31_3, x31_4, x31_5, x31_6, x31_7, x31_8, x31_9, x31_10, x31_11, x31_12, x31_13, x31_14, pf5_5, pf5_3, pf5_4, r11, hWr_same]
  have o2 : Out 2 2 h1 (hWr h1 2 (oRead 3 4 n 0 (-1) 0 na)) := Out.refl.wr (by omega) (by omega)
  have hc1 : CiC 4 (clr D) h1 := hc1
  refine l_text (by omega) hT n.toNat 0 na 0 (clr D) _ (by omega) (by omega) (by omega) (by omega) (r1.at 0 (-1)) (hc1.out o2 (by omega)) ⟨⟨?_, ?_, ?_, fun p p0 p1 => ?_, fun j p0 p1 => ?_⟩, hD⟩ (fun h3 D3 a3 na3 r c b e3 o => kk h3 D3 a3 na3 r c b e3 (((o1.widen (by omega) (by omega)).trans (o2.widen (by omega) (by omega))).trans o))
  all_goals first
    | (simp only [clr] at *; omega)
    | skip
theorem s_rdApp {x : Int} (hd : 1 ≤ d) (hn : 0 ≤ n ∧ n ≤ 220) (hr : RdAt f n tr pl a na h) (k1 : n = 220 → Q (some (vI 0)) h) (k2 : n < 220 → ∀ h1, RdAt (uA f n x) (n + 1) tr pl a na h1 → Out 2 3 h h1 → Q (some (vI 1)) h1) : CALL d 30 [.ref 2, vI x] h Q := by
  obtain ⟨a1, a2⟩ := hr
  refine cl30 (by omega) a1 ?_
  simp (disch := omega) only [wr_id, wr_m1, sd_t, nl_I, nl_R, nl_none, c1_I, c1_R, sh_0, sh_1, sh_2, sh_3, sh_4, true_and, and_true, ldA_A, ldB_B, ldS_S, stA_A, stB_B, aL_A, aL_B, aL_S, aC_A, hRd_eq, hRd_ne, cp6, cp8, tl_some, tl_none, List.cons_append, List.nil_append, ofI_t0, ofI_t1, Int.add_zero, Int.zero_add, x30_0, x30_1, x30_2, x30_3, x30_4, x30_5, x30_6, x30_7, x30_8, x30_9, x30_10, x30_11, x30_12, x30_13, x30_14, x30_15, x30_16, x30_17, x30_18, x30_19, x30_20, x30_21, x30_22, x30_23, x30_24, gf5_2, gf5_0, pf5_2, a1, a2, hWr_same]
  refine ⟨fun z => by omega, fun _ => ⟨fun z => ⟨by omega, ?_⟩, fun z => k1 (by omega)⟩⟩
  refine k2 (by omega) _ ⟨?_, ?_⟩ ((Out.refl.wr (by omega) (by omega)).wr (by omega) (by omega))
  all_goals simp (disch := omega) only [hRd_eq, hRd_ne]
end

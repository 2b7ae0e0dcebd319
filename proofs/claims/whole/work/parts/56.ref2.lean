-- THE REFERENCE: one round of the settling, who is up
/-- a row of numbers that holds an order L and its city's state -/
def SC (P J : Int) (L : List Int) (wk dr : Int → Int) (sh : Int) (g : Int → Int) : Prop := (∀ (i : Nat) (x : Int), L[i]? = some x → g i = x) ∧ g 6 = L.length ∧ g 7 = sh ∧ (∀ j, 0 ≤ j → j < J → g (9 + j) = dr j) ∧ ∀ p, 0 ≤ p → p < P → g (17 + p) = wk p
/-- the reference's city -/
def MC (M P J : Int) (wt tk bh : Int → Int) (z : Nat → Int) (h : LHeap) : Prop := hRd h 156 = oM z ∧ (z 0 = M ∧ z 1 = P ∧ z 2 = J) ∧ (∃ r, hRd h 157 = cA 8 r ∧ ∀ j, 0 ≤ j → j < J → r j = tk j) ∧ (∃ r, hRd h 158 = cA 8 r ∧ ∀ j, 0 ≤ j → j < J → r j = bh j) ∧ ∃ r, hRd h 159 = cA 6 r ∧ ∀ p, 0 ≤ p → p < P → r p = wt p
theorem SG.sc {P J : Int} {S : SS} {g : Int → Int} (h : SG P J S g 0) : SC P J S.1 S.2.1 S.2.2.1 S.2.2.2.1 g := by
  obtain ⟨a1, a2, a3, a4, a5, a6, a7⟩ := h
  refine ⟨fun i x e => ?_, ?_, ?_, fun j j0 j1 => ?_, fun p p0 p1 => ?_⟩
  · have := a1 i x e; rwa [Int.zero_add] at this
  · rwa [Int.zero_add] at a2
  · rwa [Int.zero_add] at a3
  · have := a5 j j0 j1; rwa [Int.zero_add] at this
  · have := a6 p p0 p1; rwa [Int.zero_add] at this
/-- has anything changed: who is up -/
def rouC (M sh : Int) (wk wt D : Int → Int) : List Int → Int → (Int → Int) → Int → Int
  | [], _, _, b => b
  | p :: L, ab, U, b => rouC M sh wk wt D L (if zand (zshr sh p) 1 = 0 then rouV M sh wk wt D ab p else ab) (uA U p (rouV M sh wk wt D ab p)) (if b = 0 ∧ rouV M sh wk wt D ab p = U p then 0 else 1)
theorem bt_par (s p : Int) : zand (zshr s p) 1 = 0 ∨ zand (zshr s p) 1 = 1 := by
  unfold zand
  generalize Int32.ofInt (zshr s p) = a
  have h : (a &&& Int32.ofInt 1).toBitVec.toNat = a.toBitVec.toNat % 2 := by
    rw [Int32.toBitVec_and, BitVec.toNat_and]
    exact Nat.and_two_pow_sub_one_eq_mod a.toBitVec.toNat 1
  rcases Nat.mod_two_eq_zero_or_one a.toBitVec.toNat with e | e
  · left
    rw [e] at h
    have : a &&& Int32.ofInt 1 = 0 := by
      apply Int32.toBitVec.inj
      apply BitVec.eq_of_toNat_eq
      rw [h]; rfl
    rw [this]; rfl
  · right
    rw [e] at h
    have : a &&& Int32.ofInt 1 = 1 := by
      apply Int32.toBitVec.inj
      apply BitVec.eq_of_toNat_eq
      rw [h]; rfl
    rw [this]; rfl
section
variable {d : Nat} {h h0 : LHeap} {Q : Option Value → LHeap → Prop} {wk wt dr tk bh g D : Int → Int} {M P J sh : Int} {z : Nat → Int} {L : List Int}
theorem MC.out {lo hi : Nat} {h1 : LHeap} (c : MC M P J wt tk bh z h) (o : Out lo hi h h1) (e : 159 < lo ∨ hi < 156) : MC M P J wt tk bh z h1 := by
  obtain ⟨a1, a2, ⟨r1, a3, a3b⟩, ⟨r2, a4, a4b⟩, ⟨r3, a5, a5b⟩⟩ := c
  exact ⟨by rw [o.2.2 _ (by omega)]; exact a1, a2, ⟨r1, by rw [o.2.2 _ (by omega)]; exact a3, a3b⟩, ⟨r2, by rw [o.2.2 _ (by omega)]; exact a4, a4b⟩, ⟨r3, by rw [o.2.2 _ (by omega)]; exact a5, a5b⟩⟩
theorem l_mUps (hd : 2 ≤ d) (hB : CapB M P J wk wt dr tk bh) (hS : SC P J L wk dr sh g) (hP : Prs P L) (hl6 : L.length ≤ 6) (hD : TVF D) : ∀ (S pre : List Int) (k ab b : Int) (U : Int → Int) (h : LHeap) (l4 l5 l6 l7 : Option Value), pre ++ S = L → k = (pre.length : Int) → TV ab → TVF U → (b = 0 ∨ b = 1) → MC M P J wt tk bh z h → hRd h 160 = cA 24 g → hRd h 168 = cA 6 U → hRd h 169 = cA 8 D → (∀ h1, hRd h1 168 = cA 6 (rouF M sh wk wt D S ab U) → Out 168 168 h h1 → Q (some (vI (rouC M sh wk wt D S ab U b))) h1) → WPC d 129 7 [some (.ref 156), some (vI b), some (vI ab), some (vI k), l4, l5, l6, l7] [] h Q := by
  obtain ⟨s1, s2, s3, s4, s5⟩ := hS
  have hlen : (L.length : Int) = g 6 := s2.symm
  intro S
  induction S with
  | nil =>
    intro pre k ab b U h l4 l5 l6 l7 hp hk hab hU hb hM h160 h168 h169 kk
    rw [List.append_nil] at hp
    subst hp
    have h1 := hM.1
    rw [WPC_iff]
    simp (disch := omega) only [wr_id, wr_m1, sd_t, nl_I, nl_R, nl_none, c1_I, c1_R, sh_0, sh_1, sh_2, sh_3, sh_4, true_and, and_true, ldA_A, ldB_B, ldS_S, stA_A, stB_B, aL_A, aL_B, aL_S, aC_A, hRd_eq, hRd_ne, cp6, cp8, tl_some, tl_none, List.cons_append, List.nil_append, ofI_t0, ofI_t1, Int.add_zero, Int.zero_add, x129_7, x129_8, x129_9, x129_10, x129_11, x129_12, x129_84, x129_85, gf11_0, pf11_0, gf11_1, pf11_1, gf11_2, pf11_2, gf11_3, gf11_4, gf11_5, gf11_6, gf11_7, pf11_7, gf11_8, gf11_9, pf11_9, gf11_10, pf11_10, gf11_11, pf11_11, gf11_12, pf11_12, gf11_13, pf11_13, gf11_14, gf11_15, pf11_15, gf11_16, gf11_17, pf11_17, gf11_18, gf11_19, gf11_20, gf11_21, gf11_22, gf11_23, gf11_24, pf11_24, gf11_25, gf11_26, gf11_27, gf11_28, pf11_28, gf11_29, pf11_29, gf11_30, gf11_31, gf11_32, pf11_32, gf11_33, gf11_34, gf11_35, pf11_35, gf11_36, gf11_37, gf11_38, gf11_39, uN_eq, uN_ne, h1, h160]
    refine ⟨by omega, fun _ => ?_, fun q => by omega⟩
    exact ⟨ofI_01 hb, kk h h168 Out.refl⟩
  | cons p S ih =>
    intro pre k ab b U h l4 l5 l6 l7 hp hk hab hU hb hM h160 h168 h169 kk
    obtain ⟨h1, hz, -, -, ⟨w, h159, h159b⟩⟩ := id hM
    have hlp : pre.length < L.length := by rw [← hp]; simp
    have hgk : g k = p := by rw [hk]; exact s1 pre.length p (by rw [← hp]; simp)
    have hpP := hP p (by rw [← hp]; simp)
    obtain ⟨b1, b2, b3, b4, b5⟩ := hB
    have hw := b4 p hpP.1 hpP.2
    have hwt := h159b p hpP.1 hpP.2
    have hwk := s5 p hpP.1 hpP.2
    have hB : CapB M P J wk wt dr tk bh := ⟨b1, b2, b3, b4, b5⟩
    have hV := TV_rouV (sh := sh) hB hD hpP.1 hpP.2 hab
    have hWK := TV_wkF (wk := wk) hB hD hpP.1 hpP.2
    have hDt := hD (wt p)
    unfold TV at hV hWK hDt
    have hab2 := hab
    unfold TV at hab2
    have hUp := hU p
    unfold TV at hUp
    rw [rouF, rouC] at kk
    -- behind what he is up at
    have fin : ∀ (fl : Int) (ab1 v : Int), (fl = 0 ∨ fl = 1) → v = rouV M sh wk wt D ab p → ab1 = (if fl = 0 then mx ab v else ab) → (∀ h1, hRd h1 168 = cA 6 (rouF M sh wk wt D S ab1 (uA U p (rouV M sh wk wt D ab p))) → Out 168 168 h h1 → Q (some (vI (rouC M sh wk wt D S ab1 (uA U p (rouV M sh wk wt D ab p)) (if b = 0 ∧ rouV M sh wk wt D ab p = U p then 0 else 1)))) h1) → WP d 129 56 [some (.ref 156), some (vI b), some (vI ab), some (vI k), some (vI p), some (vI (wkF wk wt D p)), some (vI fl), l7] [vI v] h Q := by
      intro fl ab1 v hfl hv hab1 kk
      rw [← hv] at kk hV
      have ow : Out 168 168 h (hWr h 168 (cA 6 (uA U p v))) := Out.refl.wr (by omega) (by omega)
      have hP6 : p < 6 := by omega
      have TVab1 : TV ab1 := by
        rw [hab1]
        unfold TV mx
        split
        · split <;> omega
        · omega
      have TVU : TVF (uA U p v) := by
        intro q
        unfold uA
        split
        · unfold TV; omega
        · exact hU q
      -- the next one
      have nx : ∀ b1 : Int, b1 = (if b = 0 ∧ v = U p then 0 else 1) → WP d 129 69 [some (.ref 156), some (vI b1), some (vI ab), some (vI k), some (vI p), some (vI (wkF wk wt D p)), some (vI fl), some (vI v)] [] h Q := by
        intro b1 hb1
        rw [← hb1] at kk
        have h01 : b1 = 0 ∨ b1 = 1 := by rw [hb1]; split <;> omega
        have ow1 : hRd (hWr h 168 (cA 6 (uA U p v))) 156 = oM z := by rw [hRd_ne (by omega)]; exact h1
        have ww : WP d 129 81 [some (.ref 156), some (vI b1), some (vI ab), some (vI k), some (vI p), some (vI (wkF wk wt D p)), some (vI fl), some (vI v)] [vI ab1] (hWr h 168 (cA 6 (uA U p v))) Q := by
          simp (disch := omega) only [wr_id, wr_m1, sd_t, nl_I, nl_R, nl_none, c1_I, c1_R, sh_0, sh_1, sh_2, sh_3, sh_4, true_and, and_true, ldA_A, ldB_B, ldS_S, stA_A, stB_B, aL_A, aL_B, aL_S, aC_A, hRd_eq, hRd_ne, cp6, cp8, tl_some, tl_none, List.cons_append, List.nil_append, ofI_t0, ofI_t1, Int.add_zero, Int.zero_add, x129_81, x129_82, x129_83, x129_6]
          exact ih (pre ++ [p]) (k + 1) ab1 b1 (uA U p v) _ _ _ _ _ (by rw [List.append_assoc]; exact hp) (by rw [hk]; simp) TVab1 TVU h01 (hM.out ow (by omega)) (by rw [hRd_ne (by omega)]; exact h160) hRd_eq (by rw [hRd_ne (by omega)]; exact h169) (fun h2 e2 o2 => kk h2 e2 (ow.trans o2))
        simp (disch := omega) only [wr_id, wr_m1, sd_t, nl_I, nl_R, nl_none, c1_I, c1_R, sh_0, sh_1, sh_2, sh_3, sh_4, true_and, and_true, ldA_A, ldB_B, ldS_S, stA_A, stB_B, aL_A, aL_B, aL_S, aC_A, hRd_eq, hRd_ne, cp6, cp8, tl_some, tl_none, List.cons_append, List.nil_append, ofI_t0, ofI_t1, Int.add_zero, Int.zero_add, x129_69, x129_70, x129_71, x129_72, x129_73, x129_74, x129_75, x129_76, x129_77, gf11_0, pf11_0, gf11_1, pf11_1, gf11_2, pf11_2, gf11_3, gf11_4, gf11_5, gf11_6, gf11_7, pf11_7, gf11_8, gf11_9, pf11_9, gf11_10, pf11_10, gf11_11, pf11_11, gf11_12, pf11_12, gf11_13, pf11_13, gf11_14, gf11_15, pf11_15, gf11_16, gf11_17, pf11_17, gf11_18, gf11_19, gf11_20, gf11_21, gf11_22, gf11_23, gf11_24, pf11_24, gf11_25, gf11_26, gf11_27, gf11_28, pf11_28, gf11_29, pf11_29, gf11_30, gf11_31, gf11_32, pf11_32, gf11_33, gf11_34, gf11_35, pf11_35, gf11_36, gf11_37, gf11_38, gf11_39, uN_eq, uN_ne, h1, h168]
        refine ⟨by omega, fun q => ?_, fun q => ?_⟩
        · simp (disch := omega) only [wr_id, wr_m1, sd_t, nl_I, nl_R, nl_none, c1_I, c1_R, sh_0, sh_1, sh_2, sh_3, sh_4, true_and, and_true, ldA_A, ldB_B, ldS_S, stA_A, stB_B, aL_A, aL_B, aL_S, aC_A, hRd_eq, hRd_ne, cp6, cp8, tl_some, tl_none, List.cons_append, List.nil_append, ofI_t0, ofI_t1, Int.add_zero, Int.zero_add, x129_78, x129_79, x129_80]
          refine m_later (by omega) (by omega) (by omega) ?_
          have e : mx ab v = ab1 := by rw [hab1, if_pos q]
          rw [e]
          exact ww
        · have e : ab1 = ab := by rw [hab1, if_neg q]
          rw [e] at ww
          exact ww
      simp (disch := omega) only [wr_id, wr_m1, sd_t, nl_I, nl_R, nl_none, c1_I, c1_R, sh_0, sh_1, sh_2, sh_3, sh_4, true_and, and_true, ldA_A, ldB_B, ldS_S, stA_A, stB_B, aL_A, aL_B, aL_S, aC_A, hRd_eq, hRd_ne, cp6, cp8, tl_some, tl_none, List.cons_append, List.nil_append, ofI_t0, ofI_t1, Int.add_zero, Int.zero_add, x129_56, x129_57, x129_58, x129_59, x129_60, x129_61, x129_62, x129_63, x129_64, x129_65, x129_66, x129_67, x129_68, gf11_0, pf11_0, gf11_1, pf11_1, gf11_2, pf11_2, gf11_3, gf11_4, gf11_5, gf11_6, gf11_7, pf11_7, gf11_8, gf11_9, pf11_9, gf11_10, pf11_10, gf11_11, pf11_11, gf11_12, pf11_12, gf11_13, pf11_13, gf11_14, gf11_15, pf11_15, gf11_16, gf11_17, pf11_17, gf11_18, gf11_19, gf11_20, gf11_21, gf11_22, gf11_23, gf11_24, pf11_24, gf11_25, gf11_26, gf11_27, gf11_28, pf11_28, gf11_29, pf11_29, gf11_30, gf11_31, gf11_32, pf11_32, gf11_33, gf11_34, gf11_35, pf11_35, gf11_36, gf11_37, gf11_38, gf11_39, uN_eq, uN_ne, h1, h168]
      exact ⟨fun q => nx 1 (by rw [if_neg (fun z => q z.1)]), fun q => ⟨by omega, fun q2 => nx 0 (by rw [if_pos ⟨by omega, q2⟩]), fun q2 => nx 1 (by rw [if_neg (fun z => q2 z.2)])⟩⟩
    -- behind the choice of what he waits for
    have st : ∀ x : Int, x = (if wt p < 0 then 0 else D (wt p)) → WP d 129 38 [some (.ref 156), some (vI b), some (vI ab), some (vI k), some (vI p), l5, l6, l7] [vI x, vI (wk p)] h Q := by
      intro x hx
      have hxb : 0 ≤ x ∧ x ≤ 1000000 := by rw [hx]; split <;> omega
      simp (disch := omega) only [wr_id, wr_m1, sd_t, nl_I, nl_R, nl_none, c1_I, c1_R, sh_0, sh_1, sh_2, sh_3, sh_4, true_and, and_true, ldA_A, ldB_B, ldS_S, stA_A, stB_B, aL_A, aL_B, aL_S, aC_A, hRd_eq, hRd_ne, cp6, cp8, tl_some, tl_none, List.cons_append, List.nil_append, ofI_t0, ofI_t1, Int.add_zero, Int.zero_add, x129_38]
      refine m_later (by omega) (by omega) (by omega) ?_
      have e0 : mx (wk p) x = wkF wk wt D p := by rw [hx]; rfl
      rw [e0]
      simp (disch := omega) only [wr_id, wr_m1, sd_t, nl_I, nl_R, nl_none, c1_I, c1_R, sh_0, sh_1, sh_2, sh_3, sh_4, true_and, and_true, ldA_A, ldB_B, ldS_S, stA_A, stB_B, aL_A, aL_B, aL_S, aC_A, hRd_eq, hRd_ne, cp6, cp8, tl_some, tl_none, List.cons_append, List.nil_append, ofI_t0, ofI_t1, Int.add_zero, Int.zero_add, x129_39, x129_40, x129_41, x129_42, x129_43, x129_44, x129_45, gf11_0, pf11_0, gf11_1, pf11_1, gf11_2, pf11_2, gf11_3, gf11_4, gf11_5, gf11_6, gf11_7, pf11_7, gf11_8, gf11_9, pf11_9, gf11_10, pf11_10, gf11_11, pf11_11, gf11_12, pf11_12, gf11_13, pf11_13, gf11_14, gf11_15, pf11_15, gf11_16, gf11_17, pf11_17, gf11_18, gf11_19, gf11_20, gf11_21, gf11_22, gf11_23, gf11_24, pf11_24, gf11_25, gf11_26, gf11_27, gf11_28, pf11_28, gf11_29, pf11_29, gf11_30, gf11_31, gf11_32, pf11_32, gf11_33, gf11_34, gf11_35, pf11_35, gf11_36, gf11_37, gf11_38, gf11_39, uN_eq, uN_ne, h1, h160]
      refine ⟨by omega, ?_⟩
      rw [s3]
      refine m_has (by omega) ?_
      have hbt := z_bit (zshr sh p) 1
      have hbt2 : bt sh p = zand (zshr sh p) 1 := rfl
      have hb2 := bt_par sh p
      by_cases e : zand (zshr sh p) 1 = 0
      · rw [if_pos e] at kk
        rw [if_neg (by omega)]
        have ev : rouV M sh wk wt D ab p = inT M (mx (wkF wk wt D p) ab) := by unfold rouV; rw [if_pos e]
        have hmx : 0 ≤ mx (wkF wk wt D p) ab ∧ mx (wkF wk wt D p) ab ≤ 1000000 ∧ ab ≤ mx (wkF wk wt D p) ab := by unfold mx; split <;> omega
        have hge : ab ≤ rouV M sh wk wt D ab p := by rw [ev]; unfold inT; split <;> omega
        simp (disch := omega) only [wr_id, wr_m1, sd_t, nl_I, nl_R, nl_none, c1_I, c1_R, sh_0, sh_1, sh_2, sh_3, sh_4, true_and, and_true, ldA_A, ldB_B, ldS_S, stA_A, stB_B, aL_A, aL_B, aL_S, aC_A, hRd_eq, hRd_ne, cp6, cp8, tl_some, tl_none, List.cons_append, List.nil_append, ofI_t0, ofI_t1, Int.add_zero, Int.zero_add, x129_46, x129_47, x129_48, x129_49, x129_52, x129_53, x129_54]
        refine ⟨fun _ => ?_, fun q => by first | omega | exact absurd trivial q | exact absurd rfl q⟩
        refine m_later (by omega) (by omega) (by omega) ?_
        simp (disch := omega) only [wr_id, wr_m1, sd_t, nl_I, nl_R, nl_none, c1_I, c1_R, sh_0, sh_1, sh_2, sh_3, sh_4, true_and, and_true, ldA_A, ldB_B, ldS_S, stA_A, stB_B, aL_A, aL_B, aL_S, aC_A, hRd_eq, hRd_ne, cp6, cp8, tl_some, tl_none, List.cons_append, List.nil_append, ofI_t0, ofI_t1, Int.add_zero, Int.zero_add, x129_55]
        refine m_inTime (by omega) h1 (by omega) (by omega) ?_
        rw [hz.1, ← ev]
        refine fin 0 _ _ (by omega) rfl ?_ kk
        rw [if_pos rfl]
        unfold mx; split <;> omega
      · rw [if_neg e] at kk
        rw [if_pos (by omega)]
        have ev : rouV M sh wk wt D ab p = inT M (wkF wk wt D p) := by unfold rouV; rw [if_neg e]
        simp (disch := omega) only [wr_id, wr_m1, sd_t, nl_I, nl_R, nl_none, c1_I, c1_R, sh_0, sh_1, sh_2, sh_3, sh_4, true_and, and_true, ldA_A, ldB_B, ldS_S, stA_A, stB_B, aL_A, aL_B, aL_S, aC_A, hRd_eq, hRd_ne, cp6, cp8, tl_some, tl_none, List.cons_append, List.nil_append, ofI_t0, ofI_t1, Int.add_zero, Int.zero_add, x129_46, x129_47, x129_48, x129_49, x129_50, x129_51]
        refine ⟨fun q => by first | omega | exact absurd q (by omega), fun _ => ?_⟩
        simp (disch := omega) only [wr_id, wr_m1, sd_t, nl_I, nl_R, nl_none, c1_I, c1_R, sh_0, sh_1, sh_2, sh_3, sh_4, true_and, and_true, ldA_A, ldB_B, ldS_S, stA_A, stB_B, aL_A, aL_B, aL_S, aC_A, hRd_eq, hRd_ne, cp6, cp8, tl_some, tl_none, List.cons_append, List.nil_append, ofI_t0, ofI_t1, Int.add_zero, Int.zero_add, x129_55]
        refine m_inTime (by omega) h1 (by omega) (by omega) ?_
        rw [hz.1, ← ev]
        refine fin 1 _ _ (by omega) rfl ?_ kk
        rw [if_neg (by omega)]
    rw [WPC_iff]
    simp (disch := omega) only [wr_id, wr_m1, sd_t, nl_I, nl_R, nl_none, c1_I, c1_R, sh_0, sh_1, sh_2, sh_3, sh_4, true_and, and_true, ldA_A, ldB_B, ldS_S, stA_A, stB_B, aL_A, aL_B, aL_S, aC_A, hRd_eq, hRd_ne, cp6, cp8, tl_some, tl_none, List.cons_append, List.nil_append, ofI_t0, ofI_t1, Int.add_zero, Int.zero_add, x129_7, x129_8, x129_9, x129_10, x129_11, x129_12, x129_13, x129_14, x129_15, x129_16, x129_17, x129_18, x129_19, x129_20, x129_21, x129_22, x129_23, x129_24, x129_25, x129_26, x129_27, x129_28, x129_29, x129_30, x129_31, x129_32, x129_33, x129_34, x129_35, x129_36, x129_37, gf11_0, pf11_0, gf11_1, pf11_1, gf11_2, pf11_2, gf11_3, gf11_4, gf11_5, gf11_6, gf11_7, pf11_7, gf11_8, gf11_9, pf11_9, gf11_10, pf11_10, gf11_11, pf11_11, gf11_12, pf11_12, gf11_13, pf11_13, gf11_14, gf11_15, pf11_15, gf11_16, gf11_17, pf11_17, gf11_18, gf11_19, gf11_20, gf11_21, gf11_22, gf11_23, gf11_24, pf11_24, gf11_25, gf11_26, gf11_27, gf11_28, pf11_28, gf11_29, pf11_29, gf11_30, gf11_31, gf11_32, pf11_32, gf11_33, gf11_34, gf11_35, pf11_35, gf11_36, gf11_37, gf11_38, gf11_39, uN_eq, uN_ne, h1, h160, h159, h169, hgk]
    rw [hwt, hwk]
    refine ⟨by omega, fun q => by omega, fun _ => ⟨by omega, by omega, by omega, fun q => ⟨by omega, by omega, ?_⟩, fun q => ?_⟩⟩
    · exact st _ (by rw [if_neg (by omega)])
    · exact st _ (by rw [if_pos (by omega)])
end

-- THE REFERENCE: least harm, bread
theorem eye_tab : ∀ P : Nat, P ≤ 6 → ∀ p : Nat, p < P → bt (zshl 1 (P : Int) - 1) (p : Int) = 1 ∧ bt 63 (p : Int) = 1 := by decide +kernel
theorem rouV_sh {M s1 s2 ab p : Int} {wk wt D : Int → Int} (h : zand (zshr s1 p) 1 = 0 ↔ zand (zshr s2 p) 1 = 0) : rouV M s1 wk wt D ab p = rouV M s2 wk wt D ab p := by
  unfold rouV
  by_cases q : zand (zshr s1 p) 1 = 0
  · rw [if_pos q, if_pos (h.mp q)]
  · rw [if_neg q, if_neg (fun z => q (h.mpr z))]
theorem rou_sh {M s1 s2 : Int} {wk wt D : Int → Int} : ∀ (L : List Int) (ab : Int) (U : Int → Int), (∀ p ∈ L, zand (zshr s1 p) 1 = 0 ↔ zand (zshr s2 p) 1 = 0) → rouF M s1 wk wt D L ab U = rouF M s2 wk wt D L ab U := by
  intro L
  induction L with
  | nil => intro ab U _; rfl
  | cons p L ih =>
    intro ab U h
    have hp := h p List.mem_cons_self
    have hv := rouV_sh (M := M) (wk := wk) (wt := wt) (D := D) (ab := ab) hp
    have hr : ∀ q ∈ L, zand (zshr s1 q) 1 = 0 ↔ zand (zshr s2 q) 1 = 0 := fun q hq => h q (List.mem_cons_of_mem _ hq)
    have ea : (if zand (zshr s1 p) 1 = 0 then rouV M s1 wk wt D ab p else ab) = (if zand (zshr s2 p) 1 = 0 then rouV M s2 wk wt D ab p else ab) := by
      rw [hv]
      by_cases q : zand (zshr s1 p) 1 = 0
      · rw [if_pos q, if_pos (hp.mp q)]
      · rw [if_neg q, if_neg (fun z => q (hp.mpr z))]
    rw [rouF, rouF, ea, hv]
    exact ih _ _ hr
theorem recF_sh {M J s1 s2 : Int} {wk wt dr tk bh : Int → Int} {L : List Int} (h : ∀ p ∈ L, zand (zshr s1 p) 1 = 0 ↔ zand (zshr s2 p) 1 = 0) : ∀ (n : Nat) (kn : Int) (U D : Int → Int), recF M J s1 wk wt dr tk bh L n kn U D = recF M J s2 wk wt dr tk bh L n kn U D := by
  intro n
  induction n with
  | zero => intro kn U D; rfl
  | succ n ih =>
    intro kn U D
    rw [recF, recF, rou_sh (M := M) (wk := wk) (wt := wt) (D := D) L 0 U h, ih]
theorem recD_sh {M J P : Int} {wk wt dr tk bh : Int → Int} {L : List Int} (hP : 0 ≤ P ∧ P ≤ 6) (hL : Prs P L) : recD M J (zshl 1 P - 1) wk wt dr tk bh L = recD M J 63 wk wt dr tk bh L := by
  unfold recD
  rw [recF_sh (fun p hp => ?_)]
  have hp2 := hL p hp
  have := eye_tab P.toNat (by omega) p.toNat (by omega)
  rw [show ((P.toNat : Nat) : Int) = P by omega, show ((p.toNat : Nat) : Int) = p by omega] at this
  have e1 : zand (zshr (zshl 1 P - 1) p) 1 = 1 := this.1
  have e2 : zand (zshr 63 p) 1 = 1 := this.2
  rw [e1, e2]
section
variable {d : Nat} {f wt tk bh kp sd ea la bj bm : Int → Int} {n pl M P J s ct bt : Int} {S : SS} {Hs : List SS} {im : Int → SS} {h : LHeap} {Q : Option Value → LHeap → Prop} {x y w : Int}
theorem m_harm (hd : 6 ≤ d) (c : MI f n pl M P J wt tk bh S Hs kp sd im s ct ea la bt bj bm h) (hB : BD f n pl M P J wt tk bh S Hs kp sd im s ct ea la bt bj bm) (hx : -2147483648 ≤ x ∧ x ≤ 2147483647) (hy : -2147483648 ≤ y ∧ y ≤ 2147483647) (k1 : ¬ (0 ≤ x ∧ x < P) → Q (some (vI (-1000000001))) h) (k2 : 0 ≤ x → x < P → ¬ (0 ≤ y ∧ y ≤ 1) → Q (some (vI (-1000000002))) h) (k3 : 0 ≤ x → x < P → 0 ≤ y → y ≤ 1 → pfrom S.1 x 0 = -1 → Q (some (vI (-1))) h) (k4 : 0 ≤ x → x < P → 0 ≤ y → y ≤ 1 → ¬ pfrom S.1 x 0 = -1 → ∀ h1, MI f n pl M P J wt tk bh S Hs kp sd im s ct ea la bt bj bm h1 → Out 156 180 h h1 → Q (some (vI (if y = 0 then (hpF M J S.2.2.2.1 S.2.1 wt S.2.2.1 tk bh S.1 x S.1.length 0 (-1) (-1)).1 else (hpF M J S.2.2.2.1 S.2.1 wt S.2.2.1 tk bh S.1 x S.1.length 0 (-1) (-1)).2))) h1) : CALL d 163 [.ref 156, vI x, vI y] h Q := by
  obtain ⟨z, g, cR, h160, hSG, hM, hS, hN, h8, m6⟩ := c.go hB
  have h1 := hM.1
  have z1 := hM.2.1.2.1
  have hP6 := hB.2.1.2.1
  have g6 := hN.g6
  have hpf := pfrom_ge S.1 x 0 (by omega)
  refine cl163 (by omega) h1 ?_
  simp (disch := omega) only [wr_id, wr_m1, sd_t, nl_I, nl_R, nl_none, c1_I, c1_R, sh_0, sh_1, sh_2, sh_3, sh_4, true_and, and_true, ldA_A, ldB_B, ldS_S, stA_A, stB_B, aL_A, aL_B, aL_S, aC_A, hRd_eq, hRd_ne, cp6, cp8, tl_some, tl_none, List.cons_append, List.nil_append, ofI_t0, ofI_t1, Int.add_zero, Int.zero_add, x163_0, x163_1, x163_2]
  refine m_isP (by omega) h1 (by rw [z1]; exact hP6) hx ?_
  rw [z1]
  by_cases q : 0 ≤ x ∧ x < P
  · rw [if_pos q]
    simp (disch := omega) only [wr_id, wr_m1, sd_t, nl_I, nl_R, nl_none, c1_I, c1_R, sh_0, sh_1, sh_2, sh_3, sh_4, true_and, and_true, ldA_A, ldB_B, ldS_S, stA_A, stB_B, aL_A, aL_B, aL_S, aC_A, hRd_eq, hRd_ne, cp6, cp8, tl_some, tl_none, List.cons_append, List.nil_append, ofI_t0, ofI_t1, Int.add_zero, Int.zero_add, x163_3, x163_4, x163_5, x163_6, x163_7, x163_8, x163_9, x163_10]
    refine ⟨fun _ => ?_, fun q => by first | omega | exact absurd rfl q | exact absurd trivial q | exact absurd q (by omega)⟩
    refine m_in (by omega) (by omega) (by omega) (by omega) ?_
    by_cases q2 : 0 ≤ y ∧ y ≤ 1
    · rw [if_pos q2]
      simp (disch := omega) only [wr_id, wr_m1, sd_t, nl_I, nl_R, nl_none, c1_I, c1_R, sh_0, sh_1, sh_2, sh_3, sh_4, true_and, and_true, ldA_A, ldB_B, ldS_S, stA_A, stB_B, aL_A, aL_B, aL_S, aC_A, hRd_eq, hRd_ne, cp6, cp8, tl_some, tl_none, List.cons_append, List.nil_append, ofI_t0, ofI_t1, Int.add_zero, Int.zero_add, x163_11, x163_12, x163_13, x163_14, x163_15, x163_16]
      refine ⟨fun _ => ?_, fun q => by first | omega | exact absurd rfl q | exact absurd trivial q | exact absurd q (by omega)⟩
      refine m_placeOf (by omega) h1 h160 hN hB.2.2.1.2.1 hx ?_
      by_cases q3 : pfrom S.1 x 0 = -1
      · rw [q3]
        simp (disch := omega) only [wr_id, wr_m1, sd_t, nl_I, nl_R, nl_none, c1_I, c1_R, sh_0, sh_1, sh_2, sh_3, sh_4, true_and, and_true, ldA_A, ldB_B, ldS_S, stA_A, stB_B, aL_A, aL_B, aL_S, aC_A, hRd_eq, hRd_ne, cp6, cp8, tl_some, tl_none, List.cons_append, List.nil_append, ofI_t0, ofI_t1, Int.add_zero, Int.zero_add, x163_17, x163_18, x163_19, x163_20, x163_21]
        exact ⟨fun q => by first | omega | exact absurd rfl q | exact absurd trivial q | exact absurd q (by omega), fun _ => k3 q.1 q.2 q2.1 q2.2 q3⟩
      · have hpm := pfrom_mem S.1 x 0 (by omega) q3
        have hl := List.length_pos_of_mem hpm
        obtain ⟨h168, h169, ⟨w, h171⟩, -⟩ := id m6
        simp (disch := omega) only [wr_id, wr_m1, sd_t, nl_I, nl_R, nl_none, c1_I, c1_R, sh_0, sh_1, sh_2, sh_3, sh_4, true_and, and_true, ldA_A, ldB_B, ldS_S, stA_A, stB_B, aL_A, aL_B, aL_S, aC_A, hRd_eq, hRd_ne, cp6, cp8, tl_some, tl_none, List.cons_append, List.nil_append, ofI_t0, ofI_t1, Int.add_zero, Int.zero_add, x163_17, x163_18, x163_19, x163_20, x163_21, x163_22, x163_23]
        refine ⟨fun _ => ?_, fun q => by first | omega | exact absurd rfl q | exact absurd trivial q | exact absurd q (by omega)⟩
        refine m_save (by omega) h1 h160 h171 (fun h2 e2 o2 => ?_)
        simp (disch := omega) only [wr_id, wr_m1, sd_t, nl_I, nl_R, nl_none, c1_I, c1_R, sh_0, sh_1, sh_2, sh_3, sh_4, true_and, and_true, ldA_A, ldB_B, ldS_S, stA_A, stB_B, aL_A, aL_B, aL_S, aC_A, hRd_eq, hRd_ne, cp6, cp8, tl_some, tl_none, List.cons_append, List.nil_append, ofI_t0, ofI_t1, Int.add_zero, Int.zero_add, x163_24, x163_25, x163_26, x163_27, x163_28, x163_29, x163_30]
        obtain ⟨u1, h168⟩ := h168
        obtain ⟨u2, h169⟩ := h169
        refine l_mh (by omega) hB.2.1 hM hS hN hB.2.2.1.2.1 hB.2.2.1.1 q2 q3 S.1.length 0 (-1) (-1) 0 h2 _ _ (by omega) (by omega) (by omega) (fun q => absurd rfl q) (by omega) (by omega) (by omega) (by omega) (OS.o171 o2 e2) (by rw [o2.2.2 _ (by omega)]; exact h1) (by rw [o2.2.2 _ (by omega)]; exact h160) ⟨u1, by rw [o2.2.2 _ (by omega)]; exact h168⟩ ⟨u2, by rw [o2.2.2 _ (by omega)]; exact h169⟩ e2 (by rw [nl_none]; trivial) (hpF_ne _ _ _ _ (by omega) (fun _ => rfl) (fun z => by omega)) (fun h3 o3 e3 f3 => ?_)
        exact k4 q.1 q.2 q2.1 q2.2 q3 h3 (MI.os cR o3 e3 (fun _ _ => rfl) f3 hSG) o3.up
    · rw [if_neg q2]
      simp (disch := omega) only [wr_id, wr_m1, sd_t, nl_I, nl_R, nl_none, c1_I, c1_R, sh_0, sh_1, sh_2, sh_3, sh_4, true_and, and_true, ldA_A, ldB_B, ldS_S, stA_A, stB_B, aL_A, aL_B, aL_S, aC_A, hRd_eq, hRd_ne, cp6, cp8, tl_some, tl_none, List.cons_append, List.nil_append, ofI_t0, ofI_t1, Int.add_zero, Int.zero_add, x163_11, x163_12, x163_13]
      exact ⟨fun q => by first | omega | exact absurd rfl q | exact absurd trivial q | exact absurd q (by omega), fun _ => k2 q.1 q.2 q2⟩
  · rw [if_neg q]
    simp (disch := omega) only [wr_id, wr_m1, sd_t, nl_I, nl_R, nl_none, c1_I, c1_R, sh_0, sh_1, sh_2, sh_3, sh_4, true_and, and_true, ldA_A, ldB_B, ldS_S, stA_A, stB_B, aL_A, aL_B, aL_S, aC_A, hRd_eq, hRd_ne, cp6, cp8, tl_some, tl_none, List.cons_append, List.nil_append, ofI_t0, ofI_t1, Int.add_zero, Int.zero_add, x163_3, x163_4, x163_5]
    exact ⟨fun q => by first | omega | exact absurd rfl q | exact absurd trivial q | exact absurd q (by omega), fun _ => k1 q⟩
theorem m_bread (hd : 5 ≤ d) (c : MI f n pl M P J wt tk bh S Hs kp sd im s ct ea la bt bj bm h) (hB : BD f n pl M P J wt tk bh S Hs kp sd im s ct ea la bt bj bm) (hx : -2147483648 ≤ x ∧ x ≤ 2147483647) (k1 : ¬ (0 ≤ x ∧ x < J) → Q (some (vI (-1000000001))) h) (k2 : 0 ≤ x → x < J → ∀ h1, MI f n pl M P J wt tk bh S Hs kp sd im s ct ea la bt bj bm h1 → Out 156 180 h h1 → Q (some (vI ((if rD M J wt tk bh S x = 1000000 then M else rD M J wt tk bh S x) - (if recD M J 63 S.2.1 wt S.2.2.1 tk bh S.1 x = 1000000 then M else recD M J 63 S.2.1 wt S.2.2.1 tk bh S.1 x)))) h1) : CALL d 165 [.ref 156, vI x] h Q := by
  obtain ⟨z, g, cR, h160, hSG, hM, hS, hN, h8, m6⟩ := c.go hB
  have h1 := hM.1
  have z0 := hM.2.1.1
  have z1 := hM.2.1.2.1
  have z2 := hM.2.1.2.2
  have hJ := hB.2.1.2.2.1
  have hP6 := hB.2.1.2.1
  have hP := hB.2.2.1.1
  have hnd := hB.2.2.1.2.1
  have g6 := hN.g6
  have h6 := hN.1.2.1
  refine cl165 (by omega) h1 ?_
  simp (disch := omega) only [wr_id, wr_m1, sd_t, nl_I, nl_R, nl_none, c1_I, c1_R, sh_0, sh_1, sh_2, sh_3, sh_4, true_and, and_true, ldA_A, ldB_B, ldS_S, stA_A, stB_B, aL_A, aL_B, aL_S, aC_A, hRd_eq, hRd_ne, cp6, cp8, tl_some, tl_none, List.cons_append, List.nil_append, ofI_t0, ofI_t1, Int.add_zero, Int.zero_add, x165_0, x165_1, x165_2]
  refine m_isJ (by omega) h1 (by rw [z2]; exact hJ) hx ?_
  rw [z2]
  by_cases q : 0 ≤ x ∧ x < J
  · rw [if_pos q]
    obtain ⟨⟨u1, h168⟩, ⟨u2, h169⟩, -⟩ := id m6
    simp (disch := omega) only [wr_id, wr_m1, sd_t, nl_I, nl_R, nl_none, c1_I, c1_R, sh_0, sh_1, sh_2, sh_3, sh_4, true_and, and_true, ldA_A, ldB_B, ldS_S, stA_A, stB_B, aL_A, aL_B, aL_S, aC_A, hRd_eq, hRd_ne, cp6, cp8, tl_some, tl_none, List.cons_append, List.nil_append, ofI_t0, ofI_t1, Int.add_zero, Int.zero_add, x165_3, x165_4, x165_5, x165_6, x165_7]
    refine ⟨fun _ => ?_, fun q => by first | omega | exact absurd rfl q | exact absurd trivial q | exact absurd q (by omega)⟩
    refine m_settle (by omega) hB.2.1 hS hP h6 hnd hM h160 h168 h169 (fun h2 e2 f2 o2 => ?_)
    have h21 : hRd h2 156 = oM z := by rw [o2.2.2 _ (by omega)]; exact h1
    have h2g : hRd h2 160 = cA 24 g := by rw [o2.2.2 _ (by omega)]; exact h160
    have o12 := OS.set o2 e2 f2
    have hM2 := hM.os o12 h21 ⟨rfl, rfl, rfl⟩
    simp (disch := omega) only [wr_id, wr_m1, sd_t, nl_I, nl_R, nl_none, c1_I, c1_R, sh_0, sh_1, sh_2, sh_3, sh_4, true_and, and_true, ldA_A, ldB_B, ldS_S, stA_A, stB_B, aL_A, aL_B, aL_S, aC_A, hRd_eq, hRd_ne, cp6, cp8, tl_some, tl_none, List.cons_append, List.nil_append, ofI_t0, ofI_t1, Int.add_zero, Int.zero_add, x165_8, x165_9, x165_10]
    refine m_doneOr (by omega) h21 z0 f2 (TVF_recD hB.2.1 hP) (by omega) ?_
    simp (disch := omega) only [wr_id, wr_m1, sd_t, nl_I, nl_R, nl_none, c1_I, c1_R, sh_0, sh_1, sh_2, sh_3, sh_4, true_and, and_true, ldA_A, ldB_B, ldS_S, stA_A, stB_B, aL_A, aL_B, aL_S, aC_A, hRd_eq, hRd_ne, cp6, cp8, tl_some, tl_none, List.cons_append, List.nil_append, ofI_t0, ofI_t1, Int.add_zero, Int.zero_add, x165_11, x165_12, x165_13, x165_14, x165_15, x165_16, x165_17, x165_18, x165_19, x165_20, x165_21, x165_22, x165_23, x165_24, x165_25, x165_26, x165_27, x165_28, gf11_0, pf11_0, gf11_1, pf11_1, gf11_2, pf11_2, gf11_3, gf11_4, gf11_5, gf11_6, gf11_7, pf11_7, gf11_8, gf11_9, pf11_9, gf11_10, pf11_10, gf11_11, pf11_11, gf11_12, pf11_12, gf11_13, pf11_13, gf11_14, gf11_15, pf11_15, gf11_16, gf11_17, pf11_17, gf11_18, gf11_19, gf11_20, gf11_21, gf11_22, gf11_23, gf11_24, pf11_24, gf11_25, gf11_26, gf11_27, gf11_28, pf11_28, gf11_29, pf11_29, gf11_30, gf11_31, gf11_32, pf11_32, gf11_33, gf11_34, gf11_35, pf11_35, gf11_36, gf11_37, gf11_38, gf11_39, uN_eq, uN_ne, h21, h2g, z1]
    refine ⟨by omega, by omega, ?_⟩
    have ow : Out 160 160 h2 (hWr h2 160 (cA 24 (uA g 7 (zshl 1 P - 1)))) := Out.refl.wr (by omega) (by omega)
    have o13 := o12.trans (OS.o160 ow)
    have hS3 : SC P J S.1 S.2.1 S.2.2.1 (zshl 1 P - 1) (uA g 7 (zshl 1 P - 1)) := by
      obtain ⟨s1, s2, s3, s4, s5⟩ := hS
      refine ⟨fun i y hi => ?_, by rw [uA_ne (by omega)]; exact s2, uA_eq, fun j j0 j1 => by rw [uA_ne (by omega)]; exact s4 j j0 j1, fun p p0 p1 => by rw [uA_ne (by omega)]; exact s5 p p0 p1⟩
      have := (List.getElem?_eq_some_iff.mp hi).1
      rw [uA_ne (by omega)]
      exact s1 i y hi
    refine m_settle (by omega) hB.2.1 hS3 hP h6 hnd (hM.os o13 (by rw [hRd_ne (by omega)]; exact h21) ⟨rfl, rfl, rfl⟩) hRd_eq (by rw [hRd_ne (by omega)]; exact e2) (by rw [hRd_ne (by omega)]; exact f2) (fun h4 e4 f4 o4 => ?_)
    have h41 : hRd h4 156 = oM z := by rw [o4.2.2 _ (by omega), hRd_ne (by omega)]; exact h21
    have h4g : hRd h4 160 = cA 24 (uA g 7 (zshl 1 P - 1)) := by rw [o4.2.2 _ (by omega)]; exact hRd_eq
    have o14 := o13.trans (OS.set o4 e4 f4)
    simp (disch := omega) only [wr_id, wr_m1, sd_t, nl_I, nl_R, nl_none, c1_I, c1_R, sh_0, sh_1, sh_2, sh_3, sh_4, true_and, and_true, ldA_A, ldB_B, ldS_S, stA_A, stB_B, aL_A, aL_B, aL_S, aC_A, hRd_eq, hRd_ne, cp6, cp8, tl_some, tl_none, List.cons_append, List.nil_append, ofI_t0, ofI_t1, Int.add_zero, Int.zero_add, x165_29, x165_30, x165_31, x165_32, x165_33, x165_34, x165_35, x165_36, x165_37, gf11_0, pf11_0, gf11_1, pf11_1, gf11_2, pf11_2, gf11_3, gf11_4, gf11_5, gf11_6, gf11_7, pf11_7, gf11_8, gf11_9, pf11_9, gf11_10, pf11_10, gf11_11, pf11_11, gf11_12, pf11_12, gf11_13, pf11_13, gf11_14, gf11_15, pf11_15, gf11_16, gf11_17, pf11_17, gf11_18, gf11_19, gf11_20, gf11_21, gf11_22, gf11_23, gf11_24, pf11_24, gf11_25, gf11_26, gf11_27, gf11_28, pf11_28, gf11_29, pf11_29, gf11_30, gf11_31, gf11_32, pf11_32, gf11_33, gf11_34, gf11_35, pf11_35, gf11_36, gf11_37, gf11_38, gf11_39, uN_eq, uN_ne, h41, h4g]
    refine ⟨by omega, ?_⟩
    have ow4 : Out 160 160 h4 (hWr h4 160 (cA 24 (uA (uA g 7 (zshl 1 P - 1)) 7 (g 7)))) := Out.refl.wr (by omega) (by omega)
    refine m_doneOr (by omega) (by rw [hRd_ne (by omega)]; exact h41) z0 (by rw [hRd_ne (by omega)]; exact f4) (TVF_recD hB.2.1 hP) (by omega) ?_
    simp (disch := omega) only [wr_id, wr_m1, sd_t, nl_I, nl_R, nl_none, c1_I, c1_R, sh_0, sh_1, sh_2, sh_3, sh_4, true_and, and_true, ldA_A, ldB_B, ldS_S, stA_A, stB_B, aL_A, aL_B, aL_S, aC_A, hRd_eq, hRd_ne, cp6, cp8, tl_some, tl_none, List.cons_append, List.nil_append, ofI_t0, ofI_t1, Int.add_zero, Int.zero_add, x165_38, x165_39]
    rw [recD_sh hP6 hP]
    refine k2 q.1 q.2 _ (MI.os cR (o14.trans (OS.o160 ow4)) (by rw [hRd_ne (by omega)]; exact h41) (fun _ _ => rfl) (g1 := g) ?_ hSG) (o14.trans (OS.o160 ow4)).up
    rw [hRd_eq]
    congr 1
    funext j
    unfold uA
    split
    · rename_i e; rw [e]
    · rfl
  · rw [if_neg q]
    simp (disch := omega) only [wr_id, wr_m1, sd_t, nl_I, nl_R, nl_none, c1_I, c1_R, sh_0, sh_1, sh_2, sh_3, sh_4, true_and, and_true, ldA_A, ldB_B, ldS_S, stA_A, stB_B, aL_A, aL_B, aL_S, aC_A, hRd_eq, hRd_ne, cp6, cp8, tl_some, tl_none, List.cons_append, List.nil_append, ofI_t0, ofI_t1, Int.add_zero, Int.zero_add, x165_3, x165_4, x165_5]
    exact ⟨fun q => by first | omega | exact absurd rfl q | exact absurd trivial q | exact absurd q (by omega), fun _ => k1 q⟩
end

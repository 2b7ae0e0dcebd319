-- STATES, HISTORY, IMAGES
/-- the order, W, who does, who is shut, mornings -/
abbrev SS : Type := List Int × (Int → Int) × (Int → Int) × Int × Int
def StAt (b : Nat) (S : SS) (h : LHeap) : Prop := hRd h b = oState (b + 1) (b + 3) (b + 4) S.2.2.2.1 S.2.2.2.2 ∧ (∃ f, hRd h (b + 1) = oRow (b + 2) S.1.length ∧ hRd h (b + 2) = cA 6 f ∧ RI f S.1.length S.1) ∧ hRd h (b + 3) = cA 6 S.2.1 ∧ hRd h (b + 4) = cA 8 S.2.2.1
theorem StAt.out {b lo hi : Nat} {S : SS} {h h1 : LHeap} (hs : StAt b S h) (o : Out lo hi h h1) (e : b + 4 < lo ∨ hi < b) : StAt b S h1 := by
  obtain ⟨a1, ⟨f, a2, a3, a4⟩, a5, a6⟩ := hs
  exact ⟨by rw [o.2.2 _ (by omega)]; exact a1, ⟨f, by rw [o.2.2 _ (by omega)]; exact a2, by rw [o.2.2 _ (by omega)]; exact a3, a4⟩, by rw [o.2.2 _ (by omega)]; exact a5, by rw [o.2.2 _ (by omega)]; exact a6⟩
theorem RI.cp {f g : Int → Int} {m : Int} {L : List Int} (h : RI f m L) : RI (cpF f 0 g 0 6) m L := by
  obtain ⟨h1, h2, h3, h4⟩ := h
  refine ⟨h1, h2, fun i x hx => ?_, h4⟩
  have hl := (List.getElem?_eq_some_iff.mp hx).1
  unfold cpF
  rw [if_pos (by omega), show (0 + ((i : Int) - 0)) = (i : Int) by omega]
  exact h3 i x hx
section
variable {d b b2 : Nat} {h : LHeap} {Q : Option Value → LHeap → Prop} {S S2 : SS}
theorem s_St_become (hd : 3 ≤ d) (hs : StAt b S h) (hs2 : StAt b2 S2 h) (hne : b + 4 < b2 ∨ b2 + 4 < b) (h0 : 0 < b) (h02 : 0 < b2) (kk : ∀ h1, StAt b S2 h1 → Out b (b + 4) h h1 → Q none h1) : CALL d 56 [.ref b, .ref b2] h Q := by
  obtain ⟨a1, ⟨f, a2, a3, a4⟩, a5, a6⟩ := hs
  obtain ⟨c1, ⟨f2, c2, c3, c4⟩, c5, c6⟩ := hs2
  refine cl56 (by omega) a1 ?_
  simp (disch := omega) only [wr_id, wr_m1, sd_t, nl_I, nl_R, nl_none, c1_I, c1_R, sh_0, sh_1, sh_2, sh_3, sh_4, true_and, and_true, ldA_A, ldB_B, ldS_S, stA_A, stB_B, aL_A, aL_B, aL_S, aC_A, hRd_eq, hRd_ne, cp6, cp8, tl_some, tl_none, List.cons_append, List.nil_append, ofI_t0, ofI_t1, Int.add_zero, Int.zero_add, x56_0, x56_1, x56_2, x56_3, x56_4, x56_5, x56_6, x56_7, x56_8, x56_9, x56_10, x56_11, x56_12, x56_13, x56_14, x56_15, x56_16, x56_17, x56_18, x56_19, x56_20, x56_21, x56_22, x56_23, x56_24, x56_25, x56_26, x56_27, x56_28, x56_29, gf7_0, gf7_1, gf7_2, gf7_3, pf7_3, gf7_4, pf7_4, a1, c1]
  refine s_Row_become (by omega) a2 a3 c2 c3 (by omega) (by omega) (by omega) (by omega) ?_
  simp (disch := omega) only [wr_id, wr_m1, sd_t, nl_I, nl_R, nl_none, c1_I, c1_R, sh_0, sh_1, sh_2, sh_3, sh_4, true_and, and_true, ldA_A, ldB_B, ldS_S, stA_A, stB_B, aL_A, aL_B, aL_S, aC_A, hRd_eq, hRd_ne, cp6, cp8, tl_some, tl_none, List.cons_append, List.nil_append, ofI_t0, ofI_t1, Int.add_zero, Int.zero_add, x56_0, x56_1, x56_2, x56_3, x56_4, x56_5, x56_6, x56_7, x56_8, x56_9, x56_10, x56_11, x56_12, x56_13, x56_14, x56_15, x56_16, x56_17, x56_18, x56_19, x56_20, x56_21, x56_22, x56_23, x56_24, x56_25, x56_26, x56_27, x56_28, x56_29, gf7_0, gf7_1, gf7_2, gf7_3, pf7_3, gf7_4, pf7_4, a1, c1, a5, c5, a6, c6, hWr_same]
  refine ⟨⟨by omega, by omega⟩, ⟨by omega, by omega⟩, ?_⟩
  apply kk
  · refine ⟨?_, ⟨f2, ?_, ?_, c4⟩, ?_, ?_⟩ <;> simp (disch := omega) only [hRd_eq, hRd_ne]
  · exact ((((Out.refl.wr (by omega) (by omega)).wr (by omega) (by omega)).wr (by omega) (by omega)).wr (by omega) (by omega)).wr (by omega) (by omega)
end
/-- the slot that was written k ago, the next one being nx -/
def slotH (nx : Int) (k : Nat) : Nat := ((nx + 39 - k) % 20).toNat
def histR : Int → Nat := fun i => 27 + 5 * i.toNat
def HiAt (Hs : List SS) (h : LHeap) : Prop := ∃ nx : Int, hRd h 25 = oHist 26 nx Hs.length ∧ 0 ≤ nx ∧ nx ≤ 20 ∧ Hs.length ≤ 20 ∧ hRd h 26 = cS 20 histR ∧ (∀ j : Nat, j < 20 → ∃ S, StAt (27 + 5 * j) S h) ∧ ∀ (k : Nat) (S : SS), Hs[k]? = some S → StAt (27 + 5 * slotH nx k) S h
theorem HiAt.out {Hs : List SS} {lo hi : Nat} {h h1 : LHeap} (hh : HiAt Hs h) (o : Out lo hi h h1) (e : 126 < lo ∨ hi < 25) : HiAt Hs h1 := by
  obtain ⟨nx, a1, a2, a3, a4, a5, a6, a7⟩ := hh
  refine ⟨nx, by rw [o.2.2 _ (by omega)]; exact a1, a2, a3, a4, by rw [o.2.2 _ (by omega)]; exact a5, fun j hj => ?_, fun k S hk => ?_⟩
  · obtain ⟨S, hS⟩ := a6 j hj
    exact ⟨S, hS.out o (by omega)⟩
  · refine (a7 k S hk).out o ?_
    have : slotH nx k < 20 := by unfold slotH; omega
    omega
section
variable {d b : Nat} {h : LHeap} {Q : Option Value → LHeap → Prop} {S : SS} {Hs : List SS}
theorem s_remember (hd : 4 ≤ d) (hh : HiAt Hs h) (hs : StAt b S h) (hb : (0 < b ∧ b + 4 < 25) ∨ 126 < b) (kk : ∀ h1, HiAt ((S :: Hs).take 20) h1 → Out 25 126 h h1 → Q none h1) : CALL d 22 [.ref 25, .ref b] h Q := by
  obtain ⟨nx, a1, a2, a3, a4, a5, a6, a7⟩ := hh
  refine cl22 (by omega) a1 ?_
  -- with the next slot known
  have key : ∀ h2 : LHeap, ∀ n2 : Int, 0 ≤ n2 → n2 < 20 → (n2 - nx) % 20 = 0 → hRd h2 25 = oHist 26 n2 Hs.length → Out 25 25 h h2 → WP (d - 1) 22 12 [some (.ref 25), some (.ref b), none] [] h2 Q := by
    intro h2 n2 hn0 hn1 hmod e25 o2
    have e26 : hRd h2 26 = cS 20 histR := by rw [o2.2.2 _ (by omega)]; exact a5
    simp (disch := omega) only [wr_id, wr_m1, sd_t, nl_I, nl_R, nl_none, c1_I, c1_R, sh_0, sh_1, sh_2, sh_3, sh_4, true_and, and_true, ldA_A, ldB_B, ldS_S, stA_A, stB_B, aL_A, aL_B, aL_S, aC_A, hRd_eq, hRd_ne, cp6, cp8, tl_some, tl_none, List.cons_append, List.nil_append, ofI_t0, ofI_t1, Int.add_zero, Int.zero_add, x22_0, x22_1, x22_2, x22_3, x22_4, x22_5, x22_6, x22_7, x22_8, x22_9, x22_10, x22_11, x22_12, x22_13, x22_14, x22_15, x22_16, x22_17, x22_18, x22_19, x22_20, x22_21, x22_22, x22_23, x22_24, x22_25, x22_26, x22_27, x22_28, x22_29, x22_30, x22_31, x22_32, x22_33, x22_34, x22_35, x22_36, x22_37, gf3_1, gf3_0, pf3_1, gf3_2, pf3_2, e25, e26]
    refine ⟨⟨hn0, by omega⟩, ?_⟩
    obtain ⟨S0, hS0⟩ := a6 n2.toNat (by omega)
    have hS0' : StAt (histR n2) S0 h2 := hS0.out o2 (by omega)
    have hs' : StAt b S h2 := hs.out o2 (by omega)
    have hr : histR n2 = 27 + 5 * n2.toNat := rfl
    refine s_St_become (by omega) hS0' hs' (by rw [hr]; omega) (by rw [hr]; omega) (by omega) (fun h3 hS3 o3 => ?_)
    have e25b : hRd h3 25 = oHist 26 n2 Hs.length := by rw [o3.2.2 _ (by rw [hr]; omega)]; exact e25
    simp (disch := omega) only [wr_id, wr_m1, sd_t, nl_I, nl_R, nl_none, c1_I, c1_R, sh_0, sh_1, sh_2, sh_3, sh_4, true_and, and_true, ldA_A, ldB_B, ldS_S, stA_A, stB_B, aL_A, aL_B, aL_S, aC_A, hRd_eq, hRd_ne, cp6, cp8, tl_some, tl_none, List.cons_append, List.nil_append, ofI_t0, ofI_t1, Int.add_zero, Int.zero_add, x22_0, x22_1, x22_2, x22_3, x22_4, x22_5, x22_6, x22_7, x22_8, x22_9, x22_10, x22_11, x22_12, x22_13, x22_14, x22_15, x22_16, x22_17, x22_18, x22_19, x22_20, x22_21, x22_22, x22_23, x22_24, x22_25, x22_26, x22_27, x22_28, x22_29, x22_30, x22_31, x22_32, x22_33, x22_34, x22_35, x22_36, x22_37, gf3_1, gf3_0, pf3_1, gf3_2, pf3_2, e25b, hWr_same]
    have o4 : Out 25 126 h h3 := (o2.widen (by omega) (by omega)).trans (o3.widen (by rw [hr]; omega) (by rw [hr]; omega))
    apply kk
    · refine ⟨n2 + 1, ?_, by omega, by omega, by simp; omega, ?_, fun j hj => ?_, fun k S1 hk => ?_⟩
      · rw [hRd_eq]
        congr 1
        simp only [List.length_take, List.length_cons]
        split <;> omega
      · rw [hRd_ne (by omega), o3.2.2 _ (by rw [hr]; omega)]
        exact e26
      · by_cases ej : j = n2.toNat
        · subst ej
          exact ⟨S, StAt.out (b := 27 + 5 * n2.toNat) hS3 (Out.refl.wr (lo := 25) (hi := 25) (by omega) (by omega)) (by omega)⟩
        · obtain ⟨S1, h9⟩ := a6 j hj
          exact ⟨S1, ((h9.out o2 (by omega)).out o3 (by rw [hr]; omega)).out (Out.refl.wr (lo := 25) (hi := 25) (by omega) (by omega)) (by omega)⟩
      · cases k with
        | zero =>
          have : S1 = S := by simp at hk; exact hk.symm
          subst this
          have e9 : slotH (n2 + 1) 0 = n2.toNat := by unfold slotH; omega
          rw [e9]
          exact StAt.out (b := 27 + 5 * n2.toNat) hS3 (Out.refl.wr (lo := 25) (hi := 25) (by omega) (by omega)) (by omega)
        | succ k =>
          have hk2 : k + 1 < 20 := by
            have := (List.getElem?_eq_some_iff.mp hk).1
            simp only [List.length_take, List.length_cons] at this
            omega
          have hk3 : Hs[k]? = some S1 := by
            rw [List.getElem?_take, if_pos hk2] at hk
            exact hk
          have e9 : slotH (n2 + 1) (k + 1) = slotH nx k := by unfold slotH; omega
          have e10 : ¬ slotH nx k = n2.toNat := by unfold slotH; omega
          have e11 : slotH nx k < 20 := by unfold slotH; omega
          rw [e9]
          exact (((a7 k S1 hk3).out o2 (by omega)).out o3 (by rw [hr]; omega)).out (Out.refl.wr (lo := 25) (hi := 25) (by omega) (by omega)) (by omega)
    · exact o4.wr (by omega) (by omega)
  simp (disch := omega) only [wr_id, wr_m1, sd_t, nl_I, nl_R, nl_none, c1_I, c1_R, sh_0, sh_1, sh_2, sh_3, sh_4, true_and, and_true, ldA_A, ldB_B, ldS_S, stA_A, stB_B, aL_A, aL_B, aL_S, aC_A, hRd_eq, hRd_ne, cp6, cp8, tl_some, tl_none, List.cons_append, List.nil_append, ofI_t0, ofI_t1, Int.add_zero, Int.zero_add, x22_0, x22_1, x22_2, x22_3, x22_4, x22_5, x22_6, x22_7, x22_8, x22_9, x22_10, x22_11, gf3_0, gf3_1, pf3_1, a1, a5]
  refine ⟨fun q => by omega, fun _ => ⟨fun q => ?_, fun q => ?_⟩⟩
  · exact key h nx a2 q (by omega) a1 Out.refl
  · exact key _ 0 (by omega) (by omega) (by omega) hRd_eq (Out.refl.wr (by omega) (by omega))
end

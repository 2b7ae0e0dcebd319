-- THE LAW, from its first instruction
theorem run_ex : ∃ hB hD : LHeap, runF 3000 9 70 0 (entL 70 [.ref 1]) [] hA = some (none, hB) ∧ hB.1 = 156 ∧ runF 3000 9 109 0 (entL 109 [.ref 156]) [] (hN11 hB) = some (none, hD) ∧ ckAll hD = true := by
  have h := ckRun_ok
  unfold ckRun at h
  generalize runF 3000 9 70 0 (entL 70 [.ref 1]) [] hA = r1 at h ⊢
  match r1, h with
  | some (none, hB), h =>
    simp only [Bool.and_eq_true, decide_eq_true_eq] at h
    obtain ⟨h1, h2⟩ := h
    refine ⟨hB, ?_⟩
    generalize runF 3000 9 109 0 (entL 109 [.ref 156]) [] (hN11 hB) = r2 at h2 ⊢
    match r2, h2 with
    | some (none, hD), h2 => exact ⟨hD, rfl, h1, rfl, h2⟩
    | none, h2 => cases h2
    | some (some _, _), h2 => cases h2
  | none, h => cases h
  | some (some _, _), h => cases h
section
variable {c : LCell} {h : LHeap}
theorem ckS_up {b : Nat} (hb : 0 < b) : ckS b (upc c h) = ckS b h := by
  have e : ∀ a, 0 < a → (upc c h).2.2 a = h.2.2 a := fun a ha => if_neg (by omega)
  unfold ckS
  rw [e b hb, e (b + 1) (by omega), e (b + 2) (by omega), e (b + 3) (by omega), e (b + 4) (by omega)]
theorem arrs_pos : ∀ q ∈ arrs, 0 < q.1 := by
  have h : arrs.all (fun q => decide (0 < q.1)) = true := by decide +kernel
  exact fun q hq => of_decide_eq_true (List.all_eq_true.mp h q hq)
theorem objs_pos : ∀ q ∈ objs, 0 < q.1 := by
  have h : objs.all (fun q => decide (0 < q.1)) = true := by decide +kernel
  exact fun q hq => of_decide_eq_true (List.all_eq_true.mp h q hq)
theorem ckAll_up (k : ckAll h = true) : ckAll (upc c h) = true := by
  unfold ckAll at k ⊢
  simp only [Bool.and_eq_true, decide_eq_true_eq] at k ⊢
  obtain ⟨⟨⟨⟨⟨⟨⟨s1, s2⟩, e1⟩, e2⟩, e17⟩, e131⟩, e136⟩, e27⟩ := k
  refine ⟨⟨⟨⟨⟨⟨⟨s1, s2⟩, List.all_eq_true.mpr (fun q hq => ?_)⟩, List.all_eq_true.mpr (fun q hq => ?_)⟩, by rw [ckS_up (by omega)]; exact e17⟩, by rw [ckS_up (by omega)]; exact e131⟩, by rw [ckS_up (by omega)]; exact e136⟩, List.all_eq_true.mpr (fun j hj => ?_)⟩
  · have := objs_pos q hq
    have h2 := of_decide_eq_true (List.all_eq_true.mp e1 q hq)
    refine decide_eq_true ?_
    show (if q.1 = 0 then c else h.2.2 q.1) = q.2
    rw [if_neg (by omega)]
    exact h2
  · have := arrs_pos q hq
    have h2 := of_decide_eq_true (List.all_eq_true.mp e2 q hq)
    refine decide_eq_true ?_
    show (if q.1 = 0 then c else h.2.2 q.1) = cA q.2 zer
    rw [if_neg (by omega)]
    exact h2
  · rw [ckS_up (by omega)]
    exact List.all_eq_true.mp e27 j hj
end
theorem law_ok : LawOK := by
  intro L xs hL
  obtain ⟨hB, hD, r1, b1, r2, k⟩ := run_ex
  let c : LCell := some (.inr (.int, (List.range L).map fun j => .int (xs j)))
  have e0 : lawH L xs = upc c (1, 0, fun _ => none) := rfl
  have hc : c = cA L (fun i => (xs i.toNat).toInt) := by
    have hl : ((List.range L).map fun j => Value.int (xs j)) = (List.range L).map fun (j : Nat) => vI ((xs (j : Int).toNat).toInt) := List.map_congr_left (fun j _ => by rw [Int.toNat_natCast]; exact vI_of (xs j))
    show some (Sum.inr (FieldType.int, (List.range L).map fun j => Value.int (xs j))) = cA L (fun i => (xs i.toNat).toInt)
    rw [hl]
    rfl
  have okA : ok0 hA := ⟨by decide +kernel, by decide +kernel⟩
  obtain ⟨u1, okB⟩ := runF_up (c := c) 3000 okA r1
  have okN : ok0 (hN11 hB) := ok_new okB
  obtain ⟨u2, okD⟩ := runF_up (c := c) 3000 okN r2
  obtain ⟨iv, s1, s2⟩ := start_iv (ckAll_up (c := c) k)
  have main : WP 10 184 0 (entL 184 [.ref 0]) [] (lawH L xs) (fun v h1 => v = some (vI 1) ∧ h1.1 = 181 ∧ h1.2.1 = 2129) := by
    have ee : entL 184 [.ref 0] = [some (.ref 0), none, none, none] := by decide +kernel
    rw [ee]
    refine (WP_step (t := none) (show (lcode 184)[0]? = some (.new 10) by decide +kernel) (ls1 := [some (.ref 0), none, none, none]) (st1 := [.ref 1]) (h1 := upc c hA) ?_).mpr ?_
    · show some (Sum.inl (none, _, _, hNew (upc c (1, 0, fun _ => none)) (clsN 10) (some (.inl (10, clsDef 10))))) = _
      rw [up_new (by decide)]
      rfl
    show WP 10 184 1 [some (.ref 0), none, none, none] [.ref 1] (upc c hA) _
    simp (disch := omega) only [wr_id, wr_m1, sd_t, nl_I, nl_R, nl_none, c1_I, c1_R, sh_0, sh_1, sh_2, sh_3, sh_4, true_and, and_true, ldA_A, ldB_B, ldS_S, stA_A, stB_B, aL_A, aL_B, aL_S, aC_A, hRd_eq, hRd_ne, cp6, cp8, tl_some, tl_none, List.cons_append, List.nil_append, ofI_t0, ofI_t1, Int.add_zero, Int.zero_add, x184_1, x184_2]
    refine ⟨by omega, callOk_up okA (by decide +kernel), 3000, none, upc c hB, u1, ?_⟩
    simp (disch := omega) only [wr_id, wr_m1, sd_t, nl_I, nl_R, nl_none, c1_I, c1_R, sh_0, sh_1, sh_2, sh_3, sh_4, true_and, and_true, ldA_A, ldB_B, ldS_S, stA_A, stB_B, aL_A, aL_B, aL_S, aC_A, hRd_eq, hRd_ne, cp6, cp8, tl_some, tl_none, List.cons_append, List.nil_append, ofI_t0, ofI_t1, Int.add_zero, Int.zero_add, x184_3]
    refine (WP_step (t := none) (show (lcode 184)[4]? = some (.new 11) by decide +kernel) (ls1 := [some (.ref 0), some (.ref 1), none, none]) (st1 := [.ref 156]) (h1 := upc c (hN11 hB)) ?_).mpr ?_
    · show some (Sum.inl (none, _, [Value.ref hB.1], hNew (upc c hB) (clsN 11) (some (.inl (11, clsDef 11))))) = _
      rw [up_new okB.1, b1]
      rfl
    show WP 10 184 5 [some (.ref 0), some (.ref 1), none, none] [.ref 156] (upc c (hN11 hB)) _
    simp (disch := omega) only [wr_id, wr_m1, sd_t, nl_I, nl_R, nl_none, c1_I, c1_R, sh_0, sh_1, sh_2, sh_3, sh_4, true_and, and_true, ldA_A, ldB_B, ldS_S, stA_A, stB_B, aL_A, aL_B, aL_S, aC_A, hRd_eq, hRd_ne, cp6, cp8, tl_some, tl_none, List.cons_append, List.nil_append, ofI_t0, ofI_t1, Int.add_zero, Int.zero_add, x184_5, x184_6]
    have hrec : hRd (hN11 hB) 156 = some (.inl (11, clsDef 11)) := by
      show (if 156 = hB.1 then _ else _) = _
      rw [b1]
      rfl
    have hcall : callOk 109 [.ref 156] (hN11 hB) = true := by
      unfold callOk
      rw [Bool.and_eq_true]
      refine ⟨by decide +kernel, ?_⟩
      rw [Bool.or_eq_true]
      right
      unfold isRecv
      simp only [hrec]
      decide +kernel
    refine ⟨by omega, callOk_up okN hcall, 3000, none, upc c hD, u2, ?_⟩
    simp (disch := omega) only [wr_id, wr_m1, sd_t, nl_I, nl_R, nl_none, c1_I, c1_R, sh_0, sh_1, sh_2, sh_3, sh_4, true_and, and_true, ldA_A, ldB_B, ldS_S, stA_A, stB_B, aL_A, aL_B, aL_S, aC_A, hRd_eq, hRd_ne, cp6, cp8, tl_some, tl_none, List.cons_append, List.nil_append, ofI_t0, ofI_t1, Int.add_zero, Int.zero_add, x184_7, x184_8, x184_9, x184_10]
    refine l_law hL (fun i => ⟨?_, ?_⟩) L 0 (upc c hD) (by omega) (by omega) (by omega) iv (by rw [hRd_up0]; exact hc) s1 s2 (fun h1 q1 q2 => ⟨rfl, q1, q2⟩)
    · have := Int32.le_toInt (xs i.toNat); omega
    · have := Int32.toInt_lt (xs i.toNat); omega
  obtain ⟨m, v, h1, hr, hv, q1, q2⟩ := main
  refine ⟨m, h1, ?_, by omega, by omega⟩
  rw [hr, hv]
  rfl

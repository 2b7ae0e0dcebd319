-- THE READER: clauses
abbrev CC := Int × Int × Int × (Int → Int) × (Int → Int) × (Int → Int) × (Int → Int) × (Int → Int)
/-- a clause's fault (0: none), its place, the draft afterwards, where the reading goes on -/
abbrev CR := Int × Int × CC × Int
def CiC (b : Nat) (D : CC) (h : LHeap) : Prop := CiAt b D.1 D.2.1 D.2.2.1 D.2.2.2.1 D.2.2.2.2.1 D.2.2.2.2.2.1 D.2.2.2.2.2.2.1 D.2.2.2.2.2.2.2 h
def DB (D : CC) : Prop := CapB D.1 D.2.1 D.2.2.1 D.2.2.2.1 D.2.2.2.2.1 D.2.2.2.2.2.1 D.2.2.2.2.2.2.1 D.2.2.2.2.2.2.2 ∧ ∀ i, -1 ≤ D.2.2.2.2.1 i ∧ D.2.2.2.2.1 i ≤ 7
def nuC (f : Int → Int) (n lo hi a : Int) (D : CC) (k : CR) : CR := if nK f n lo hi a = 0 then k else (nK f n lo hi a, nA f n a, D, a)
def enC (f : Int → Int) (n a : Int) (D D1 : CC) : CR := if sk f n a < n ∧ f (sk f n a) = 59 then (0, -1, D1, sk f n a + 1) else (1, sk f n a, D, a)
def addP (D : CC) (x : Int) : CC := (D.1, D.2.1 + 1, D.2.2.1, uA D.2.2.2.1 D.2.1 x, uA D.2.2.2.2.1 D.2.1 (-1), D.2.2.2.2.2)
def addJ (D : CC) (x y z : Int) : CC := (D.1, D.2.1, D.2.2.1 + 1, D.2.2.2.1, D.2.2.2.2.1, uA D.2.2.2.2.2.1 D.2.2.1 x, uA D.2.2.2.2.2.2.1 D.2.2.1 y, uA D.2.2.2.2.2.2.2 D.2.2.1 z)
def addW (D : CC) (p j : Int) : CC := (D.1, D.2.1, D.2.2.1, D.2.2.2.1, uA D.2.2.2.2.1 p j, D.2.2.2.2.2)
def cM (f : Int → Int) (n w : Int) (D : CC) : CR := if D.1 = 0 then nuC f n 10 999 (w + 1) D (enC f n (nB f n (w + 1)) D (nV f n (w + 1), D.2)) else (3, w, D, w)
def cP (f : Int → Int) (n w : Int) (D : CC) : CR := if D.2.1 < 6 then nuC f n 0 999 (w + 1) D (enC f n (nB f n (w + 1)) D (addP D (nV f n (w + 1)))) else (3, w, D, w)
def cJ (f : Int → Int) (n w : Int) (D : CC) : CR :=
  if D.2.2.1 < 8 then nuC f n 0 (D.2.1 - 1) (w + 1) D (nuC f n 1 99 (nB f n (w + 1)) D (nuC f n 0 999 (nB f n (nB f n (w + 1))) D
    (if nV f n (nB f n (nB f n (w + 1))) = 9 ∨ nV f n (nB f n (nB f n (w + 1))) < D.2.2.1 then
      enC f n (nB f n (nB f n (nB f n (w + 1)))) D (addJ D (nV f n (w + 1)) (nV f n (nB f n (w + 1))) (if nV f n (nB f n (nB f n (w + 1))) = 9 then -1 else nV f n (nB f n (nB f n (w + 1)))))
    else (2, nA f n (nB f n (nB f n (w + 1))), D, w))))
  else (3, w, D, w)
def cW (f : Int → Int) (n w : Int) (D : CC) : CR :=
  nuC f n 0 (D.2.1 - 1) (w + 1) D (if D.2.2.2.2.1 (nV f n (w + 1)) = -1 then nuC f n 0 (D.2.2.1 - 1) (nB f n (w + 1)) D (enC f n (nB f n (nB f n (w + 1))) D (addW D (nV f n (w + 1)) (nV f n (nB f n (w + 1))))) else (4, nA f n (w + 1), D, w))
def clF (f : Int → Int) (n w : Int) (D : CC) : CR :=
  if f w = 99 then cM f n w D else if D.1 = 0 then (1, w, D, w) else if f w = 112 then cP f n w D else if f w = 106 then cJ f n w D else if f w = 119 then cW f n w D else (1, w, D, w)
/-- the fault's end -/
def FP (Q : Option Value → LHeap → Prop) (h0 : LHeap) (f : Int → Int) (n a tr pl : Int) : Prop := ∀ h1 D1 a1 na1, RdAt f n tr pl a1 na1 h1 → CiC 4 D1 h1 → DB D1 → a ≤ a1 → a1 ≤ n → Out 2 9 h0 h1 → Q none h1
def PC (Q : Option Value → LHeap → Prop) (h0 : LHeap) (f : Int → Int) (n a : Int) (r : CR) : Prop := (¬ r.1 = 0 → FP Q h0 f n a r.1 r.2.1) ∧ (r.1 = 0 → ∀ h1 na1, RdAt f n 0 (-1) r.2.2.2 na1 h1 → CiC 4 r.2.2.1 h1 → DB r.2.2.1 → a ≤ r.2.2.2 → r.2.2.2 ≤ n → Out 2 9 h0 h1 → Q none h1)
section
variable {d : Nat} {h h0 : LHeap} {Q : Option Value → LHeap → Prop} {f wk wt dr tk bh : Int → Int} {n tr pl a na M P J w : Int} {D : CC}
theorem PC.nu {lo hi a1 : Int} {k : CR} (hp : PC Q h f n a (nuC f n lo hi a1 D k)) : (¬ nK f n lo hi a1 = 0 → FP Q h f n a (nK f n lo hi a1) (nA f n a1)) ∧ (nK f n lo hi a1 = 0 → PC Q h f n a k) := by
  unfold nuC at hp
  refine ⟨fun z => ?_, fun z => ?_⟩
  · rw [if_neg z] at hp
    exact hp.1 z
  · rw [if_pos z] at hp
    exact hp
theorem PC.en {D1 : CC} {a1 : Int} (hp : PC Q h f n a (enC f n a1 D D1)) : (¬ (sk f n a1 < n ∧ f (sk f n a1) = 59) → FP Q h f n a 1 (sk f n a1)) ∧ (sk f n a1 < n → f (sk f n a1) = 59 → ∀ h1 na1, RdAt f n 0 (-1) (sk f n a1 + 1) na1 h1 → CiC 4 D1 h1 → DB D1 → a ≤ sk f n a1 + 1 → sk f n a1 + 1 ≤ n → Out 2 9 h h1 → Q none h1) := by
  unfold enC at hp
  refine ⟨fun z => ?_, fun z1 z2 => ?_⟩
  · rw [if_neg z] at hp
    exact hp.1 (by show ¬ (1 : Int) = 0; omega)
  · rw [if_pos ⟨z1, z2⟩] at hp
    exact hp.2 rfl
theorem CiC.out {b lo hi : Nat} {h1 : LHeap} (hc : CiC b D h) (o : Out lo hi h h1) (e : b + 5 < lo ∨ hi < b) : CiC b D h1 := CiAt.out hc o e
theorem nK_v {lo hi : Int} (hk : nK f n lo hi a = 0) : lo ≤ nV f n a ∧ nV f n a ≤ hi ∧ nA f n a < nB f n a ∨ nB f n a < nA f n a := by
  unfold nK at hk
  split at hk
  · omega
  · split at hk <;> omega
theorem s_rdMorning (hd : 5 ≤ d) (hT : TxB f n) (hr : RdAt f n 0 (-1) a na h) (h0 : 0 ≤ a ∧ a ≤ n) (hw : a = w + 1) (hc : CiC 4 D h) (hD : DB D) (kk : PC Q h f n a (cM f n w D)) : CALL d 33 [.ref 2, vI w] h Q := by
  obtain ⟨M, P, J, wk, wt, dr, tk, bh⟩ := D
  have hM := hD.1.1
  have hc4 : hRd h 4 = oCity M P J 5 6 7 8 9 := hc.1
  simp only at hM
  have hb := nB_b (f := f) h0.2
  -- behind a fault
  have tm : ∀ (tr pl : Int) (h2 : LHeap) (a2 na2 : Int) (l2 : Option Value), 1 ≤ tr ∧ tr ≤ 4 → RdAt f n tr pl a2 na2 h2 → a ≤ a2 → a2 ≤ n → Out 2 2 h h2 → FP Q h f n a tr pl → WP (d - 1) 33 13 [some (.ref 2), some (vI w), l2] [] h2 Q := by
    intro tr pl h2 a2 na2 l2 ht hr2 g1 g2 o hf
    simp (disch := omega) only [wr_id, wr_m1, sd_t, nl_I, nl_R, nl_none, c1_I, c1_R, sh_0, sh_1, sh_2, sh_3, sh_4, true_and, and_true, ldA_A, ldB_B, ldS_S, stA_A, stB_B, aL_A, aL_B, aL_S, aC_A, hRd_eq, hRd_ne, cp6, cp8, tl_some, tl_none, List.cons_append, List.nil_append, ofI_t0, ofI_t1, Int.add_zero, Int.zero_add, x33_13, x33_14]
    refine s_endT (by omega) hT hr2 ht ⟨by omega, g2⟩ (fun h3 a3 g3 g4 hr3 o3 => ?_)
    have hr31 := hr3.1
    simp (disch := omega) only [wr_id, wr_m1, sd_t, nl_I, nl_R, nl_none, c1_I, c1_R, sh_0, sh_1, sh_2, sh_3, sh_4, true_and, and_true, ldA_A, ldB_B, ldS_S, stA_A, stB_B, aL_A, aL_B, aL_S, aC_A, hRd_eq, hRd_ne, cp6, cp8, tl_some, tl_none, List.cons_append, List.nil_append, ofI_t0, ofI_t1, Int.add_zero, Int.zero_add, x33_15, x33_16, x33_17, x33_22, gf5_3, hr31]
    exact ⟨fun z => hf h3 _ a3 na2 hr3 (hc.out (o.trans o3) (by omega)) hD (by omega) g4 ((o.trans o3).widen (by omega) (by omega)), fun z => by omega⟩
  refine cl33 (by omega) hr.1 ?_
  have hr1 := hr.1
  simp (disch := omega) only [wr_id, wr_m1, sd_t, nl_I, nl_R, nl_none, c1_I, c1_R, sh_0, sh_1, sh_2, sh_3, sh_4, true_and, and_true, ldA_A, ldB_B, ldS_S, stA_A, stB_B, aL_A, aL_B, aL_S, aC_A, hRd_eq, hRd_ne, cp6, cp8, tl_some, tl_none, List.cons_append, List.nil_append, ofI_t0, ofI_t1, Int.add_zero, Int.zero_add, x33_0, x33_1, x33_2, x33_3, x33_4, x33_5, x33_6, x33_7, gf5_1, gf2_0, hr1, hc4]
  unfold cM at kk
  simp only at kk
  subst hw
  refine ⟨fun z => ?_, fun z => ?_⟩
  · rw [if_pos z] at kk
    simp (disch := omega) only [wr_id, wr_m1, sd_t, nl_I, nl_R, nl_none, c1_I, c1_R, sh_0, sh_1, sh_2, sh_3, sh_4, true_and, and_true, ldA_A, ldB_B, ldS_S, stA_A, stB_B, aL_A, aL_B, aL_S, aC_A, hRd_eq, hRd_ne, cp6, cp8, tl_some, tl_none, List.cons_append, List.nil_append, ofI_t0, ofI_t1, Int.add_zero, Int.zero_add, x33_8, x33_9, x33_10, x33_11]
    refine s_num (by omega) hT (by omega) (by omega) hr h0 (fun h2 hr2 o2 => ?_)
    have hk := nK_b f n 10 999 (w + 1)
    simp (disch := omega) only [wr_id, wr_m1, sd_t, nl_I, nl_R, nl_none, c1_I, c1_R, sh_0, sh_1, sh_2, sh_3, sh_4, true_and, and_true, ldA_A, ldB_B, ldS_S, stA_A, stB_B, aL_A, aL_B, aL_S, aC_A, hRd_eq, hRd_ne, cp6, cp8, tl_some, tl_none, List.cons_append, List.nil_append, ofI_t0, ofI_t1, Int.add_zero, Int.zero_add, x33_12]
    by_cases e : nK f n 10 999 (w + 1) = 0
    · have kk := PC.en (kk.nu.2 e)
      rw [e, if_pos rfl] at hr2
      simp (disch := omega) only [wr_id, wr_m1, sd_t, nl_I, nl_R, nl_none, c1_I, c1_R, sh_0, sh_1, sh_2, sh_3, sh_4, true_and, and_true, ldA_A, ldB_B, ldS_S, stA_A, stB_B, aL_A, aL_B, aL_S, aC_A, hRd_eq, hRd_ne, cp6, cp8, tl_some, tl_none, List.cons_append, List.nil_append, ofI_t0, ofI_t1, Int.add_zero, Int.zero_add, x33_13, x33_14]
      refine s_end (by omega) hT hr2 ⟨by omega, hb.2.2⟩ (fun g1 g2 h3 hr3 o3 => ?_) (fun g1 h3 hr3 o3 => ?_)
      · have hr31 := hr3.1
        have hs := sk_b (f := f) hb.2.2
        have hc3 := hc.out (o2.trans o3) (by omega)
        have hc34 : hRd h3 4 = oCity M P J 5 6 7 8 9 := hc3.1
        simp (disch := omega) only [wr_id, wr_m1, sd_t, nl_I, nl_R, nl_none, c1_I, c1_R, sh_0, sh_1, sh_2, sh_3, sh_4, true_and, and_true, ldA_A, ldB_B, ldS_S, stA_A, stB_B, aL_A, aL_B, aL_S, aC_A, hRd_eq, hRd_ne, cp6, cp8, tl_some, tl_none, List.cons_append, List.nil_append, ofI_t0, ofI_t1, Int.add_zero, Int.zero_add, x33_15, x33_16, x33_17, x33_18, x33_19, x33_20, x33_21, x33_22, gf5_3, gf5_1, pf2_0, hr31, hc34]
        refine ⟨fun z => by first | omega | exact absurd trivial z, fun z => ?_⟩
        have hkv := nK_v e
        have o4 : Out 2 9 h (hWr h3 4 (oCity (nV f n (w + 1)) P J 5 6 7 8 9)) := ((o2.trans o3).widen (by omega) (by omega)).wr (by omega) (by omega)
        have o5 : Out 4 4 h3 (hWr h3 4 (oCity (nV f n (w + 1)) P J 5 6 7 8 9)) := Out.refl.wr (by omega) (by omega)
        refine kk.2 g1 g2 _ _ (hr3.out o5 (by omega)) ?_ ?_ (by omega) (by omega) o4
        · obtain ⟨c1, c2, c3, c4, c5, c6⟩ := hc3
          exact ⟨hRd_eq, by rw [hRd_ne (by omega)]; exact c2, by rw [hRd_ne (by omega)]; exact c3, by rw [hRd_ne (by omega)]; exact c4, by rw [hRd_ne (by omega)]; exact c5, by rw [hRd_ne (by omega)]; exact c6⟩
        · obtain ⟨⟨b1, b2, b3, b4, b5⟩, b6⟩ := hD
          exact ⟨⟨by show 0 ≤ nV f n (w + 1) ∧ nV f n (w + 1) ≤ 999; omega, b2, b3, b4, b5⟩, b6⟩
      · have hr31 := hr3.1
        have hs := sk_b (f := f) hb.2.2
        simp (disch := omega) only [wr_id, wr_m1, sd_t, nl_I, nl_R, nl_none, c1_I, c1_R, sh_0, sh_1, sh_2, sh_3, sh_4, true_and, and_true, ldA_A, ldB_B, ldS_S, stA_A, stB_B, aL_A, aL_B, aL_S, aC_A, hRd_eq, hRd_ne, cp6, cp8, tl_some, tl_none, List.cons_append, List.nil_append, ofI_t0, ofI_t1, Int.add_zero, Int.zero_add, x33_15, x33_16, x33_17, x33_22, gf5_3, hr31]
        refine ⟨fun z => ?_, fun z => by first | omega | exact absurd (by omega) z⟩
        exact kk.1 g1 h3 _ _ _ hr3 (hc.out (o2.trans o3) (by omega)) hD (by omega) (by omega) ((o2.trans o3).widen (by omega) (by omega))
    · rw [if_neg e] at hr2
      exact tm _ _ h2 _ _ _ (by omega) hr2 (by omega) (by omega) o2 (kk.nu.1 e)
  · rw [if_neg z] at kk
    refine s_blame (by omega) hr (by omega) (fun _ => ?_) (fun z => absurd rfl z)
    have r1 : RdAt f n 3 w (w + 1) na (hWr h 2 (oRead 3 4 n 3 w (w + 1) na)) := hr.at 3 w
    have o1 : Out 2 2 h (hWr h 2 (oRead 3 4 n 3 w (w + 1) na)) := Out.refl.wr (by omega) (by omega)
    simp (disch := omega) only [wr_id, wr_m1, sd_t, nl_I, nl_R, nl_none, c1_I, c1_R, sh_0, sh_1, sh_2, sh_3, sh_4, true_and, and_true, ldA_A, ldB_B, ldS_S, stA_A, stB_B, aL_A, aL_B, aL_S, aC_A, hRd_eq, hRd_ne, cp6, cp8, tl_some, tl_none, List.cons_append, List.nil_append, ofI_t0, ofI_t1, Int.add_zero, Int.zero_add, x33_8, x33_9, x33_10, x33_11, x33_12]
    refine s_numT (by omega) hT r1 (by omega) h0 (fun h2 hr2 o2 => ?_)
    simp (disch := omega) only [wr_id, wr_m1, sd_t, nl_I, nl_R, nl_none, c1_I, c1_R, sh_0, sh_1, sh_2, sh_3, sh_4, true_and, and_true, ldA_A, ldB_B, ldS_S, stA_A, stB_B, aL_A, aL_B, aL_S, aC_A, hRd_eq, hRd_ne, cp6, cp8, tl_some, tl_none, List.cons_append, List.nil_append, ofI_t0, ofI_t1, Int.add_zero, Int.zero_add, x33_12]
    have hs := sk_b (f := f) h0.2
    exact tm 3 w h2 _ _ _ (by omega) hr2 hs.1 hs.2 (o1.trans o2) (kk.1 (by show ¬ (3 : Int) = 0; omega))
end

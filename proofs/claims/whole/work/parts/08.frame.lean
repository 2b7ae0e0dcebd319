-- CALLS, AND THE WHOLE RUN OF A FRAME
theorem gTbl_good {w : Jvm.Cond} (h : w ∈ gTbl) : (w.onTables && w.keeps) = true ∨ ∃ ty, w = .arrayClass ty := good_of_word (List.mem_filter.mp h).2
theorem goodIn_g {ws : List Jvm.Cond} (h : ∀ w ∈ ws, w ∈ gTbl) : GoodIn gTbl ws := fun w hw => ⟨h w hw, gTbl_good (h w hw)⟩
/-- what okHead says -/
theorem okHead_inv {k : Nat} (h : okHead k = true) : plainName (mY k).cls = true ∧ ((mY k).cls ≠ "java/lang/invoke/MethodHandle" ∧ (mY k).cls ≠ "java/lang/invoke/VarHandle" ∧ (parseMethodDescriptor (mY k).desc).map (fun d => d.parameters.length) = some (mNp k)) ∧ Cond.code (mY k) (mB k) (mL k) (mRet k) ∈ gTbl ∧ Cond.initialized (mY k).cls ∈ gTbl ∧ mL k ≤ 11 ∧
    ((mKind k = 0 ∧ Cond.static (mY k) ∈ gTbl ∧ mNa k = mNp k) ∨ (mKind k = 1 ∧ Cond.instanceMethod (mY k) ∈ gTbl ∧ Cond.selects (mY k).cls (mY k) (mY k) ∈ gTbl ∧ mNa k = mNp k + 1 ∧ ∃ q, vwCl[mCi k]? = some q ∧ q.1 = (mY k).cls) ∨ (mKind k = 2 ∧ Cond.instanceMethod (mY k) ∈ gTbl ∧ (mY k).name = "<init>" ∧ mRet k = none ∧ mNa k = mNp k + 1)) := by
  unfold okHead at h
  simp only [Bool.and_eq_true, decide_eq_true_eq] at h
  obtain ⟨⟨⟨⟨⟨h1, h2⟩, h3⟩, h4⟩, h5⟩, h6⟩ := h
  refine ⟨h1, h2, gTbl_in (memAt_in h3) rfl, gTbl_in (memAt_in h4) rfl, h5, ?_⟩
  split at h6
  · rename_i hk
    simp only [Bool.and_eq_true, beq_iff_eq] at h6
    exact Or.inl ⟨hk, gTbl_in (memAt_in h6.1) rfl, h6.2⟩
  · rename_i hk
    simp only [Bool.and_eq_true, beq_iff_eq] at h6
    obtain ⟨⟨⟨a1, a2⟩, a3⟩, a4⟩ := h6
    refine Or.inr (Or.inl ⟨hk, gTbl_in (memAt_in a1) rfl, gTbl_in (memAt_in a2) rfl, a3, ?_⟩)
    split at a4
    · rename_i q hq
      exact ⟨q, hq, of_decide_eq_true a4⟩
    · cases a4
  · rename_i hk
    simp only [Bool.and_eq_true, beq_iff_eq, decide_eq_true_eq] at h6
    obtain ⟨⟨⟨a1, a2⟩, a3⟩, a4⟩ := h6
    exact Or.inr (Or.inr ⟨hk, gTbl_in (memAt_in a1) rfl, a2, a3, a4⟩)
  · cases h6
section
variable {p : Program} {l : Launch} {e : Env} {R : Room} {s : State} {m : MethodId} {args : Array Value} {below : List Frame} {meth : Method} {c : Code} {Q : State → Prop} {g : LG} {k k1 ip d d1 pc len hint : Nat} {raw i : Instr} {h0 h h1 : LHeap} {H : Heap} {locs : List Loc} {lsR : Array Slot} {ls ls1 : LLoc} {st st1 as r : List Value} {t : Option Nat} {v : Option Value}
theorem PcK_blind : FrameBlind (PcK g as h) := by
  intro a U gf mk hp
  obtain ⟨e1, ⟨hK, hP, hw⟩, hz, hX, hbz, hn, hao⟩ := hp
  exact ⟨e1, ⟨va_K.moved (u := U) (U := U.calling gf mk a) (Vm.Alike.refl U.vm) hK, hP, hw⟩, hz, va_X.moved (u := U) (U := U.calling gf mk a) (Vm.Alike.refl U.vm) hX, hbz, fun w hw => by
    have h1 := hn w hw
    have ht : w.onTables = true := by
      have : ∀ w ∈ nests, w.onTables = true := by decide +kernel
      exact this w hw
    exact va_Nw.same (u := U) (U := U.calling gf mk a) ht rfl h1, va_AO.moved (u := U) (U := U.calling gf mk a) (Vm.Alike.refl U.vm) hao⟩
theorem nest_warm {w : Jvm.Cond} (hw : w ∈ nests) {U : State} (hW : s.WarmedH U.vm) (hZ : va_Nw w s) : va_Nw w U := by
  have : ∀ w ∈ nests, ∃ a i x h, w = .methodLinkNest a i x h := by
    intro w hw
    simp only [nests, List.mem_cons, List.not_mem_nil, or_false] at hw
    repeat' (rcases hw with rfl | hw)
    all_goals first | exact ⟨_, _, _, _, rfl⟩ | (subst hw; exact ⟨_, _, _, _, rfl⟩)
  obtain ⟨a, i, x, h, rfl⟩ := this w hw
  exact va_Nw.warmM hW hZ
theorem PcK_at (F : Fr g k h0 p s m args meth c) (hW : Wld g s H h) (hS : va_S (gA g) s.heap H locs) (hz : H.size = gz g + (h.1 - 1)) {U : State} (hU : U.heap = H) (hWm : s.WarmedH U.vm) : PcK g as h (as.map (tr g)).toArray U := by
  obtain ⟨hx, hb, hml, hret, hown, hts, hlocks, hname, hsz, hX, hbz, hnest⟩ := F
  refine ⟨rfl, ⟨va_K.moved hWm.alike hW.1, by rw [hU]; exact hW.2.1, hW.2.2⟩, by rw [hU]; exact hz, ?_, hbz, fun w hw => nest_warm hw hWm (hnest.1 w hw), va_AO.moved hWm.alike hnest.2⟩
  rw [hU]
  exact (va_X.moved hWm.alike hX).kept (hS.2.1 _ (by omega) (by show ¬ gz g ≤ gb g; omega))
theorem heap_size (A : AT g k d h0 h h1 p R s m args meth c H locs lsR ls) (hz : H.size ≤ s.heap.size + (h.1 - h0.1)) : H.size = gz g + (h.1 - 1) := by
  obtain ⟨F, hW, hS, hL, hc0, hs0, hcR, hsR, hh0, hfr, hlo⟩ := A
  obtain ⟨hx, hb, hml, hret, hown, hts, hlocks, hname, hsz, hX, hbz, hnest⟩ := F
  have := hW.low hsz hS
  have := hW.2.2.1
  omega
/-- a call, by its run: what comes back -/
theorem call_back (A : AT g k d h0 h h1 p R s m args meth c H locs lsR ls) (hm1 : h.1 ≤ h1.1) (hm2 : h.2.1 ≤ h1.2.1) {st0 : List Value} {a : Array Value}
    (hr : va_Run p l e R s m args below meth c H locs (h.1 - h0.1) (h.2.1 - h0.2.1) (h1.1 - h.1) (h1.2.1 - h.2.1) (F0 m pc lsR st0) (r.map (tr g)) (QcK g v h1 a) (gA g))
    (kk : KK g k ip p l e R s m args below meth c Q h0 none ls (v.toList ++ r) h1) (hpc : pcOf k (ip + 1) = pc + 3) : W p l e R s m args below meth c H locs (h.1 - h0.1) (h.2.1 - h0.2.1) Q (F0 m pc lsR st0) := by
  obtain ⟨F, hW, hS, hL, hc0, hs0, hcR, hsR, hh0, hfr, hlo⟩ := A
  have e1 : h.1 - h0.1 + (h1.1 - h.1) = h1.1 - h0.1 := by omega
  have e2 : h.2.1 - h0.2.1 + (h1.2.1 - h.2.1) = h1.2.1 - h0.2.1 := by omega
  cases v with
  | none =>
    refine va_callv (S := Unit) (a := a) hr hS (fun _ _ q => q) (fun _ q => q) (fun u t H1 locs1 ht hvm hw hB hz hk hS1 => ?_)
    rw [e1, e2]
    subst ht
    exact kk.next hpc ⟨hW.1, hB.1, hB.2⟩ hS1 hL
  | some v =>
    cases v with
    | int x =>
      refine va_calli (S := Unit) (a := a) hr hS (fun _ _ q => q) (fun _ q => q) (fun y u t H1 locs1 ht hvm hw hB hz hk hS1 => ?_)
      rw [e1, e2]
      subst ht
      subst hw
      exact kk.next hpc ⟨hW.1, hB.1, hB.2⟩ hS1 hL
    | _ =>
      intro T hT X
      obtain ⟨_, _, _, _, _, _, _, _, _, _, hq, _⟩ := hr T hT X
      exact hq.elim
theorem nest_in {w : Jvm.Cond} (h : nests.contains w = true) : w ∈ nests := by simpa using h
set_option maxHeartbeats 4000000 in
theorem step_call (A : AT g k (d1 + 1) h0 h h1 p R s m args meth c H locs lsR ls) (hd : decode (mB k) pc = .ok (raw, len)) (hok : okB k ip (.invokestatic k1) pc raw len hint = true) (hs : stepI (d1 + 1) (.invokestatic k1) ls st h = some (.inr (.inr (k1, as, r)))) (hcall : callOk k1 as h = true) (hH : okHead k1 = true) (hm1 : h.1 ≤ h1.1) (hm2 : h.2.1 ≤ h1.2.1)
    (hM : Met l (mY k1) (wsK k1) (rmK d1 h h1) (PcK g as h) (QcK g v h1) (h1.1 - h.1) (h1.2.1 - h.2.1) (gA g))
    (kk : KK g k ip p l e R s m args below meth c Q h0 none ls (v.toList ++ r) h1) : GO g p l e R s m args below meth c Q h0 h H locs lsR st pc := by
  simp only [stepI] at hs
  obtain ⟨⟨hn1, hr4⟩, hs2⟩ := gd_inv hs
  have hs3 := Option.some.inj hs2
  have hs4 := Sum.inr.inj (Sum.inr.inj hs3)
  simp only [Prod.mk.injEq, true_and] at hs4
  obtain ⟨has, hrr⟩ := hs4
  rw [hrr] at hr4
  have hst : st = as.reverse ++ r := by rw [← has, ← hrr, List.reverse_reverse, List.take_append_drop]
  simp only [okB, Bool.and_eq_true, beq_iff_eq] at hok
  obtain ⟨⟨hlen, hpc⟩, ho⟩ := hok
  subst hlen
  unfold okCall at ho
  simp only [Bool.and_eq_true] at ho
  obtain ⟨-, ho⟩ := ho
  obtain ⟨p1, p2, p3, p4, p5, p6⟩ := okHead_inv hH
  have A0 := A
  obtain ⟨F, hW, hS, hL, hc0, hs0, hcR, hsR, hh0, hfr, hlo⟩ := A0
  have F0' := F
  obtain ⟨hx, hb, hml, hret, hown, hts, hlocks, hname, hsz, hX, hbz, hnest⟩ := F0'
  have hwk : ∀ w ∈ wsK k1, w ∈ gTbl := fun w hw => by
    rcases List.mem_cons.mp hw with rfl | hw
    · exact p3
    · exact hw
  have hroom : (rmK d1 h h1).frames + 1 ≤ R.frames ∧ 8 + (mL k1 + 11) + (rmK d1 h h1).locals ≤ R.locals := by
    refine ⟨?_, ?_⟩
    · show d1 + 1 ≤ _
      omega
    · show 8 + (mL k1 + 11) + 30 * d1 ≤ _
      omega
  have hcells : h.1 - h0.1 + (h1.1 - h.1) ≤ R.cells ∧ h.2.1 - h0.2.1 + (h1.2.1 - h.2.1) ≤ R.slots := by omega
  have hcat := lv_room (m := m) (pc := pc) (ls := lsR) (rest := st.map (tr g)) (cat_tr (g := g) hr4)
  have hlsz : lsR.size = mL k := hL.1
  have hco := hcall
  unfold callOk at hco
  simp only [Bool.and_eq_true, decide_eq_true_eq, Bool.or_eq_true, beq_iff_eq] at hco
  obtain ⟨⟨⟨-, hexp⟩, hna⟩, hrec⟩ := hco
  refine W.sized fun hsz1 => ?_
  have hH1 := heap_size A hsz1
  have hpre : ∀ U : State, U.heap = H → s.WarmedH U.vm → PcK g as h (as.map (tr g)).toArray U := fun U hU hWm => PcK_at F hW hS hH1 hU hWm
  subst hst
  rcases p6 with ⟨hk, q1, q2⟩ | ⟨hk, q1, q2, q3, q4, q5, q6⟩ | ⟨hk, q1, q2, q3, q4⟩
  · -- static
    have hstk : (F0 m pc lsR ((as.reverse ++ r).map (tr g))).stack = (as.map (tr g)).reverse ++ r.map (tr g) := by
      show (as.reverse ++ r).map (tr g) = _
      rw [List.map_append, List.map_reverse]
    have hlen : (as.map (tr g)).length = mNp k1 := by rw [List.length_map, hna, q2]
    split at ho
    · rename_i ix hraw
      rcases Bool.or_eq_true _ _ ▸ ho with ho | ho
      · exact call_back A hm1 hm2 (va_runS (l := l) (below := below) (e := e) (rest := r.map (tr g)) ⟨hx, hb, hml, hown, hts⟩ hM ⟨callB_of (mNp k1) hts (goodIn_g hwk) rfl rfl rfl (hts _ p4) (hts _ (gTbl_in (memAt_in ho) rfl)) p2 hroom, hts _ q1⟩ ⟨PcK_blind, hpre⟩ rfl hlen hlsz hstk hcat hd hcells) kk hpc
      · exact call_back A hm1 hm2 (va_runSN (l := l) (below := below) (e := e) (rest := r.map (tr g)) ⟨hx, hb, hml, hown, hts⟩ hM ⟨va_cnB (mNp k1) hts (goodIn_g hwk) rfl rfl rfl (hnest.1 _ (nest_in ho)) (hts _ p4) p2 hroom, hts _ q1, trivial⟩ ⟨PcK_blind, hpre⟩ rfl hlen hlsz hstk hcat hd hcells) kk hpc
    · rename_i h9; rw [hk] at h9; cases h9
    · rename_i h9; rw [hk] at h9; cases h9
    · cases ho
  · -- virtual
    rcases hrec with hrec | hrec
    · rw [hk] at hrec; cases hrec
    unfold isRecv at hrec
    split at hrec
    · rename_i a as1
      split at hrec
      · rename_i ci fs hc
        simp only [beq_iff_eq] at hrec
        obtain ⟨a1, rfl, ha, he, -⟩ := w_obj hW hc
        subst hrec
        have hrv := va_recv hW.1 hW.2.1 q5 he
        rw [q6] at hrv
        have hstk : (F0 m pc lsR (((Value.ref (a1 + 1) :: as1).reverse ++ r).map (tr g))).stack = (as1.map (tr g)).reverse ++ .ref (gz g + a1) :: r.map (tr g) := by
          show ((Value.ref (a1 + 1) :: as1).reverse ++ r).map (tr g) = _
          rw [List.reverse_cons, List.append_assoc, List.map_append, List.map_reverse]
          rfl
        have hlen : (as1.map (tr g)).length = mNp k1 := by
          rw [List.length_map]
          rw [List.length_cons, q3] at hna
          omega
        split at ho
        · rename_i h9; rw [hk] at h9; cases h9
        · rename_i ix hraw
          rcases Bool.or_eq_true _ _ ▸ ho with ho | ho
          · exact call_back A hm1 hm2 (va_runV (l := l) (below := below) (e := e) (rest := r.map (tr g)) (As := as1.map (tr g)) ⟨hx, hb, hml, hown, hts⟩ hM ⟨callB_of (mNp k1) hts (goodIn_g hwk) rfl rfl rfl (hts _ p4) (hts _ (gTbl_in (memAt_in ho) rfl)) p2 hroom, hts _ q1, hts _ q2⟩ ⟨PcK_blind, hrv, hpre⟩ rfl hlen hlsz hstk hcat hd hcells) kk hpc
          · exact call_back A hm1 hm2 (va_runVN (l := l) (below := below) (e := e) (rest := r.map (tr g)) (As := as1.map (tr g)) ⟨hx, hb, hml, hown, hts⟩ hM ⟨va_cnB (mNp k1) hts (goodIn_g hwk) rfl rfl rfl (hnest.1 _ (nest_in ho)) (hts _ p4) p2 hroom, hts _ q1, hts _ q2⟩ ⟨PcK_blind, hrv, hpre⟩ rfl hlen hlsz hstk hcat hd hcells) kk hpc
        · rename_i h9; rw [hk] at h9; cases h9
        · cases ho
      · cases hrec
    · cases hrec
  · -- a constructor
    rcases hrec with hrec | hrec
    · rw [hk] at hrec; cases hrec
    unfold isRecv at hrec
    split at hrec
    · rename_i a as1
      have hstk : (F0 m pc lsR (((Value.ref a :: as1).reverse ++ r).map (tr g))).stack = (as1.map (tr g)).reverse ++ .ref (adr g a) :: r.map (tr g) := by
        show ((Value.ref a :: as1).reverse ++ r).map (tr g) = _
        rw [List.reverse_cons, List.append_assoc, List.map_append, List.map_reverse]
        rfl
      have hlen : (as1.map (tr g)).length = mNp k1 := by
        rw [List.length_map]
        rw [List.length_cons, q4] at hna
        omega
      have hwk2 : wsK k1 = Cond.code (mY k1) (mB k1) (mL k1) none :: gTbl := by unfold wsK; rw [q3]
      split at ho
      · rename_i h9; rw [hk] at h9; cases h9
      · rename_i h9; rw [hk] at h9; cases h9
      · rename_i ix hraw
        rcases Bool.or_eq_true _ _ ▸ ho with ho | ho
        · exact call_back A hm1 hm2 (va_runI (l := l) (below := below) (e := e) (rest := r.map (tr g)) (As := as1.map (tr g)) ⟨hx, hb, hml, hown, hts⟩ hM ⟨callB_of (mNp k1) hts (goodIn_g hwk) hwk2 rfl rfl (hts _ p4) (hts _ (gTbl_in (memAt_in ho) rfl)) p2 hroom, q2, hts _ q1⟩ ⟨PcK_blind, hpre⟩ rfl hlen hlsz hstk hcat hd hcells) kk hpc
        · exact call_back A hm1 hm2 (va_runIN (l := l) (below := below) (e := e) (rest := r.map (tr g)) (As := as1.map (tr g)) ⟨hx, hb, hml, hown, hts⟩ hM ⟨va_cnB (mNp k1) hts (goodIn_g hwk) hwk2 rfl rfl (hnest.1 _ (nest_in ho)) (hts _ p4) p2 hroom, q2, hts _ q1⟩ ⟨PcK_blind, hpre⟩ rfl hlen hlsz hstk hcat hd hcells) kk hpc
      · cases ho
    · cases hrec
end

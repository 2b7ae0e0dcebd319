-- WHAT TIES THE LITTLE MACHINE'S STATE TO THE MACHINE'S
abbrev LG : Type := Nat × Nat × Nat × (Nat → Int32) × va_G × ClassId × ClassId × ClassId
def gz (g : LG) : Nat := g.1
def gb (g : LG) : Nat := g.2.1
def gL (g : LG) : Nat := g.2.2.1
def gx (g : LG) : Nat → Int32 := g.2.2.2.1
def gD (g : LG) : va_G := g.2.2.2.2.1
def gI (g : LG) : ClassId := g.2.2.2.2.2.1
def gZ (g : LG) : ClassId := g.2.2.2.2.2.2.1
def gS (g : LG) : ClassId := g.2.2.2.2.2.2.2
def gA (g : LG) : Nat → Prop := fun q => gz g ≤ q
def gT (g : LG) : List (ClassId × FieldType) := [(gI g, .int), (gZ g, .boolean), (gS g, tyState)]
def adr (g : LG) (a : Nat) : Nat := match a with
  | 0 => gb g
  | a + 1 => gz g + a
def tr (g : LG) (v : Value) : Value := match v with
  | .ref a => .ref (adr g a)
  | v => v
theorem tr_cat {g : LG} {v : Value} : (tr g v).category = v.category := by cases v <;> rfl
def encI (vs : List Value) (j : Nat) : Int32 := match vs[j]? with
  | some (.int x) => x
  | _ => 0
def encR (g : LG) (vs : List Value) (j : Nat) : Option Nat := match vs[j]? with
  | some (.ref a) => some (adr g a)
  | _ => none
def enc (g : LG) (c : LCell) : va_E := match c with
  | some (.inl (ci, fs)) => .inr (ci, fs.map (tr g))
  | some (.inr (.int, vs)) => .inl (gI g, vs.length, .inl (encI vs))
  | some (.inr (.boolean, vs)) => .inl (gZ g, vs.length, .inl (encI vs))
  | some (.inr (_, vs)) => .inl (gS g, vs.length, .inr (.inr (.inr (.inr (encR g vs)))))
  | none => .inr (0, [])
def wsOf (g : LG) (h : LHeap) : va_W := (List.range (h.1 - 1)).map fun i => (gz g + i, enc g (hRd h (i + 1)))
theorem ws_get {g : LG} {h : LHeap} {a : Nat} (ha : a + 1 < h.1) : (wsOf g h)[a]? = some (gz g + a, enc g (hRd h (a + 1))) := by
  have : a < h.1 - 1 := by omega
  simp [wsOf, this]
theorem ws_inv {g : LG} {h : LHeap} {a : Nat} {q : Nat × va_E} (hq : (wsOf g h)[a]? = some q) : a + 1 < h.1 ∧ q = (gz g + a, enc g (hRd h (a + 1))) := by
  by_cases ha : a + 1 < h.1
  · rw [ws_get ha] at hq
    exact ⟨ha, (Option.some.inj hq).symm⟩
  · have : ¬ a < h.1 - 1 := by omega
    simp [wsOf, this] at hq
theorem ws_len {g : LG} {h : LHeap} : (wsOf g h).length = h.1 - 1 := by simp [wsOf]
theorem ws_set {g : LG} {h : LHeap} {a : Nat} (c : LCell) (ha : a + 1 < h.1) : (wsOf g h).set a (gz g + a, enc g c) = wsOf g (hWr h (a + 1) c) := by
  apply List.ext_getElem?
  intro i
  rw [List.getElem?_set]
  by_cases hi : a = i
  · subst hi
    have hl : a < (wsOf g h).length := by rw [ws_len]; omega
    have h2 : a + 1 < (hWr h (a + 1) c).1 := ha
    rw [if_pos rfl, if_pos hl, ws_get h2]
    simp [hRd, hWr]
  · rw [if_neg hi]
    by_cases hl : i + 1 < h.1
    · have h2 : i + 1 < (hWr h (a + 1) c).1 := hl
      rw [ws_get hl, ws_get h2]
      have : ¬ i = a := fun q => hi q.symm
      simp [hRd, hWr, this]
    · have h1 : (wsOf g h).length ≤ i := by rw [ws_len]; omega
      have h2 : (wsOf g (hWr h (a + 1) c)).length ≤ i := by rw [ws_len]; show h.1 - 1 ≤ i; omega
      rw [List.getElem?_eq_none h1, List.getElem?_eq_none h2]
theorem ws_push {g : LG} {h : LHeap} {sl : Nat} (c : LCell) (h1 : 1 ≤ h.1) : wsOf g h ++ [(gz g + (h.1 - 1), enc g c)] = wsOf g (hNew h sl c) := by
  have e : (hNew h sl c).1 - 1 = (h.1 - 1) + 1 := by show h.1 + 1 - 1 = _; omega
  unfold wsOf
  rw [e, List.range_succ, List.map_append]
  congr 1
  · apply List.map_congr_left
    intro i hi
    have : i < h.1 - 1 := List.mem_range.mp hi
    have h3 : ¬ i + 1 = h.1 := by omega
    simp [hRd, hNew, h3]
  · have h3 : h.1 - 1 + 1 = h.1 := by omega
    simp [hRd, hNew, h3]
theorem ws_D {g : LG} {h : LHeap} : va_D (gA g) (wsOf g h) := by
  refine ⟨fun i j p q hp hq e => ?_, fun k q hq => ?_⟩
  · rw [(ws_inv hp).2, (ws_inv hq).2] at e
    have e : gz g + i = gz g + j := e
    omega
  · rw [(ws_inv hq).2]
    show gz g ≤ gz g + k
    omega
def cellOk (c : (Nat × List Value) ⊕ (FieldType × List Value)) : Prop := match c with
  | .inl (ci, fs) => ∃ q, vwCl[ci]? = some q ∧ fs.length = q.2.2
  | .inr (.int, vs) => ∀ v ∈ vs, ∃ x, v = .int x
  | .inr (.boolean, vs) => ∀ v ∈ vs, v = .int 0 ∨ v = .int 1
  | .inr (ty, vs) => ty = tyState ∧ ∀ v ∈ vs, v = .null ∨ ∃ a, v = .ref a
def WfH (g : LG) (h : LHeap) : Prop := 1 ≤ h.1 ∧ hRd h 0 = some (.inr (.int, (List.range (gL g)).map fun j => .int (gx g j))) ∧ ∀ a c, hRd h (a + 1) = some c → a + 1 < h.1 ∧ cellOk c
theorem WfH.wr {g : LG} {h : LHeap} {a : Nat} {c0 c : (Nat × List Value) ⊕ (FieldType × List Value)} (hw : WfH g h) (h0 : hRd h (a + 1) = some c0) (hc : cellOk c) : WfH g (hWr h (a + 1) (some c)) := by
  refine ⟨hw.1, ?_, fun x y hy => ?_⟩
  · have := hw.2.1
    simpa [hRd, hWr] using this
  · by_cases hx : x = a
    · subst hx
      simp [hRd, hWr] at hy
      subst hy
      exact ⟨(hw.2.2 _ _ h0).1, hc⟩
    · have : hRd h (x + 1) = some y := by simpa [hRd, hWr, hx] using hy
      exact hw.2.2 _ _ this
theorem WfH.new {g : LG} {h : LHeap} {sl : Nat} {c : (Nat × List Value) ⊕ (FieldType × List Value)} (hw : WfH g h) (hc : cellOk c) : WfH g (hNew h sl (some c)) := by
  have h1 := hw.1
  refine ⟨by show 1 ≤ h.1 + 1; omega, ?_, fun x y hy => ?_⟩
  · have := hw.2.1
    have h0 : ¬ 0 = h.1 := by omega
    simpa [hRd, hNew, h0] using this
  · by_cases hx : x + 1 = h.1
    · have : y = c := by simpa [hRd, hNew, hx] using hy.symm
      subst this
      exact ⟨by show x + 1 < h.1 + 1; omega, hc⟩
    · have h2 : hRd h (x + 1) = some y := by simpa [hRd, hNew, hx] using hy
      obtain ⟨q1, q2⟩ := hw.2.2 _ _ h2
      exact ⟨by show x + 1 < h.1 + 1; omega, q2⟩
/-- an object is no script -/
theorem WfH.obj {g : LG} {h : LHeap} {a ci : Nat} {fs : List Value} (hw : WfH g h) (hc : hRd h a = some (.inl (ci, fs))) : ∃ a1, a = a1 + 1 ∧ a1 + 1 < h.1 ∧ ∃ q, vwCl[ci]? = some q ∧ fs.length = q.2.2 := by
  cases a with
  | zero => rw [hw.2.1] at hc; cases hc
  | succ a =>
    obtain ⟨h1, h2⟩ := hw.2.2 _ _ hc
    exact ⟨a, rfl, h1, h2⟩
/-- the class's facts, by its number -/
def clsFacts (ci : Nat) (C : String) (T : u_T) (N : Nat) : Prop := (∃ ty : Nat → FieldType, (∀ k, k < N → parseFieldDescriptor (T k).2.2.1 = some (ty k)) ∧ ∀ j, j < N → defaultValue (ty j) = vp_V (clsDef ci) j) ∧ (∀ a, a < N → ∀ b, b < N → a ≠ b → (T a).2.1 ≠ (T b).2.1) ∧ (u_ws C T N).all (fun w => decide (w ∈ lw_tbl) && goodWord w) = true ∧ Cond.instantiable C N ∈ lw_tbl ∧ Cond.initialized C ∈ lw_tbl ∧ clsN ci = N ∧ (∀ v ∈ clsDef ci, v = .int 0 ∨ v = .null)
set_option maxRecDepth 100000 in
theorem clsF0 : clsFacts 0 RX0 TX0 3 := ⟨⟨tyX0, tyX0_ok, by decide +kernel⟩, nmX0, by decide +kernel, by decide +kernel, by decide +kernel, by decide +kernel, by decide +kernel⟩
set_option maxRecDepth 100000 in
theorem clsF1 : clsFacts 1 RX1 TX1 5 := ⟨⟨tyX1, tyX1_ok, by decide +kernel⟩, nmX1, by decide +kernel, by decide +kernel, by decide +kernel, by decide +kernel, by decide +kernel⟩
set_option maxRecDepth 100000 in
theorem clsF2 : clsFacts 2 RX2 TX2 8 := ⟨⟨tyX2, tyX2_ok, by decide +kernel⟩, nmX2, by decide +kernel, by decide +kernel, by decide +kernel, by decide +kernel, by decide +kernel⟩
set_option maxRecDepth 100000 in
theorem clsF3 : clsFacts 3 RX3 TX3 3 := ⟨⟨tyX3, tyX3_ok, by decide +kernel⟩, nmX3, by decide +kernel, by decide +kernel, by decide +kernel, by decide +kernel, by decide +kernel⟩
set_option maxRecDepth 100000 in
theorem clsF4 : clsFacts 4 RX4 TX4 3 := ⟨⟨tyX4, tyX4_ok, by decide +kernel⟩, nmX4, by decide +kernel, by decide +kernel, by decide +kernel, by decide +kernel, by decide +kernel⟩
set_option maxRecDepth 100000 in
theorem clsF5 : clsFacts 5 RX5 TX5 7 := ⟨⟨tyX5, tyX5_ok, by decide +kernel⟩, nmX5, by decide +kernel, by decide +kernel, by decide +kernel, by decide +kernel, by decide +kernel⟩
set_option maxRecDepth 100000 in
theorem clsF6 : clsFacts 6 RX6 TX6 2 := ⟨⟨tyX6, tyX6_ok, by decide +kernel⟩, nmX6, by decide +kernel, by decide +kernel, by decide +kernel, by decide +kernel, by decide +kernel⟩
set_option maxRecDepth 100000 in
theorem clsF7 : clsFacts 7 RX7 TX7 5 := ⟨⟨tyX7, tyX7_ok, by decide +kernel⟩, nmX7, by decide +kernel, by decide +kernel, by decide +kernel, by decide +kernel, by decide +kernel⟩
set_option maxRecDepth 100000 in
theorem clsF8 : clsFacts 8 RX8 TX8 5 := ⟨⟨tyX8, tyX8_ok, by decide +kernel⟩, nmX8, by decide +kernel, by decide +kernel, by decide +kernel, by decide +kernel, by decide +kernel⟩
set_option maxRecDepth 100000 in
theorem clsF9 : clsFacts 9 RX9 TX9 7 := ⟨⟨tyX9, tyX9_ok, by decide +kernel⟩, nmX9, by decide +kernel, by decide +kernel, by decide +kernel, by decide +kernel, by decide +kernel⟩
set_option maxRecDepth 100000 in
theorem clsF10 : clsFacts 10 RX10 TX10 10 := ⟨⟨tyX10, tyX10_ok, by decide +kernel⟩, nmX10, by decide +kernel, by decide +kernel, by decide +kernel, by decide +kernel, by decide +kernel⟩
set_option maxRecDepth 100000 in
theorem clsF11 : clsFacts 11 RX11 TX11 40 := ⟨⟨tyX11, tyX11_ok, by decide +kernel⟩, nmX11, by decide +kernel, by decide +kernel, by decide +kernel, by decide +kernel, by decide +kernel⟩
theorem cls_of {ci : Nat} {q : vw_C} (h : vwCl[ci]? = some q) : clsFacts ci q.1 q.2.1 q.2.2 := by
  match ci, h with
  | 0, h => cases h; exact clsF0
  | 1, h => cases h; exact clsF1
  | 2, h => cases h; exact clsF2
  | 3, h => cases h; exact clsF3
  | 4, h => cases h; exact clsF4
  | 5, h => cases h; exact clsF5
  | 6, h => cases h; exact clsF6
  | 7, h => cases h; exact clsF7
  | 8, h => cases h; exact clsF8
  | 9, h => cases h; exact clsF9
  | 10, h => cases h; exact clsF10
  | 11, h => cases h; exact clsF11
  | n + 12, h => simp [vwCl] at h
def gTbl : List Jvm.Cond := lw_tbl.filter goodWord
theorem gTbl_in {w : Jvm.Cond} (h : w ∈ lw_tbl) (hg : goodWord w = true) : w ∈ gTbl := List.mem_filter.mpr ⟨h, hg⟩
theorem memAt_in {p : Nat} {w : Jvm.Cond} (h : memAt p w = true) : w ∈ lw_tbl := List.mem_of_getElem? (of_decide_eq_true h)
theorem cls_lays {ci : Nat} {q : vw_C} (h : vwCl[ci]? = some q) : ∀ w ∈ u_ws q.1 q.2.1 q.2.2, w ∈ gTbl := by
  intro w hw
  have h1 := List.all_eq_true.mp (cls_of h).2.2.1 w hw
  simp only [Bool.and_eq_true, decide_eq_true_eq] at h1
  exact gTbl_in h1.1 h1.2
def wsK (k : Nat) : List Jvm.Cond := Cond.code (mY k) (mB k) (mL k) (mRet k) :: gTbl
def Wld (g : LG) (s : State) (H : Heap) (h : LHeap) : Prop := va_K (gD g) vwCl (gT g) s ∧ va_P (gD g) vwCl (wsOf g h) H ∧ WfH g h
/-- what stays through a frame -/
def Fr (g : LG) (k : Nat) (h0 : LHeap) (p : Program) (s : State) (m : MethodId) (args : Array Value) (meth : Method) (c : Code) : Prop :=
  p.tables.exec = Jvm.exec ∧ c.code = mB k ∧ c.maxLocals = mL k ∧ meth.sig.returnType = mRet k ∧ s.vm.findClass (mY k).cls = some m.cls ∧ (∀ w ∈ gTbl, w.before args s = true) ∧ meth.locks = false ∧ ((mY k).name = "<init>" → meth.name = "<init>") ∧
  s.heap.size = gz g + (h0.1 - 1) ∧ va_X (gb g) (gL g) (gx g) s s.heap ∧ gb g < gz g ∧ (∀ w ∈ nests, va_Nw w s) ∧ va_AO "WakeOrder$State" s
def LocOK (g : LG) (lsR : Array Slot) (n : Nat) (ls : LLoc) : Prop := lsR.size = n ∧ ls.length = n ∧ lv_wf lsR ∧ ∀ j v, lGet ls j = some v → lsR[j]? = some (.val (tr g v))
def asc (g : LG) (ls : LLoc) : List (Nat × Value) := (List.range ls.length).filterMap fun j => (lGet ls j).map fun v => (j, tr g v)
theorem lGet_lt {ls : LLoc} {j : Nat} {v : Value} (h : lGet ls j = some v) : j < ls.length := by
  unfold lGet at h
  split at h
  · rename_i hx
    exact (List.getElem?_eq_some_iff.mp hx).1
  · cases h
theorem asc_mem {g : LG} {ls : LLoc} {j : Nat} {v : Value} (h : lGet ls j = some v) : (j, tr g v) ∈ asc g ls := by
  unfold asc
  rw [List.mem_filterMap]
  exact ⟨j, List.mem_range.mpr (lGet_lt h), by rw [h]; rfl⟩
theorem asc_inv {g : LG} {ls : LLoc} {q : Nat × Value} (h : q ∈ asc g ls) : ∃ v, lGet ls q.1 = some v ∧ q.2 = tr g v := by
  unfold asc at h
  rw [List.mem_filterMap] at h
  obtain ⟨j, -, h⟩ := h
  cases hv : lGet ls j with
  | none => rw [hv] at h; cases h
  | some v =>
    rw [hv] at h
    have h := Option.some.inj h
    subst h
    exact ⟨v, hv, rfl⟩
theorem LocOK.has {g : LG} {lsR : Array Slot} {n : Nat} {ls : LLoc} (h : LocOK g lsR n ls) : lv_has lsR n (asc g ls) := by
  refine ⟨h.1, h.2.2.1, fun q hq => ?_⟩
  obtain ⟨v, h1, h2⟩ := asc_inv hq
  rw [h2]
  exact h.2.2.2 _ _ h1
theorem lGet_set {ls : LLoc} {i j : Nat} {v : Option Value} (hi : i < ls.length) : lGet (ls.set i v) j = if i = j then v else lGet ls j := by
  unfold lGet
  rw [List.getElem?_set]
  by_cases h : i = j
  · subst h
    rw [if_pos rfl, if_pos hi, if_pos rfl]
    cases v <;> rfl
  · rw [if_neg h, if_neg h]
theorem lFree_cat {ls : LLoc} {j : Nat} {v : Value} (h : lFree ls (j + 1) = true) (hv : lGet ls j = some v) : v.category = 1 := by
  unfold lFree at h
  simp only [hv] at h
  exact of_decide_eq_true (by simpa using h)
theorem LocOK.store1 {g : LG} {lsR lsR1 : Array Slot} {n i : Nat} {ls : LLoc} {v w : Value} (h : LocOK g lsR n ls) (hw : w = tr g v) (hh : lv_has lsR1 n ((i, w) :: (asc g ls).filter (fun q => !(q.1 == i) && !(q.1 + 1 == i && q.2.category == 2)))) (hf : lFree ls i = true) (hi : i < ls.length) : LocOK g lsR1 n (ls.set i (some v)) := by
  refine ⟨hh.1, by rw [List.length_set]; exact h.2.1, hh.2.1, fun j x hx => ?_⟩
  rw [lGet_set hi] at hx
  by_cases hj : i = j
  · rw [if_pos hj] at hx
    cases hx
    subst hj
    rw [← hw]
    exact hh.2.2 (i, w) List.mem_cons_self
  · rw [if_neg hj] at hx
    refine hh.2.2 (j, tr g x) (List.mem_cons_of_mem _ (List.mem_filter.mpr ⟨asc_mem hx, ?_⟩))
    have h1 : ¬ j = i := fun q => hj q.symm
    by_cases h2 : j + 1 = i
    · subst h2
      have := lFree_cat hf hx
      simp [tr_cat, this]
    · simp [h1, h2]
theorem LocOK.store2 {g : LG} {lsR lsR1 : Array Slot} {n i : Nat} {ls : LLoc} {v w : Value} (h : LocOK g lsR n ls) (hw : w = tr g v) (hh : lv_has lsR1 n ((i, w) :: (asc g ls).filter (fun q => !(q.1 == i) && (!(q.1 == i + 1) && !(q.1 + 1 == i && q.2.category == 2))))) (hf : lFree ls i = true) (hi : i + 1 < ls.length) : LocOK g lsR1 n ((ls.set i (some v)).set (i + 1) none) := by
  refine ⟨hh.1, by rw [List.length_set, List.length_set]; exact h.2.1, hh.2.1, fun j x hx => ?_⟩
  rw [lGet_set (by rw [List.length_set]; exact hi), lGet_set (by omega)] at hx
  by_cases hj1 : i + 1 = j
  · rw [if_pos hj1] at hx
    cases hx
  · rw [if_neg hj1] at hx
    by_cases hj : i = j
    · rw [if_pos hj] at hx
      cases hx
      subst hj
      rw [← hw]
      exact hh.2.2 (i, w) List.mem_cons_self
    · rw [if_neg hj] at hx
      refine hh.2.2 (j, tr g x) (List.mem_cons_of_mem _ (List.mem_filter.mpr ⟨asc_mem hx, ?_⟩))
      have h1 : ¬ j = i := fun q => hj q.symm
      have h3 : ¬ j = i + 1 := fun q => hj1 q.symm
      by_cases h2 : j + 1 = i
      · subst h2
        have := lFree_cat hf hx
        simp [tr_cat, this]
        omega
      · simp [h1, h2, h3]
-- inversions
theorem withI_inv {st : List Value} {f : Int32 → List Value → Option LRes} {r : LRes} (h : withI st f = some r) : ∃ x st1, st = .int x :: st1 ∧ f x st1 = some r := by
  unfold withI at h
  split at h
  · exact ⟨_, _, rfl, h⟩
  · cases h
theorem withL_inv {st : List Value} {f : Int64 → List Value → Option LRes} {r : LRes} (h : withL st f = some r) : ∃ x st1, st = .long x :: st1 ∧ f x st1 = some r := by
  unfold withL at h
  split at h
  · exact ⟨_, _, rfl, h⟩
  · cases h
theorem withR_inv {st : List Value} {f : Nat → List Value → Option LRes} {r : LRes} (h : withR st f = some r) : ∃ x st1, st = .ref x :: st1 ∧ f x st1 = some r := by
  unfold withR at h
  split at h
  · exact ⟨_, _, rfl, h⟩
  · cases h
theorem withObj_inv {c : LCell} {f : Nat → List Value → Option LRes} {r : LRes} (h : withObj c f = some r) : ∃ ci fs, c = some (.inl (ci, fs)) ∧ f ci fs = some r := by
  unfold withObj at h
  split at h
  · exact ⟨_, _, rfl, h⟩
  · cases h
theorem withArr_inv {c : LCell} {f : FieldType → List Value → Option LRes} {r : LRes} (h : withArr c f = some r) : ∃ ty vs, c = some (.inr (ty, vs)) ∧ f ty vs = some r := by
  unfold withArr at h
  split at h
  · exact ⟨_, _, rfl, h⟩
  · cases h
theorem withV_inv {v : Option Value} {f : Value → Option LRes} {r : LRes} (h : withV v f = some r) : ∃ x, v = some x ∧ f x = some r := by
  unfold withV at h
  split at h
  · exact ⟨_, rfl, h⟩
  · cases h
theorem gd_inv {c : Prop} [Decidable c] {r : Option LRes} {x : LRes} (h : gd c r = some x) : c ∧ r = some x := by
  unfold gd at h
  split at h
  · exact ⟨by assumption, h⟩
  · cases h
theorem nx_inv {ls ls1 : LLoc} {st st1 : List Value} {h h1 : LHeap} {t : Option Nat} (hs : nx ls st h = some (.inl (t, ls1, st1, h1))) : t = none ∧ ls1 = ls ∧ st1 = st ∧ h1 = h := by
  unfold nx at hs
  cases hs
  exact ⟨rfl, rfl, rfl, rfl⟩
theorem jp_inv {z : Int} {ls ls1 : LLoc} {st st1 : List Value} {h h1 : LHeap} {t : Option Nat} (hs : jp z ls st h = some (.inl (t, ls1, st1, h1))) : t = some z.toNat ∧ ls1 = ls ∧ st1 = st ∧ h1 = h := by
  unfold jp at hs
  cases hs
  exact ⟨rfl, rfl, rfl, rfl⟩
theorem W.sized {p : Program} {l : Launch} {e : Env} {R : Room} {s : State} {m : MethodId} {args : Array Value} {below : List Frame} {meth : Method} {c : Code} {H : Heap} {locs : List Loc} {cells slots : Nat} {Q : State → Prop} {f : JFrame} (k : H.size ≤ s.heap.size + cells → W p l e R s m args below meth c H locs cells slots Q f) : W p l e R s m args below meth c H locs cells slots Q f := fun T hT X => k (by have := X.heapSize; rw [hT] at this; exact this) T hT X
theorem Wld.low {g : LG} {s s0 : State} {H : Heap} {h h0 : LHeap} {locs : List Loc} (hW : Wld g s H h) (hz : s0.heap.size = gz g + (h0.1 - 1)) (hS : va_S (gA g) s0.heap H locs) : gz g + (h.1 - 1) ≤ H.size := by
  by_cases h1 : h.1 - 1 = 0
  · have := hS.1
    omega
  · have := (hW.2.1 (h.1 - 2) _ (ws_get (by omega))).lt
    have : gz g + (h.1 - 2) < H.size := this
    omega

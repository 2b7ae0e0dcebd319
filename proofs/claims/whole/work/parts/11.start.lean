-- THE LAW'S WALK OUT OF THE LITTLE MACHINE'S RUN
def lawH (L : Nat) (xs : Nat → Int32) : LHeap := (1, 0, fun a => if a = 0 then some (.inr (.int, (List.range L).map fun j => .int (xs j))) else none)
/-- what the little machine owes -/
def LawOK : Prop := ∀ (L : Nat) (xs : Nat → Int32), L ≤ 256 → ∃ n h1, runF n 10 184 0 (entL 184 [.ref 0]) [] (lawH L xs) = some (some (.int 1), h1) ∧ h1.1 ≤ 600000 ∧ h1.2.1 ≤ 7302250
theorem stepI_ret {d : Nat} {i : Instr} {ls : LLoc} {st : List Value} {h : LHeap} {v : Option Value} (hs : stepI d i ls st h = some (.inr (.inl v))) : i = .ireturn ∨ i = .areturn ∨ i = .return_ := by
  cases i
  case ireturn => exact Or.inl rfl
  case areturn => exact Or.inr (Or.inl rfl)
  case return_ => exact Or.inr (Or.inr rfl)
  case newarray ty =>
    cases ty
    case int =>
      simp only [stepI] at hs
      obtain ⟨_, _, _, h1⟩ := withI_inv hs
      obtain ⟨_, h2⟩ := gd_inv h1
      cases h2
    case boolean =>
      simp only [stepI] at hs
      obtain ⟨_, _, _, h1⟩ := withI_inv hs
      obtain ⟨_, h2⟩ := gd_inv h1
      cases h2
    all_goals (simp only [stepI] at hs; contradiction)
  all_goals
    simp only [stepI, withI, withL, withR, withObj, withArr, withV, gd, nx, jp] at hs
    first
      | contradiction
      | (cases hs; done)
      | (repeat' split at hs) <;> (cases hs; done)
theorem nests_in : ∀ w ∈ nests, w ∈ lw_tbl := by decide +kernel
theorem nests_tab : ∀ w ∈ nests, w.onTables = true := by decide +kernel
theorem arr_start {s : State} {args : Array Value} {ty : FieldType} (h : (Cond.arrayClass ty).before args s = true) (hty : ∀ C, ¬ ty = .object C) : ∃ cA : ClassId, ArrOfT s cA ty ∧ va_RA s cA ty := by
  obtain ⟨cA, kA, comp, h1, h2, h3⟩ := Cond.arrayClass_spec h
  refine ⟨cA, fun n z => ⟨fun k h => (by cases h), kA, h2, comp, h3⟩, ?_⟩
  cases ty with
  | object C => exact absurd rfl (hty C)
  | _ => exact h1
theorem arrO_start {s : State} {args : Array Value} {C : String} (h : (Cond.arrayOver (.object C)).before args s = true) : ∃ cA : ClassId, ArrOfT s cA (.object C) ∧ va_RA s cA (.object C) := by
  obtain ⟨comp, cA, kA, hcomp, hidx, hkA, hkindA, hnameA⟩ := Cond.arrayOver_spec h
  exact ⟨cA, fun n z => ⟨fun k h => (by cases h), kA, hkA, comp, hkindA⟩, kA, comp, hkA, hkindA, hcomp, hnameA⟩
theorem known_start {s : State} {args : Array Value} (hts : ∀ w ∈ lw_tbl, w.before args s = true) : ∃ D : va_G, ∀ (c : Nat) (q : vw_C), vwCl[c]? = some q → u_Kn s q.1 q.2.1 q.2.2 (D.1 c) (D.2 c) := by
  have h : ∀ c : Nat, ∃ x : ClassId × (Nat → Nat), ∀ q, vwCl[c]? = some q → u_Kn s q.1 q.2.1 q.2.2 x.1 x.2 := by
    intro c
    cases hq : vwCl[c]? with
    | none => exact ⟨(0, fun _ => 0), fun q h => by cases h⟩
    | some q =>
      have hi := (cls_of hq).2.2.2.1
      obtain ⟨cC, iS, h1⟩ := u_known (ws := gTbl) (fun w hw => hts w (List.mem_filter.mp hw).1) (cls_lays hq) (hts _ hi)
      exact ⟨(cC, iS), fun q2 h2 => by cases h2; exact h1⟩
  obtain ⟨f, hf⟩ := Classical.axiomOfChoice h
  exact ⟨(fun c => (f c).1, fun c => (f c).2), fun c q hq => hf c q hq⟩
set_option maxRecDepth 100000 in
theorem law_code : mB 184 = code := rfl
set_option maxRecDepth 100000 in
theorem law_ml : mL 184 = 4 := rfl
set_option maxRecDepth 100000 in
theorem law_ret : mRet 184 = ret := rfl
set_option maxRecDepth 100000 in
theorem law_cls : (mY 184).cls = R_law := rfl
theorem law_name : ¬ (mY 184).name = "<init>" := by decide +kernel
theorem law_bool : mRet 184 = some .boolean := by decide +kernel
theorem start_of {p : Program} {e : Env} {s : State} {m : MethodId} {below : List Frame} {meth : Method} {c : Code} (l : Launch) {b L : Nat} {xs : Nat → Int32} (hL : L ≤ 256) (C0 : lw_At p s m meth c b L xs) (hLaw : LawOK) (hRows : ∀ k, k < 185 → okRowsAll k) (hHeads : ∀ k, k < 184 → okHeadAll k) : W p l e room_1 s m #[Value.ref b] below meth c s.heap [] 0 0 (lw_Z below #[Value.ref b] s) (entryFrame m ([Value.ref b] : List Value).toArray 4) := by
  obtain ⟨hx, hb, hr, hml, hown, hts, hX, hbl, hlocks, hgv⟩ := id C0
  obtain ⟨n, h1, hrun, hc1, hs1⟩ := hLaw L xs hL
  obtain ⟨D, hD⟩ := known_start hts
  obtain ⟨cI, hI1, hI2⟩ := arr_start (ty := .int) (hts _ (by decide +kernel)) (fun C h => by cases h)
  obtain ⟨cZ, hZ1, hZ2⟩ := arr_start (ty := .boolean) (hts _ (by decide +kernel)) (fun C h => by cases h)
  obtain ⟨cS, hS1, hS2⟩ := arrO_start (C := "WakeOrder$State") (hts _ (by decide +kernel))
  obtain ⟨g, hg⟩ : ∃ g : LG, g = (s.heap.size, b, L, xs, D, cI, cZ, cS) := ⟨_, rfl⟩
  have g1 : gz g = s.heap.size := by rw [hg]; rfl
  have g2 : gb g = b := by rw [hg]; rfl
  have g3 : gL g = L := by rw [hg]; rfl
  have g4 : gx g = xs := by rw [hg]; rfl
  have hK : va_K (gD g) vwCl (gT g) s := by
    rw [hg]
    refine ⟨hD, fun k q hq => ?_⟩
    match k, hq with
    | 0, hq => cases hq; exact ⟨hI1, hI2⟩
    | 1, hq => cases hq; exact ⟨hZ1, hZ2⟩
    | 2, hq => cases hq; exact ⟨hS1, hS2⟩
    | k + 3, hq => simp [gT] at hq
  have hF : Fr g 184 (lawH L xs) p s m #[Value.ref b] meth c := by
    refine ⟨hx, by rw [law_code]; exact hb, by rw [law_ml]; exact hml, by rw [law_ret]; exact hr, by rw [law_cls]; exact hown, fun w hw => hts w (List.mem_filter.mp hw).1, hlocks, fun h => absurd h law_name, ?_, ?_, ?_, ?_, va_AO.of (A := #[Value.ref b]) (hts _ (by decide +kernel))⟩
    · rw [g1]; rfl
    · rw [g2, g3, g4]; exact hX
    · rw [g1, g2]; exact hbl
    · exact fun w hw => va_Nw.of (nests_tab w hw) (hts w (nests_in w hw))
  have hW : Wld g s s.heap (lawH L xs) := by
    refine ⟨hK, fun k q hq => ?_, Nat.le_refl _, ?_, fun a c h => ?_⟩
    · simp [wsOf, lawH] at hq
    · rw [g3, g4]; rfl
    · simp [hRd, lawH] at h
  have hloc := entry_loc (g := g) (k := 184) (as := [.ref 0]) (by decide +kernel)
  have hR : RetOK g 184 (lawH L xs) h1 (some (.int 1)) p l e room_1 s m #[Value.ref b] below meth c (lw_Z below #[Value.ref b] s) := by
    intro ip d len hint raw i ls st H locs lsR hd hok hs hW1 hS1
    have hokB := hok
    refine va_forget (fun q hq => ?_) ?_
    · have := hS1.2.2 q hq
      have : gz g ≤ q.base := this
      omega
    refine W.widen (k := 600000) (n := 7302250) (by show h1.1 - 1 ≤ _; omega) (by show h1.2.1 - 0 ≤ _; omega) ?_
    rcases stepI_ret hs with rfl | rfl | rfl
    · have hok : decide (raw = .ireturn) = true ∧ (len == 1) = true ∧ decide (mRet 184 = some .int) = true := by simpa [okB, and_assoc] using hok
      have h3 := of_decide_eq_true hok.2.2
      rw [law_bool] at h3
      cases h3
    · have hok : decide (raw = .ireturn) = true ∧ (len == 1) = true ∧ decide (mRet 184 = some .boolean) = true := by simpa [okB, and_assoc] using hok
      obtain ⟨ho1, ho2, -⟩ := hok
      have ho1 := of_decide_eq_true ho1
      simp only [beq_iff_eq] at ho2
      subst ho1
      subst ho2
      simp only [stepI] at hs
      split at hs
      · obtain ⟨-, hs2⟩ := gd_inv hs
        cases hs2
        rw [law_code] at hd
        exact lw_ret hx hb hr hlocks hd
      · cases hs
    · simp only [stepI] at hs
      split at hs <;> cases hs
  have := frame_ok (g := g) (l := l) hRows hHeads n 10 184 0 (entL 184 [.ref 0]) [] (lawH L xs) (some (.int 1)) h1 (by decide) hrun p e room_1 s m #[Value.ref b] below meth c (lawH L xs) (lw_Z below #[Value.ref b] s) s.heap [] _ hF hW va_S.rf hloc (Nat.le_refl _) (Nat.le_refl _) (Nat.le_refl _) (by show h1.1 - 1 ≤ 600000; omega) (by show h1.2.1 - 0 ≤ 7302250; omega) (Nat.le_refl _) (by decide) hR
  rw [pcOf_0 184 (by decide), Nat.sub_self, Nat.sub_self] at this
  have e1 : ([Value.ref 0] : List Value).map (tr g) = [Value.ref b] := by
    show [Value.ref (gb g)] = _
    rw [g2]
  rw [e1, law_ml] at this
  rw [lg_entry_eq]
  exact this

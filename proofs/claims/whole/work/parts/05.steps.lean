-- ONE STEP OF THE LITTLE MACHINE IS ONE OF THE MACHINE'S
section
variable {p : Program} {l : Launch} {e : Env} {R : Room} {s : State} {m : MethodId} {args : Array Value} {below : List Frame} {meth : Method} {c : Code} {Q : State → Prop} {g : LG} {k ip d pc len hint : Nat} {raw : Instr} {h0 h h1 : LHeap} {H : Heap} {locs : List Loc} {lsR : Array Slot} {ls ls1 : LLoc} {st st1 : List Value} {t : Option Nat}
def GO (g : LG) (p : Program) (l : Launch) (e : Env) (R : Room) (s : State) (m : MethodId) (args : Array Value) (below : List Frame) (meth : Method) (c : Code) (Q : State → Prop) (h0 h : LHeap) (H : Heap) (locs : List Loc) (lsR : Array Slot) (st : List Value) (pc : Nat) : Prop :=
  W p l e R s m args below meth c H locs (h.1 - h0.1) (h.2.1 - h0.2.1) Q (F0 m pc lsR (st.map (tr g)))
/-- what is owed behind the step -/
def KK (g : LG) (k ip : Nat) (p : Program) (l : Launch) (e : Env) (R : Room) (s : State) (m : MethodId) (args : Array Value) (below : List Frame) (meth : Method) (c : Code) (Q : State → Prop) (h0 : LHeap) (t : Option Nat) (ls1 : LLoc) (st1 : List Value) (h1 : LHeap) : Prop :=
  ∀ (H1 : Heap) (locs1 : List Loc) (lsR1 : Array Slot), Wld g s H1 h1 → va_S (gA g) s.heap H1 locs1 → LocOK g lsR1 (mL k) ls1 → GO g p l e R s m args below meth c Q h0 h1 H1 locs1 lsR1 st1 (pcOf k (t.getD (ip + 1)))
/-- where a step begins -/
def AT (g : LG) (k d : Nat) (h0 h h1 : LHeap) (p : Program) (R : Room) (s : State) (m : MethodId) (args : Array Value) (meth : Method) (c : Code) (H : Heap) (locs : List Loc) (lsR : Array Slot) (ls : LLoc) : Prop :=
  Fr g k h0 p s m args meth c ∧ Wld g s H h ∧ va_S (gA g) s.heap H locs ∧ LocOK g lsR (mL k) ls ∧ h0.1 ≤ h.1 ∧ h0.2.1 ≤ h.2.1 ∧ h1.1 - h0.1 ≤ R.cells ∧ h1.2.1 - h0.2.1 ≤ R.slots ∧ 1 ≤ h0.1 ∧ d ≤ R.frames ∧ 30 * d ≤ R.locals
theorem nxt_inv (h : (len == 1 && pcOf k (ip + 1) == pc + 1) = true) : len = 1 ∧ pcOf k (ip + 1) = pc + 1 := by simpa using h
theorem KK.next (kk : KK g k ip p l e R s m args below meth c Q h0 none ls1 st1 h1) {n : Nat} (hn : pcOf k (ip + 1) = n) {H1 : Heap} {locs1 : List Loc} {lsR1 : Array Slot} (a : Wld g s H1 h1) (b : va_S (gA g) s.heap H1 locs1) (c1 : LocOK g lsR1 (mL k) ls1) : W p l e R s m args below meth c H1 locs1 (h1.1 - h0.1) (h1.2.1 - h0.2.1) Q (F0 m n lsR1 (st1.map (tr g))) := by
  subst hn
  exact kk H1 locs1 lsR1 a b c1
theorem KK.jump {z : Int} (kk : KK g k ip p l e R s m args below meth c Q h0 (some z.toNat) ls1 st1 h1) {H1 : Heap} {locs1 : List Loc} {lsR1 : Array Slot} (a : Wld g s H1 h1) (b : va_S (gA g) s.heap H1 locs1) (c1 : LocOK g lsR1 (mL k) ls1) : W p l e R s m args below meth c H1 locs1 (h1.1 - h0.1) (h1.2.1 - h0.2.1) Q (F0 m (pcOf k z.toNat) lsR1 (st1.map (tr g))) := kk H1 locs1 lsR1 a b c1

theorem sn_iadd  (A : AT g k d h0 h h1 p R s m args meth c H locs lsR ls) (hd : decode (mB k) pc = .ok (raw, len)) (hok : okB k ip .iadd pc raw len hint = true) (hs : stepI d .iadd ls st h = some (.inl (t, ls1, st1, h1))) (kk : KK g k ip p l e R s m args below meth c Q h0 t ls1 st1 h1) : GO g p l e R s m args below meth c Q h0 h H locs lsR st pc := by
  simp only [stepI] at hs
  obtain ⟨y, r1, rfl, hs1⟩ := withI_inv hs
  obtain ⟨x, r, rfl, hs2⟩ := withI_inv hs1
  obtain ⟨rfl, rfl, rfl, rfl⟩ := nx_inv hs2
  obtain ⟨F, hW, hS, hL, hc0, hs0, hcR, hsR, hh0, hfr, hlo⟩ := A
  obtain ⟨hx, hb, hml, hret, hown, hts, hlocks, hname, hsz, hX, hbz, hnest⟩ := F
  have hok : (len == 1 && pcOf k (ip + 1) == pc + 1) = true ∧ decide (raw = .iadd) = true := by simpa [okB] using hok
  obtain ⟨ho1, ho2⟩ := hok
  have ho2 := of_decide_eq_true ho2
  simp only [Bool.and_eq_true, beq_iff_eq] at ho1
  obtain ⟨rfl, hpc⟩ := ho1
  subst ho2
  exact lv_iadd hx hb hd (kk.next hpc hW hS hL)

theorem sn_isub  (A : AT g k d h0 h h1 p R s m args meth c H locs lsR ls) (hd : decode (mB k) pc = .ok (raw, len)) (hok : okB k ip .isub pc raw len hint = true) (hs : stepI d .isub ls st h = some (.inl (t, ls1, st1, h1))) (kk : KK g k ip p l e R s m args below meth c Q h0 t ls1 st1 h1) : GO g p l e R s m args below meth c Q h0 h H locs lsR st pc := by
  simp only [stepI] at hs
  obtain ⟨y, r1, rfl, hs1⟩ := withI_inv hs
  obtain ⟨x, r, rfl, hs2⟩ := withI_inv hs1
  obtain ⟨rfl, rfl, rfl, rfl⟩ := nx_inv hs2
  obtain ⟨F, hW, hS, hL, hc0, hs0, hcR, hsR, hh0, hfr, hlo⟩ := A
  obtain ⟨hx, hb, hml, hret, hown, hts, hlocks, hname, hsz, hX, hbz, hnest⟩ := F
  have hok : (len == 1 && pcOf k (ip + 1) == pc + 1) = true ∧ decide (raw = .isub) = true := by simpa [okB] using hok
  obtain ⟨ho1, ho2⟩ := hok
  have ho2 := of_decide_eq_true ho2
  simp only [Bool.and_eq_true, beq_iff_eq] at ho1
  obtain ⟨rfl, hpc⟩ := ho1
  subst ho2
  exact lv_isub hx hb hd (kk.next hpc hW hS hL)

theorem sn_imul  (A : AT g k d h0 h h1 p R s m args meth c H locs lsR ls) (hd : decode (mB k) pc = .ok (raw, len)) (hok : okB k ip .imul pc raw len hint = true) (hs : stepI d .imul ls st h = some (.inl (t, ls1, st1, h1))) (kk : KK g k ip p l e R s m args below meth c Q h0 t ls1 st1 h1) : GO g p l e R s m args below meth c Q h0 h H locs lsR st pc := by
  simp only [stepI] at hs
  obtain ⟨y, r1, rfl, hs1⟩ := withI_inv hs
  obtain ⟨x, r, rfl, hs2⟩ := withI_inv hs1
  obtain ⟨rfl, rfl, rfl, rfl⟩ := nx_inv hs2
  obtain ⟨F, hW, hS, hL, hc0, hs0, hcR, hsR, hh0, hfr, hlo⟩ := A
  obtain ⟨hx, hb, hml, hret, hown, hts, hlocks, hname, hsz, hX, hbz, hnest⟩ := F
  have hok : (len == 1 && pcOf k (ip + 1) == pc + 1) = true ∧ decide (raw = .imul) = true := by simpa [okB] using hok
  obtain ⟨ho1, ho2⟩ := hok
  have ho2 := of_decide_eq_true ho2
  simp only [Bool.and_eq_true, beq_iff_eq] at ho1
  obtain ⟨rfl, hpc⟩ := ho1
  subst ho2
  exact lv_imul hx hb hd (kk.next hpc hW hS hL)

theorem sn_iand  (A : AT g k d h0 h h1 p R s m args meth c H locs lsR ls) (hd : decode (mB k) pc = .ok (raw, len)) (hok : okB k ip .iand pc raw len hint = true) (hs : stepI d .iand ls st h = some (.inl (t, ls1, st1, h1))) (kk : KK g k ip p l e R s m args below meth c Q h0 t ls1 st1 h1) : GO g p l e R s m args below meth c Q h0 h H locs lsR st pc := by
  simp only [stepI] at hs
  obtain ⟨y, r1, rfl, hs1⟩ := withI_inv hs
  obtain ⟨x, r, rfl, hs2⟩ := withI_inv hs1
  obtain ⟨rfl, rfl, rfl, rfl⟩ := nx_inv hs2
  obtain ⟨F, hW, hS, hL, hc0, hs0, hcR, hsR, hh0, hfr, hlo⟩ := A
  obtain ⟨hx, hb, hml, hret, hown, hts, hlocks, hname, hsz, hX, hbz, hnest⟩ := F
  have hok : (len == 1 && pcOf k (ip + 1) == pc + 1) = true ∧ decide (raw = .iand) = true := by simpa [okB] using hok
  obtain ⟨ho1, ho2⟩ := hok
  have ho2 := of_decide_eq_true ho2
  simp only [Bool.and_eq_true, beq_iff_eq] at ho1
  obtain ⟨rfl, hpc⟩ := ho1
  subst ho2
  exact lv_iand hx hb hd (kk.next hpc hW hS hL)

theorem sn_ior  (A : AT g k d h0 h h1 p R s m args meth c H locs lsR ls) (hd : decode (mB k) pc = .ok (raw, len)) (hok : okB k ip .ior pc raw len hint = true) (hs : stepI d .ior ls st h = some (.inl (t, ls1, st1, h1))) (kk : KK g k ip p l e R s m args below meth c Q h0 t ls1 st1 h1) : GO g p l e R s m args below meth c Q h0 h H locs lsR st pc := by
  simp only [stepI] at hs
  obtain ⟨y, r1, rfl, hs1⟩ := withI_inv hs
  obtain ⟨x, r, rfl, hs2⟩ := withI_inv hs1
  obtain ⟨rfl, rfl, rfl, rfl⟩ := nx_inv hs2
  obtain ⟨F, hW, hS, hL, hc0, hs0, hcR, hsR, hh0, hfr, hlo⟩ := A
  obtain ⟨hx, hb, hml, hret, hown, hts, hlocks, hname, hsz, hX, hbz, hnest⟩ := F
  have hok : (len == 1 && pcOf k (ip + 1) == pc + 1) = true ∧ decide (raw = .ior) = true := by simpa [okB] using hok
  obtain ⟨ho1, ho2⟩ := hok
  have ho2 := of_decide_eq_true ho2
  simp only [Bool.and_eq_true, beq_iff_eq] at ho1
  obtain ⟨rfl, hpc⟩ := ho1
  subst ho2
  exact lv_ior hx hb hd (kk.next hpc hW hS hL)

theorem sn_ixor  (A : AT g k d h0 h h1 p R s m args meth c H locs lsR ls) (hd : decode (mB k) pc = .ok (raw, len)) (hok : okB k ip .ixor pc raw len hint = true) (hs : stepI d .ixor ls st h = some (.inl (t, ls1, st1, h1))) (kk : KK g k ip p l e R s m args below meth c Q h0 t ls1 st1 h1) : GO g p l e R s m args below meth c Q h0 h H locs lsR st pc := by
  simp only [stepI] at hs
  obtain ⟨y, r1, rfl, hs1⟩ := withI_inv hs
  obtain ⟨x, r, rfl, hs2⟩ := withI_inv hs1
  obtain ⟨rfl, rfl, rfl, rfl⟩ := nx_inv hs2
  obtain ⟨F, hW, hS, hL, hc0, hs0, hcR, hsR, hh0, hfr, hlo⟩ := A
  obtain ⟨hx, hb, hml, hret, hown, hts, hlocks, hname, hsz, hX, hbz, hnest⟩ := F
  have hok : (len == 1 && pcOf k (ip + 1) == pc + 1) = true ∧ decide (raw = .ixor) = true := by simpa [okB] using hok
  obtain ⟨ho1, ho2⟩ := hok
  have ho2 := of_decide_eq_true ho2
  simp only [Bool.and_eq_true, beq_iff_eq] at ho1
  obtain ⟨rfl, hpc⟩ := ho1
  subst ho2
  exact lv_ixor hx hb hd (kk.next hpc hW hS hL)

theorem sn_ishl  (A : AT g k d h0 h h1 p R s m args meth c H locs lsR ls) (hd : decode (mB k) pc = .ok (raw, len)) (hok : okB k ip .ishl pc raw len hint = true) (hs : stepI d .ishl ls st h = some (.inl (t, ls1, st1, h1))) (kk : KK g k ip p l e R s m args below meth c Q h0 t ls1 st1 h1) : GO g p l e R s m args below meth c Q h0 h H locs lsR st pc := by
  simp only [stepI] at hs
  obtain ⟨y, r1, rfl, hs1⟩ := withI_inv hs
  obtain ⟨x, r, rfl, hs2⟩ := withI_inv hs1
  obtain ⟨rfl, rfl, rfl, rfl⟩ := nx_inv hs2
  obtain ⟨F, hW, hS, hL, hc0, hs0, hcR, hsR, hh0, hfr, hlo⟩ := A
  obtain ⟨hx, hb, hml, hret, hown, hts, hlocks, hname, hsz, hX, hbz, hnest⟩ := F
  have hok : (len == 1 && pcOf k (ip + 1) == pc + 1) = true ∧ decide (raw = .ishl) = true := by simpa [okB] using hok
  obtain ⟨ho1, ho2⟩ := hok
  have ho2 := of_decide_eq_true ho2
  simp only [Bool.and_eq_true, beq_iff_eq] at ho1
  obtain ⟨rfl, hpc⟩ := ho1
  subst ho2
  exact lv_ishl hx hb hd (kk.next hpc hW hS hL)

theorem sn_ishr  (A : AT g k d h0 h h1 p R s m args meth c H locs lsR ls) (hd : decode (mB k) pc = .ok (raw, len)) (hok : okB k ip .ishr pc raw len hint = true) (hs : stepI d .ishr ls st h = some (.inl (t, ls1, st1, h1))) (kk : KK g k ip p l e R s m args below meth c Q h0 t ls1 st1 h1) : GO g p l e R s m args below meth c Q h0 h H locs lsR st pc := by
  simp only [stepI] at hs
  obtain ⟨y, r1, rfl, hs1⟩ := withI_inv hs
  obtain ⟨x, r, rfl, hs2⟩ := withI_inv hs1
  obtain ⟨rfl, rfl, rfl, rfl⟩ := nx_inv hs2
  obtain ⟨F, hW, hS, hL, hc0, hs0, hcR, hsR, hh0, hfr, hlo⟩ := A
  obtain ⟨hx, hb, hml, hret, hown, hts, hlocks, hname, hsz, hX, hbz, hnest⟩ := F
  have hok : (len == 1 && pcOf k (ip + 1) == pc + 1) = true ∧ decide (raw = .ishr) = true := by simpa [okB] using hok
  obtain ⟨ho1, ho2⟩ := hok
  have ho2 := of_decide_eq_true ho2
  simp only [Bool.and_eq_true, beq_iff_eq] at ho1
  obtain ⟨rfl, hpc⟩ := ho1
  subst ho2
  exact lv_ishr hx hb hd (kk.next hpc hW hS hL)

theorem sn_iushr  (A : AT g k d h0 h h1 p R s m args meth c H locs lsR ls) (hd : decode (mB k) pc = .ok (raw, len)) (hok : okB k ip .iushr pc raw len hint = true) (hs : stepI d .iushr ls st h = some (.inl (t, ls1, st1, h1))) (kk : KK g k ip p l e R s m args below meth c Q h0 t ls1 st1 h1) : GO g p l e R s m args below meth c Q h0 h H locs lsR st pc := by
  simp only [stepI] at hs
  obtain ⟨y, r1, rfl, hs1⟩ := withI_inv hs
  obtain ⟨x, r, rfl, hs2⟩ := withI_inv hs1
  obtain ⟨rfl, rfl, rfl, rfl⟩ := nx_inv hs2
  obtain ⟨F, hW, hS, hL, hc0, hs0, hcR, hsR, hh0, hfr, hlo⟩ := A
  obtain ⟨hx, hb, hml, hret, hown, hts, hlocks, hname, hsz, hX, hbz, hnest⟩ := F
  have hok : (len == 1 && pcOf k (ip + 1) == pc + 1) = true ∧ decide (raw = .iushr) = true := by simpa [okB] using hok
  obtain ⟨ho1, ho2⟩ := hok
  have ho2 := of_decide_eq_true ho2
  simp only [Bool.and_eq_true, beq_iff_eq] at ho1
  obtain ⟨rfl, hpc⟩ := ho1
  subst ho2
  exact lv_iushr hx hb hd rfl (kk.next hpc hW hS hL)

theorem sn_idiv  (A : AT g k d h0 h h1 p R s m args meth c H locs lsR ls) (hd : decode (mB k) pc = .ok (raw, len)) (hok : okB k ip .idiv pc raw len hint = true) (hs : stepI d .idiv ls st h = some (.inl (t, ls1, st1, h1))) (kk : KK g k ip p l e R s m args below meth c Q h0 t ls1 st1 h1) : GO g p l e R s m args below meth c Q h0 h H locs lsR st pc := by
  simp only [stepI] at hs
  obtain ⟨y, r1, rfl, hs1⟩ := withI_inv hs
  obtain ⟨x, r, rfl, hs2⟩ := withI_inv hs1
  obtain ⟨hne, hs3⟩ := gd_inv hs2
  obtain ⟨rfl, rfl, rfl, rfl⟩ := nx_inv hs3
  obtain ⟨F, hW, hS, hL, hc0, hs0, hcR, hsR, hh0, hfr, hlo⟩ := A
  obtain ⟨hx, hb, hml, hret, hown, hts, hlocks, hname, hsz, hX, hbz, hnest⟩ := F
  have hok : (len == 1 && pcOf k (ip + 1) == pc + 1) = true ∧ decide (raw = .idiv) = true := by simpa [okB] using hok
  obtain ⟨ho1, ho2⟩ := hok
  have ho2 := of_decide_eq_true ho2
  simp only [Bool.and_eq_true, beq_iff_eq] at ho1
  obtain ⟨rfl, hpc⟩ := ho1
  subst ho2
  exact lv_idiv hx hb hd hne (kk.next hpc hW hS hL)

theorem sn_irem  (A : AT g k d h0 h h1 p R s m args meth c H locs lsR ls) (hd : decode (mB k) pc = .ok (raw, len)) (hok : okB k ip .irem pc raw len hint = true) (hs : stepI d .irem ls st h = some (.inl (t, ls1, st1, h1))) (kk : KK g k ip p l e R s m args below meth c Q h0 t ls1 st1 h1) : GO g p l e R s m args below meth c Q h0 h H locs lsR st pc := by
  simp only [stepI] at hs
  obtain ⟨y, r1, rfl, hs1⟩ := withI_inv hs
  obtain ⟨x, r, rfl, hs2⟩ := withI_inv hs1
  obtain ⟨hne, hs3⟩ := gd_inv hs2
  obtain ⟨rfl, rfl, rfl, rfl⟩ := nx_inv hs3
  obtain ⟨F, hW, hS, hL, hc0, hs0, hcR, hsR, hh0, hfr, hlo⟩ := A
  obtain ⟨hx, hb, hml, hret, hown, hts, hlocks, hname, hsz, hX, hbz, hnest⟩ := F
  have hok : (len == 1 && pcOf k (ip + 1) == pc + 1) = true ∧ decide (raw = .irem) = true := by simpa [okB] using hok
  obtain ⟨ho1, ho2⟩ := hok
  have ho2 := of_decide_eq_true ho2
  simp only [Bool.and_eq_true, beq_iff_eq] at ho1
  obtain ⟨rfl, hpc⟩ := ho1
  subst ho2
  exact lv_irem hx hb hd hne (kk.next hpc hW hS hL)

theorem sn_ladd  (A : AT g k d h0 h h1 p R s m args meth c H locs lsR ls) (hd : decode (mB k) pc = .ok (raw, len)) (hok : okB k ip .ladd pc raw len hint = true) (hs : stepI d .ladd ls st h = some (.inl (t, ls1, st1, h1))) (kk : KK g k ip p l e R s m args below meth c Q h0 t ls1 st1 h1) : GO g p l e R s m args below meth c Q h0 h H locs lsR st pc := by
  simp only [stepI] at hs
  obtain ⟨y, r1, rfl, hs1⟩ := withL_inv hs
  obtain ⟨x, r, rfl, hs2⟩ := withL_inv hs1
  obtain ⟨rfl, rfl, rfl, rfl⟩ := nx_inv hs2
  obtain ⟨F, hW, hS, hL, hc0, hs0, hcR, hsR, hh0, hfr, hlo⟩ := A
  obtain ⟨hx, hb, hml, hret, hown, hts, hlocks, hname, hsz, hX, hbz, hnest⟩ := F
  have hok : (len == 1 && pcOf k (ip + 1) == pc + 1) = true ∧ decide (raw = .ladd) = true := by simpa [okB] using hok
  obtain ⟨ho1, ho2⟩ := hok
  have ho2 := of_decide_eq_true ho2
  simp only [Bool.and_eq_true, beq_iff_eq] at ho1
  obtain ⟨rfl, hpc⟩ := ho1
  subst ho2
  exact lv_ladd hx hb hd (kk.next hpc hW hS hL)

theorem sn_lmul  (A : AT g k d h0 h h1 p R s m args meth c H locs lsR ls) (hd : decode (mB k) pc = .ok (raw, len)) (hok : okB k ip .lmul pc raw len hint = true) (hs : stepI d .lmul ls st h = some (.inl (t, ls1, st1, h1))) (kk : KK g k ip p l e R s m args below meth c Q h0 t ls1 st1 h1) : GO g p l e R s m args below meth c Q h0 h H locs lsR st pc := by
  simp only [stepI] at hs
  obtain ⟨y, r1, rfl, hs1⟩ := withL_inv hs
  obtain ⟨x, r, rfl, hs2⟩ := withL_inv hs1
  obtain ⟨rfl, rfl, rfl, rfl⟩ := nx_inv hs2
  obtain ⟨F, hW, hS, hL, hc0, hs0, hcR, hsR, hh0, hfr, hlo⟩ := A
  obtain ⟨hx, hb, hml, hret, hown, hts, hlocks, hname, hsz, hX, hbz, hnest⟩ := F
  have hok : (len == 1 && pcOf k (ip + 1) == pc + 1) = true ∧ decide (raw = .lmul) = true := by simpa [okB] using hok
  obtain ⟨ho1, ho2⟩ := hok
  have ho2 := of_decide_eq_true ho2
  simp only [Bool.and_eq_true, beq_iff_eq] at ho1
  obtain ⟨rfl, hpc⟩ := ho1
  subst ho2
  exact lv_lmul hx hb hd (kk.next hpc hW hS hL)

theorem sn_land  (A : AT g k d h0 h h1 p R s m args meth c H locs lsR ls) (hd : decode (mB k) pc = .ok (raw, len)) (hok : okB k ip .land pc raw len hint = true) (hs : stepI d .land ls st h = some (.inl (t, ls1, st1, h1))) (kk : KK g k ip p l e R s m args below meth c Q h0 t ls1 st1 h1) : GO g p l e R s m args below meth c Q h0 h H locs lsR st pc := by
  simp only [stepI] at hs
  obtain ⟨y, r1, rfl, hs1⟩ := withL_inv hs
  obtain ⟨x, r, rfl, hs2⟩ := withL_inv hs1
  obtain ⟨rfl, rfl, rfl, rfl⟩ := nx_inv hs2
  obtain ⟨F, hW, hS, hL, hc0, hs0, hcR, hsR, hh0, hfr, hlo⟩ := A
  obtain ⟨hx, hb, hml, hret, hown, hts, hlocks, hname, hsz, hX, hbz, hnest⟩ := F
  have hok : (len == 1 && pcOf k (ip + 1) == pc + 1) = true ∧ decide (raw = .land) = true := by simpa [okB] using hok
  obtain ⟨ho1, ho2⟩ := hok
  have ho2 := of_decide_eq_true ho2
  simp only [Bool.and_eq_true, beq_iff_eq] at ho1
  obtain ⟨rfl, hpc⟩ := ho1
  subst ho2
  exact lv_land hx hb hd (kk.next hpc hW hS hL)

theorem sn_ldiv  (A : AT g k d h0 h h1 p R s m args meth c H locs lsR ls) (hd : decode (mB k) pc = .ok (raw, len)) (hok : okB k ip .ldiv pc raw len hint = true) (hs : stepI d .ldiv ls st h = some (.inl (t, ls1, st1, h1))) (kk : KK g k ip p l e R s m args below meth c Q h0 t ls1 st1 h1) : GO g p l e R s m args below meth c Q h0 h H locs lsR st pc := by
  simp only [stepI] at hs
  obtain ⟨y, r1, rfl, hs1⟩ := withL_inv hs
  obtain ⟨x, r, rfl, hs2⟩ := withL_inv hs1
  obtain ⟨hne, hs3⟩ := gd_inv hs2
  obtain ⟨rfl, rfl, rfl, rfl⟩ := nx_inv hs3
  obtain ⟨F, hW, hS, hL, hc0, hs0, hcR, hsR, hh0, hfr, hlo⟩ := A
  obtain ⟨hx, hb, hml, hret, hown, hts, hlocks, hname, hsz, hX, hbz, hnest⟩ := F
  have hok : (len == 1 && pcOf k (ip + 1) == pc + 1) = true ∧ decide (raw = .ldiv) = true := by simpa [okB] using hok
  obtain ⟨ho1, ho2⟩ := hok
  have ho2 := of_decide_eq_true ho2
  simp only [Bool.and_eq_true, beq_iff_eq] at ho1
  obtain ⟨rfl, hpc⟩ := ho1
  subst ho2
  exact lv_ldiv hx hb hd hne (kk.next hpc hW hS hL)

theorem sn_lrem  (A : AT g k d h0 h h1 p R s m args meth c H locs lsR ls) (hd : decode (mB k) pc = .ok (raw, len)) (hok : okB k ip .lrem pc raw len hint = true) (hs : stepI d .lrem ls st h = some (.inl (t, ls1, st1, h1))) (kk : KK g k ip p l e R s m args below meth c Q h0 t ls1 st1 h1) : GO g p l e R s m args below meth c Q h0 h H locs lsR st pc := by
  simp only [stepI] at hs
  obtain ⟨y, r1, rfl, hs1⟩ := withL_inv hs
  obtain ⟨x, r, rfl, hs2⟩ := withL_inv hs1
  obtain ⟨hne, hs3⟩ := gd_inv hs2
  obtain ⟨rfl, rfl, rfl, rfl⟩ := nx_inv hs3
  obtain ⟨F, hW, hS, hL, hc0, hs0, hcR, hsR, hh0, hfr, hlo⟩ := A
  obtain ⟨hx, hb, hml, hret, hown, hts, hlocks, hname, hsz, hX, hbz, hnest⟩ := F
  have hok : (len == 1 && pcOf k (ip + 1) == pc + 1) = true ∧ decide (raw = .lrem) = true := by simpa [okB] using hok
  obtain ⟨ho1, ho2⟩ := hok
  have ho2 := of_decide_eq_true ho2
  simp only [Bool.and_eq_true, beq_iff_eq] at ho1
  obtain ⟨rfl, hpc⟩ := ho1
  subst ho2
  exact lv_lrem hx hb hd hne (kk.next hpc hW hS hL)

theorem sn_lcmp  (A : AT g k d h0 h h1 p R s m args meth c H locs lsR ls) (hd : decode (mB k) pc = .ok (raw, len)) (hok : okB k ip .lcmp pc raw len hint = true) (hs : stepI d .lcmp ls st h = some (.inl (t, ls1, st1, h1))) (kk : KK g k ip p l e R s m args below meth c Q h0 t ls1 st1 h1) : GO g p l e R s m args below meth c Q h0 h H locs lsR st pc := by
  simp only [stepI] at hs
  obtain ⟨y, r1, rfl, hs1⟩ := withL_inv hs
  obtain ⟨x, r, rfl, hs2⟩ := withL_inv hs1
  obtain ⟨rfl, rfl, rfl, rfl⟩ := nx_inv hs2
  obtain ⟨F, hW, hS, hL, hc0, hs0, hcR, hsR, hh0, hfr, hlo⟩ := A
  obtain ⟨hx, hb, hml, hret, hown, hts, hlocks, hname, hsz, hX, hbz, hnest⟩ := F
  have hok : (len == 1 && pcOf k (ip + 1) == pc + 1) = true ∧ decide (raw = .lcmp) = true := by simpa [okB] using hok
  obtain ⟨ho1, ho2⟩ := hok
  have ho2 := of_decide_eq_true ho2
  simp only [Bool.and_eq_true, beq_iff_eq] at ho1
  obtain ⟨rfl, hpc⟩ := ho1
  subst ho2
  exact W.lcmp hx hb hd (kk.next hpc hW hS hL)

theorem sn_i2l  (A : AT g k d h0 h h1 p R s m args meth c H locs lsR ls) (hd : decode (mB k) pc = .ok (raw, len)) (hok : okB k ip .i2l pc raw len hint = true) (hs : stepI d .i2l ls st h = some (.inl (t, ls1, st1, h1))) (kk : KK g k ip p l e R s m args below meth c Q h0 t ls1 st1 h1) : GO g p l e R s m args below meth c Q h0 h H locs lsR st pc := by
  simp only [stepI] at hs
  obtain ⟨x, r, rfl, hs1⟩ := withI_inv hs
  obtain ⟨rfl, rfl, rfl, rfl⟩ := nx_inv hs1
  obtain ⟨F, hW, hS, hL, hc0, hs0, hcR, hsR, hh0, hfr, hlo⟩ := A
  obtain ⟨hx, hb, hml, hret, hown, hts, hlocks, hname, hsz, hX, hbz, hnest⟩ := F
  have hok : (len == 1 && pcOf k (ip + 1) == pc + 1) = true ∧ decide (raw = .i2l) = true := by simpa [okB] using hok
  obtain ⟨ho1, ho2⟩ := hok
  have ho2 := of_decide_eq_true ho2
  simp only [Bool.and_eq_true, beq_iff_eq] at ho1
  obtain ⟨rfl, hpc⟩ := ho1
  subst ho2
  exact lv_i2l hx hb hd rfl (kk.next hpc hW hS hL)

theorem sn_l2i  (A : AT g k d h0 h h1 p R s m args meth c H locs lsR ls) (hd : decode (mB k) pc = .ok (raw, len)) (hok : okB k ip .l2i pc raw len hint = true) (hs : stepI d .l2i ls st h = some (.inl (t, ls1, st1, h1))) (kk : KK g k ip p l e R s m args below meth c Q h0 t ls1 st1 h1) : GO g p l e R s m args below meth c Q h0 h H locs lsR st pc := by
  simp only [stepI] at hs
  obtain ⟨x, r, rfl, hs1⟩ := withL_inv hs
  obtain ⟨rfl, rfl, rfl, rfl⟩ := nx_inv hs1
  obtain ⟨F, hW, hS, hL, hc0, hs0, hcR, hsR, hh0, hfr, hlo⟩ := A
  obtain ⟨hx, hb, hml, hret, hown, hts, hlocks, hname, hsz, hX, hbz, hnest⟩ := F
  have hok : (len == 1 && pcOf k (ip + 1) == pc + 1) = true ∧ decide (raw = .l2i) = true := by simpa [okB] using hok
  obtain ⟨ho1, ho2⟩ := hok
  have ho2 := of_decide_eq_true ho2
  simp only [Bool.and_eq_true, beq_iff_eq] at ho1
  obtain ⟨rfl, hpc⟩ := ho1
  subst ho2
  exact lv_l2i hx hb hd rfl (kk.next hpc hW hS hL)

theorem sn_iconst {z : Int} (A : AT g k d h0 h h1 p R s m args meth c H locs lsR ls) (hd : decode (mB k) pc = .ok (raw, len)) (hok : okB k ip (.iconst z) pc raw len hint = true) (hs : stepI d (.iconst z) ls st h = some (.inl (t, ls1, st1, h1))) (kk : KK g k ip p l e R s m args below meth c Q h0 t ls1 st1 h1) : GO g p l e R s m args below meth c Q h0 h H locs lsR st pc := by
  simp only [stepI] at hs
  obtain ⟨rfl, rfl, rfl, rfl⟩ := nx_inv hs
  obtain ⟨F, hW, hS, hL, hc0, hs0, hcR, hsR, hh0, hfr, hlo⟩ := A
  obtain ⟨hx, hb, hml, hret, hown, hts, hlocks, hname, hsz, hX, hbz, hnest⟩ := F
  simp only [okB, Bool.and_eq_true, beq_iff_eq] at hok
  obtain ⟨ho, hpc⟩ := hok
  have hK := kk.next hpc hW hS hL
  unfold okConst at ho
  split at ho
  · simp only [Bool.and_eq_true, beq_iff_eq, decide_eq_true_eq] at ho
    obtain ⟨h1, rfl⟩ := ho
    exact lv_iconst hx hb hd h1 hK
  · simp only [Bool.and_eq_true, beq_iff_eq, decide_eq_true_eq] at ho
    obtain ⟨h1, rfl⟩ := ho
    exact lv_bipush hx hb hd h1 hK
  · simp only [Bool.and_eq_true, beq_iff_eq, decide_eq_true_eq] at ho
    obtain ⟨h1, rfl⟩ := ho
    exact lv_sipush hx hb hd h1 hK
  · simp only [Bool.and_eq_true, beq_iff_eq] at ho
    obtain ⟨h1, rfl⟩ := ho
    exact lv_ldc hx hb hown (hts _ (gTbl_in (memAt_in h1) rfl)) hd hK
  · simp only [Bool.and_eq_true, beq_iff_eq] at ho
    obtain ⟨h1, rfl⟩ := ho
    exact lv_ldcw hx hb hown (hts _ (gTbl_in (memAt_in h1) rfl)) hd hK
  · cases ho

theorem sn_jsr_w {z : Int} (A : AT g k d h0 h h1 p R s m args meth c H locs lsR ls) (hd : decode (mB k) pc = .ok (raw, len)) (hok : okB k ip (.jsr_w z) pc raw len hint = true) (hs : stepI d (.jsr_w z) ls st h = some (.inl (t, ls1, st1, h1))) (kk : KK g k ip p l e R s m args below meth c Q h0 t ls1 st1 h1) : GO g p l e R s m args below meth c Q h0 h H locs lsR st pc := by
  simp only [stepI] at hs
  obtain ⟨rfl, rfl, rfl, rfl⟩ := nx_inv hs
  obtain ⟨F, hW, hS, hL, hc0, hs0, hcR, hsR, hh0, hfr, hlo⟩ := A
  obtain ⟨hx, hb, hml, hret, hown, hts, hlocks, hname, hsz, hX, hbz, hnest⟩ := F
  simp only [okB, Bool.and_eq_true, beq_iff_eq] at hok
  obtain ⟨ho, hpc⟩ := hok
  have hK := kk.next hpc hW hS hL
  unfold okConstL at ho
  split at ho
  · simp only [Bool.and_eq_true, beq_iff_eq, decide_eq_true_eq] at ho
    obtain ⟨h1, rfl⟩ := ho
    exact lv_lconst hx hb hd h1 hK
  · simp only [Bool.and_eq_true, beq_iff_eq] at ho
    obtain ⟨h1, rfl⟩ := ho
    exact lv_ldc2 hx hb hown (hts _ (gTbl_in (memAt_in h1) rfl)) hd hK
  · cases ho

theorem sn_aconst_null  (A : AT g k d h0 h h1 p R s m args meth c H locs lsR ls) (hd : decode (mB k) pc = .ok (raw, len)) (hok : okB k ip .aconst_null pc raw len hint = true) (hs : stepI d .aconst_null ls st h = some (.inl (t, ls1, st1, h1))) (kk : KK g k ip p l e R s m args below meth c Q h0 t ls1 st1 h1) : GO g p l e R s m args below meth c Q h0 h H locs lsR st pc := by
  simp only [stepI] at hs
  obtain ⟨rfl, rfl, rfl, rfl⟩ := nx_inv hs
  obtain ⟨F, hW, hS, hL, hc0, hs0, hcR, hsR, hh0, hfr, hlo⟩ := A
  obtain ⟨hx, hb, hml, hret, hown, hts, hlocks, hname, hsz, hX, hbz, hnest⟩ := F
  have hok : (len == 1 && pcOf k (ip + 1) == pc + 1) = true ∧ decide (raw = .aconst_null) = true := by simpa [okB] using hok
  obtain ⟨ho1, ho2⟩ := hok
  have ho2 := of_decide_eq_true ho2
  simp only [Bool.and_eq_true, beq_iff_eq] at ho1
  obtain ⟨rfl, hpc⟩ := ho1
  subst ho2
  exact lv_null hx hb hd (kk.next hpc hW hS hL)

theorem sn_iload {i : Nat} (A : AT g k d h0 h h1 p R s m args meth c H locs lsR ls) (hd : decode (mB k) pc = .ok (raw, len)) (hok : okB k ip (.iload i) pc raw len hint = true) (hs : stepI d (.iload i) ls st h = some (.inl (t, ls1, st1, h1))) (kk : KK g k ip p l e R s m args below meth c Q h0 t ls1 st1 h1) : GO g p l e R s m args below meth c Q h0 h H locs lsR st pc := by
  simp only [stepI] at hs
  obtain ⟨v, hv, hs1⟩ := withV_inv hs
  obtain ⟨x, r, hq, hs2⟩ := withI_inv hs1
  obtain ⟨rfl, rfl, rfl, rfl⟩ := nx_inv hs2
  cases hq
  obtain ⟨F, hW, hS, hL, hc0, hs0, hcR, hsR, hh0, hfr, hlo⟩ := A
  obtain ⟨hx, hb, hml, hret, hown, hts, hlocks, hname, hsz, hX, hbz, hnest⟩ := F
  simp only [okB, Bool.and_eq_true, beq_iff_eq] at hok
  obtain ⟨hpc, ho⟩ := hok
  have hK := kk.next hpc hW hS hL
  have hlv := hL.2.2.2 _ _ hv
  split at ho
  · simp only [Bool.and_eq_true, beq_iff_eq] at ho
    obtain ⟨rfl, rfl⟩ := ho
    exact lv_iload hx hb hd hlv hK
  · simp only [Bool.and_eq_true, beq_iff_eq] at ho
    obtain ⟨rfl, rfl⟩ := ho
    exact lv_iload_n hx hb hd rfl hlv hK
  · cases ho

theorem sn_lload {i : Nat} (A : AT g k d h0 h h1 p R s m args meth c H locs lsR ls) (hd : decode (mB k) pc = .ok (raw, len)) (hok : okB k ip (.lload i) pc raw len hint = true) (hs : stepI d (.lload i) ls st h = some (.inl (t, ls1, st1, h1))) (kk : KK g k ip p l e R s m args below meth c Q h0 t ls1 st1 h1) : GO g p l e R s m args below meth c Q h0 h H locs lsR st pc := by
  simp only [stepI] at hs
  obtain ⟨v, hv, hs1⟩ := withV_inv hs
  obtain ⟨x, r, hq, hs2⟩ := withL_inv hs1
  obtain ⟨rfl, rfl, rfl, rfl⟩ := nx_inv hs2
  cases hq
  obtain ⟨F, hW, hS, hL, hc0, hs0, hcR, hsR, hh0, hfr, hlo⟩ := A
  obtain ⟨hx, hb, hml, hret, hown, hts, hlocks, hname, hsz, hX, hbz, hnest⟩ := F
  simp only [okB, Bool.and_eq_true, beq_iff_eq] at hok
  obtain ⟨hpc, ho⟩ := hok
  have hK := kk.next hpc hW hS hL
  have hlv := hL.2.2.2 _ _ hv
  split at ho
  · simp only [Bool.and_eq_true, beq_iff_eq] at ho
    obtain ⟨rfl, rfl⟩ := ho
    exact lv_lload hx hb hd hlv hK
  · simp only [Bool.and_eq_true, beq_iff_eq] at ho
    obtain ⟨rfl, rfl⟩ := ho
    exact lv_lload_n hx hb hd rfl hlv hK
  · cases ho

theorem sn_aload {i : Nat} (A : AT g k d h0 h h1 p R s m args meth c H locs lsR ls) (hd : decode (mB k) pc = .ok (raw, len)) (hok : okB k ip (.aload i) pc raw len hint = true) (hs : stepI d (.aload i) ls st h = some (.inl (t, ls1, st1, h1))) (kk : KK g k ip p l e R s m args below meth c Q h0 t ls1 st1 h1) : GO g p l e R s m args below meth c Q h0 h H locs lsR st pc := by
  simp only [stepI] at hs
  obtain ⟨v, hv, hs1⟩ := withV_inv hs
  obtain ⟨x, r, hq, hs2⟩ := withR_inv hs1
  obtain ⟨rfl, rfl, rfl, rfl⟩ := nx_inv hs2
  cases hq
  obtain ⟨F, hW, hS, hL, hc0, hs0, hcR, hsR, hh0, hfr, hlo⟩ := A
  obtain ⟨hx, hb, hml, hret, hown, hts, hlocks, hname, hsz, hX, hbz, hnest⟩ := F
  simp only [okB, Bool.and_eq_true, beq_iff_eq] at hok
  obtain ⟨hpc, ho⟩ := hok
  have hK := kk.next hpc hW hS hL
  have hlv := hL.2.2.2 _ _ hv
  split at ho
  · simp only [Bool.and_eq_true, beq_iff_eq] at ho
    obtain ⟨rfl, rfl⟩ := ho
    exact lv_aload hx hb hd hlv hK
  · simp only [Bool.and_eq_true, beq_iff_eq] at ho
    obtain ⟨rfl, rfl⟩ := ho
    exact lv_aload_n hx hb hd rfl hlv hK
  · cases ho

theorem sn_istore {i : Nat} (A : AT g k d h0 h h1 p R s m args meth c H locs lsR ls) (hd : decode (mB k) pc = .ok (raw, len)) (hok : okB k ip (.istore i) pc raw len hint = true) (hs : stepI d (.istore i) ls st h = some (.inl (t, ls1, st1, h1))) (kk : KK g k ip p l e R s m args below meth c Q h0 t ls1 st1 h1) : GO g p l e R s m args below meth c Q h0 h H locs lsR st pc := by
  simp only [stepI] at hs
  obtain ⟨x, r, rfl, hs1⟩ := withI_inv hs
  obtain ⟨⟨hf, hi⟩, hs2⟩ := gd_inv hs1
  obtain ⟨rfl, rfl, rfl, rfl⟩ := nx_inv hs2
  obtain ⟨F, hW, hS, hL, hc0, hs0, hcR, hsR, hh0, hfr, hlo⟩ := A
  obtain ⟨hx, hb, hml, hret, hown, hts, hlocks, hname, hsz, hX, hbz, hnest⟩ := F
  simp only [okB, Bool.and_eq_true, beq_iff_eq] at hok
  obtain ⟨hpc, ho⟩ := hok
  have hi2 := hi
  rw [hL.2.1] at hi2
  split at ho
  · simp only [Bool.and_eq_true, beq_iff_eq] at ho
    obtain ⟨rfl, rfl⟩ := ho
    exact lv_istore hx hb hd hL.has hi2 rfl (fun ls2 hh => kk.next hpc hW hS (hL.store1 rfl hh hf hi))
  · simp only [Bool.and_eq_true, beq_iff_eq] at ho
    obtain ⟨rfl, rfl⟩ := ho
    exact lv_istore_n hx hb hd rfl hL.has hi2 rfl (fun ls2 hh => kk.next hpc hW hS (hL.store1 rfl hh hf hi))
  · cases ho

theorem sn_lstore {i : Nat} (A : AT g k d h0 h h1 p R s m args meth c H locs lsR ls) (hd : decode (mB k) pc = .ok (raw, len)) (hok : okB k ip (.lstore i) pc raw len hint = true) (hs : stepI d (.lstore i) ls st h = some (.inl (t, ls1, st1, h1))) (kk : KK g k ip p l e R s m args below meth c Q h0 t ls1 st1 h1) : GO g p l e R s m args below meth c Q h0 h H locs lsR st pc := by
  simp only [stepI] at hs
  obtain ⟨x, r, rfl, hs1⟩ := withL_inv hs
  obtain ⟨⟨hf, hi⟩, hs2⟩ := gd_inv hs1
  obtain ⟨rfl, rfl, rfl, rfl⟩ := nx_inv hs2
  obtain ⟨F, hW, hS, hL, hc0, hs0, hcR, hsR, hh0, hfr, hlo⟩ := A
  obtain ⟨hx, hb, hml, hret, hown, hts, hlocks, hname, hsz, hX, hbz, hnest⟩ := F
  simp only [okB, Bool.and_eq_true, beq_iff_eq] at hok
  obtain ⟨hpc, ho⟩ := hok
  have hi2 := hi
  rw [hL.2.1] at hi2
  split at ho
  · simp only [Bool.and_eq_true, beq_iff_eq] at ho
    obtain ⟨rfl, rfl⟩ := ho
    exact lv_lstore hx hb hd hL.has hi2 rfl (fun ls2 hh => kk.next hpc hW hS (hL.store2 rfl hh hf hi))
  · simp only [Bool.and_eq_true, beq_iff_eq] at ho
    obtain ⟨rfl, rfl⟩ := ho
    exact lv_lstore_n hx hb hd rfl hL.has hi2 rfl (fun ls2 hh => kk.next hpc hW hS (hL.store2 rfl hh hf hi))
  · cases ho

theorem sn_astore {i : Nat} (A : AT g k d h0 h h1 p R s m args meth c H locs lsR ls) (hd : decode (mB k) pc = .ok (raw, len)) (hok : okB k ip (.astore i) pc raw len hint = true) (hs : stepI d (.astore i) ls st h = some (.inl (t, ls1, st1, h1))) (kk : KK g k ip p l e R s m args below meth c Q h0 t ls1 st1 h1) : GO g p l e R s m args below meth c Q h0 h H locs lsR st pc := by
  simp only [stepI] at hs
  obtain ⟨x, r, rfl, hs1⟩ := withR_inv hs
  obtain ⟨⟨hf, hi⟩, hs2⟩ := gd_inv hs1
  obtain ⟨rfl, rfl, rfl, rfl⟩ := nx_inv hs2
  obtain ⟨F, hW, hS, hL, hc0, hs0, hcR, hsR, hh0, hfr, hlo⟩ := A
  obtain ⟨hx, hb, hml, hret, hown, hts, hlocks, hname, hsz, hX, hbz, hnest⟩ := F
  simp only [okB, Bool.and_eq_true, beq_iff_eq] at hok
  obtain ⟨hpc, ho⟩ := hok
  have hi2 := hi
  rw [hL.2.1] at hi2
  split at ho
  · simp only [Bool.and_eq_true, beq_iff_eq] at ho
    obtain ⟨rfl, rfl⟩ := ho
    exact lv_astore hx hb hd hL.has hi2 rfl (fun ls2 hh => kk.next hpc hW hS (hL.store1 rfl hh hf hi))
  · simp only [Bool.and_eq_true, beq_iff_eq] at ho
    obtain ⟨rfl, rfl⟩ := ho
    exact lv_astore_n hx hb hd rfl hL.has hi2 rfl (fun ls2 hh => kk.next hpc hW hS (hL.store1 rfl hh hf hi))
  · cases ho

theorem sn_iinc {i : Nat} {z : Int} (A : AT g k d h0 h h1 p R s m args meth c H locs lsR ls) (hd : decode (mB k) pc = .ok (raw, len)) (hok : okB k ip (.iinc i z) pc raw len hint = true) (hs : stepI d (.iinc i z) ls st h = some (.inl (t, ls1, st1, h1))) (kk : KK g k ip p l e R s m args below meth c Q h0 t ls1 st1 h1) : GO g p l e R s m args below meth c Q h0 h H locs lsR st pc := by
  simp only [stepI] at hs
  obtain ⟨v, hv, hs1⟩ := withV_inv hs
  obtain ⟨x, r, hq, hs2⟩ := withI_inv hs1
  cases hq
  obtain ⟨hf, hs3⟩ := gd_inv hs2
  obtain ⟨rfl, rfl, rfl, rfl⟩ := nx_inv hs3
  obtain ⟨F, hW, hS, hL, hc0, hs0, hcR, hsR, hh0, hfr, hlo⟩ := A
  obtain ⟨hx, hb, hml, hret, hown, hts, hlocks, hname, hsz, hX, hbz, hnest⟩ := F
  have hok : (len == 3 && pcOf k (ip + 1) == pc + 3) = true ∧ decide (raw = .iinc i z) = true := by simpa [okB] using hok
  obtain ⟨ho1, ho2⟩ := hok
  have ho2 := of_decide_eq_true ho2
  simp only [Bool.and_eq_true, beq_iff_eq] at ho1
  obtain ⟨rfl, hpc⟩ := ho1
  subst ho2
  have hi := lGet_lt hv
  have hi2 := hi
  rw [hL.2.1] at hi2
  obtain ⟨kq, hkq⟩ := List.getElem?_of_mem (asc_mem (g := g) hv)
  exact lv_iinc hx hb hd hL.has hkq rfl hi2 rfl (fun ls2 hh => kk.next hpc hW hS (hL.store1 rfl hh hf hi))

theorem sn_dup  (A : AT g k d h0 h h1 p R s m args meth c H locs lsR ls) (hd : decode (mB k) pc = .ok (raw, len)) (hok : okB k ip .dup pc raw len hint = true) (hs : stepI d .dup ls st h = some (.inl (t, ls1, st1, h1))) (kk : KK g k ip p l e R s m args below meth c Q h0 t ls1 st1 h1) : GO g p l e R s m args below meth c Q h0 h H locs lsR st pc := by
  simp only [stepI] at hs
  split at hs
  · obtain ⟨hcat, hs1⟩ := gd_inv hs
    obtain ⟨rfl, rfl, rfl, rfl⟩ := nx_inv hs1
    obtain ⟨F, hW, hS, hL, hc0, hs0, hcR, hsR, hh0, hfr, hlo⟩ := A
    obtain ⟨hx, hb, hml, hret, hown, hts, hlocks, hname, hsz, hX, hbz, hnest⟩ := F
    have hok : (len == 1 && pcOf k (ip + 1) == pc + 1) = true ∧ decide (raw = .dup) = true := by simpa [okB] using hok
    obtain ⟨ho1, ho2⟩ := hok
    have ho2 := of_decide_eq_true ho2
    simp only [Bool.and_eq_true, beq_iff_eq] at ho1
    obtain ⟨rfl, hpc⟩ := ho1
    subst ho2
    exact lv_dup hx hb hd (tr_cat.trans hcat) (kk.next hpc hW hS hL)
  · contradiction

theorem sn_dup2  (A : AT g k d h0 h h1 p R s m args meth c H locs lsR ls) (hd : decode (mB k) pc = .ok (raw, len)) (hok : okB k ip .dup2 pc raw len hint = true) (hs : stepI d .dup2 ls st h = some (.inl (t, ls1, st1, h1))) (kk : KK g k ip p l e R s m args below meth c Q h0 t ls1 st1 h1) : GO g p l e R s m args below meth c Q h0 h H locs lsR st pc := by
  simp only [stepI] at hs
  split at hs
  · obtain ⟨⟨hcat, hcat2⟩, hs1⟩ := gd_inv hs
    obtain ⟨rfl, rfl, rfl, rfl⟩ := nx_inv hs1
    obtain ⟨F, hW, hS, hL, hc0, hs0, hcR, hsR, hh0, hfr, hlo⟩ := A
    obtain ⟨hx, hb, hml, hret, hown, hts, hlocks, hname, hsz, hX, hbz, hnest⟩ := F
    have hok : (len == 1 && pcOf k (ip + 1) == pc + 1) = true ∧ decide (raw = .dup2) = true := by simpa [okB] using hok
    obtain ⟨ho1, ho2⟩ := hok
    have ho2 := of_decide_eq_true ho2
    simp only [Bool.and_eq_true, beq_iff_eq] at ho1
    obtain ⟨rfl, hpc⟩ := ho1
    subst ho2
    exact lv_dup2_11 hx hb hd (tr_cat.trans hcat) (tr_cat.trans hcat2) (kk.next hpc hW hS hL)
  · contradiction

theorem sn_goto {z : Int} (A : AT g k d h0 h h1 p R s m args meth c H locs lsR ls) (hd : decode (mB k) pc = .ok (raw, len)) (hok : okB k ip (.goto z) pc raw len hint = true) (hs : stepI d (.goto z) ls st h = some (.inl (t, ls1, st1, h1))) (kk : KK g k ip p l e R s m args below meth c Q h0 t ls1 st1 h1) : GO g p l e R s m args below meth c Q h0 h H locs lsR st pc := by
  simp only [stepI] at hs
  obtain ⟨rfl, rfl, rfl, rfl⟩ := jp_inv hs
  obtain ⟨F, hW, hS, hL, hc0, hs0, hcR, hsR, hh0, hfr, hlo⟩ := A
  obtain ⟨hx, hb, hml, hret, hown, hts, hlocks, hname, hsz, hX, hbz, hnest⟩ := F
  simp only [okB] at hok
  split at hok
  · simp only [okJ, Bool.and_eq_true, beq_iff_eq, decide_eq_true_eq] at hok
    obtain ⟨hj, rfl⟩ := hok
    exact lv_goto hx hb hd hj (kk.jump hW hS hL)
  · cases hok

theorem sn_if_icmp {cc : ClassFile.Cond} {z : Int} (A : AT g k d h0 h h1 p R s m args meth c H locs lsR ls) (hd : decode (mB k) pc = .ok (raw, len)) (hok : okB k ip (.if_icmp cc z) pc raw len hint = true) (hs : stepI d (.if_icmp cc z) ls st h = some (.inl (t, ls1, st1, h1))) (kk : KK g k ip p l e R s m args below meth c Q h0 t ls1 st1 h1) : GO g p l e R s m args below meth c Q h0 h H locs lsR st pc := by
  simp only [stepI] at hs
  obtain ⟨y, r1, rfl, hs1⟩ := withI_inv hs
  obtain ⟨x, r, rfl, hs2⟩ := withI_inv hs1
  obtain ⟨F, hW, hS, hL, hc0, hs0, hcR, hsR, hh0, hfr, hlo⟩ := A
  obtain ⟨hx, hb, hml, hret, hown, hts, hlocks, hname, hsz, hX, hbz, hnest⟩ := F
  simp only [okB, Bool.and_eq_true, beq_iff_eq] at hok
  obtain ⟨⟨hlen, hpc⟩, ho⟩ := hok
  split at ho
  · simp only [okJ, Bool.and_eq_true, beq_iff_eq, decide_eq_true_eq] at ho
    obtain ⟨rfl, hj, hlen2⟩ := ho
    subst hlen
    cases cc <;> simp only [cmpC, decide_eq_true_eq] at hs2
    · refine lv_icmp_eq hx hb hd hj (fun q => ?_) (fun q => ?_)
      · rw [if_pos (by simpa using q)] at hs2
        obtain ⟨rfl, rfl, rfl, rfl⟩ := jp_inv hs2
        exact kk.jump hW hS hL
      · rw [if_neg (by simpa using q)] at hs2
        obtain ⟨rfl, rfl, rfl, rfl⟩ := nx_inv hs2
        exact kk.next hpc hW hS hL
    · refine lv_icmp_ne hx hb hd hj (fun q => ?_) (fun q => ?_)
      · rw [if_pos (by simpa using q)] at hs2
        obtain ⟨rfl, rfl, rfl, rfl⟩ := jp_inv hs2
        exact kk.jump hW hS hL
      · rw [if_neg (by simpa using q)] at hs2
        obtain ⟨rfl, rfl, rfl, rfl⟩ := nx_inv hs2
        exact kk.next hpc hW hS hL
    · refine lv_icmp_lt hx hb hd hj (fun q => ?_) (fun q => ?_)
      · rw [if_pos (by simpa using q)] at hs2
        obtain ⟨rfl, rfl, rfl, rfl⟩ := jp_inv hs2
        exact kk.jump hW hS hL
      · rw [if_neg (by simpa using q)] at hs2
        obtain ⟨rfl, rfl, rfl, rfl⟩ := nx_inv hs2
        exact kk.next hpc hW hS hL
    · refine lv_icmp_ge hx hb hd hj (fun q => ?_) (fun q => ?_)
      · rw [if_pos (by simpa using q)] at hs2
        obtain ⟨rfl, rfl, rfl, rfl⟩ := jp_inv hs2
        exact kk.jump hW hS hL
      · rw [if_neg (by simpa using q)] at hs2
        obtain ⟨rfl, rfl, rfl, rfl⟩ := nx_inv hs2
        exact kk.next hpc hW hS hL
    · refine lv_icmp_gt hx hb hd hj (fun q => ?_) (fun q => ?_)
      · rw [if_pos (by simpa using q)] at hs2
        obtain ⟨rfl, rfl, rfl, rfl⟩ := jp_inv hs2
        exact kk.jump hW hS hL
      · rw [if_neg (by simpa using q)] at hs2
        obtain ⟨rfl, rfl, rfl, rfl⟩ := nx_inv hs2
        exact kk.next hpc hW hS hL
    · refine lv_icmp_le hx hb hd hj (fun q => ?_) (fun q => ?_)
      · rw [if_pos (by simpa using q)] at hs2
        obtain ⟨rfl, rfl, rfl, rfl⟩ := jp_inv hs2
        exact kk.jump hW hS hL
      · rw [if_neg (by simpa using q)] at hs2
        obtain ⟨rfl, rfl, rfl, rfl⟩ := nx_inv hs2
        exact kk.next hpc hW hS hL
  · cases ho

theorem sn_ifCond {cc : ClassFile.Cond} {z : Int} (A : AT g k d h0 h h1 p R s m args meth c H locs lsR ls) (hd : decode (mB k) pc = .ok (raw, len)) (hok : okB k ip (.ifCond cc z) pc raw len hint = true) (hs : stepI d (.ifCond cc z) ls st h = some (.inl (t, ls1, st1, h1))) (kk : KK g k ip p l e R s m args below meth c Q h0 t ls1 st1 h1) : GO g p l e R s m args below meth c Q h0 h H locs lsR st pc := by
  simp only [stepI] at hs
  obtain ⟨x, r, rfl, hs1⟩ := withI_inv hs
  obtain ⟨F, hW, hS, hL, hc0, hs0, hcR, hsR, hh0, hfr, hlo⟩ := A
  obtain ⟨hx, hb, hml, hret, hown, hts, hlocks, hname, hsz, hX, hbz, hnest⟩ := F
  simp only [okB, Bool.and_eq_true, beq_iff_eq] at hok
  obtain ⟨⟨hlen, hpc⟩, ho⟩ := hok
  split at ho
  · simp only [okJ, Bool.and_eq_true, beq_iff_eq, decide_eq_true_eq] at ho
    obtain ⟨rfl, hj, hlen2⟩ := ho
    subst hlen
    cases cc <;> simp only [cmpC, decide_eq_true_eq] at hs1
    · refine lv_if_eq hx hb hd hj (fun q => ?_) (fun q => ?_)
      · rw [if_pos (by simpa using q)] at hs1
        obtain ⟨rfl, rfl, rfl, rfl⟩ := jp_inv hs1
        exact kk.jump hW hS hL
      · rw [if_neg (by simpa using q)] at hs1
        obtain ⟨rfl, rfl, rfl, rfl⟩ := nx_inv hs1
        exact kk.next hpc hW hS hL
    · refine lv_if_ne hx hb hd hj (fun q => ?_) (fun q => ?_)
      · rw [if_pos (by simpa using q)] at hs1
        obtain ⟨rfl, rfl, rfl, rfl⟩ := jp_inv hs1
        exact kk.jump hW hS hL
      · rw [if_neg (by simpa using q)] at hs1
        obtain ⟨rfl, rfl, rfl, rfl⟩ := nx_inv hs1
        exact kk.next hpc hW hS hL
    · refine lv_if_lt hx hb hd hj (fun q => ?_) (fun q => ?_)
      · rw [if_pos (by simpa using q)] at hs1
        obtain ⟨rfl, rfl, rfl, rfl⟩ := jp_inv hs1
        exact kk.jump hW hS hL
      · rw [if_neg (by simpa using q)] at hs1
        obtain ⟨rfl, rfl, rfl, rfl⟩ := nx_inv hs1
        exact kk.next hpc hW hS hL
    · refine lv_if_ge hx hb hd hj (fun q => ?_) (fun q => ?_)
      · rw [if_pos (by simpa using q)] at hs1
        obtain ⟨rfl, rfl, rfl, rfl⟩ := jp_inv hs1
        exact kk.jump hW hS hL
      · rw [if_neg (by simpa using q)] at hs1
        obtain ⟨rfl, rfl, rfl, rfl⟩ := nx_inv hs1
        exact kk.next hpc hW hS hL
    · refine lv_if_gt hx hb hd hj (fun q => ?_) (fun q => ?_)
      · rw [if_pos (by simpa using q)] at hs1
        obtain ⟨rfl, rfl, rfl, rfl⟩ := jp_inv hs1
        exact kk.jump hW hS hL
      · rw [if_neg (by simpa using q)] at hs1
        obtain ⟨rfl, rfl, rfl, rfl⟩ := nx_inv hs1
        exact kk.next hpc hW hS hL
    · refine lv_if_le hx hb hd hj (fun q => ?_) (fun q => ?_)
      · rw [if_pos (by simpa using q)] at hs1
        obtain ⟨rfl, rfl, rfl, rfl⟩ := jp_inv hs1
        exact kk.jump hW hS hL
      · rw [if_neg (by simpa using q)] at hs1
        obtain ⟨rfl, rfl, rfl, rfl⟩ := nx_inv hs1
        exact kk.next hpc hW hS hL
  · cases ho

theorem sn_ifnull {z : Int} (A : AT g k d h0 h h1 p R s m args meth c H locs lsR ls) (hd : decode (mB k) pc = .ok (raw, len)) (hok : okB k ip (.ifnull z) pc raw len hint = true) (hs : stepI d (.ifnull z) ls st h = some (.inl (t, ls1, st1, h1))) (kk : KK g k ip p l e R s m args below meth c Q h0 t ls1 st1 h1) : GO g p l e R s m args below meth c Q h0 h H locs lsR st pc := by
  simp only [stepI] at hs
  obtain ⟨F, hW, hS, hL, hc0, hs0, hcR, hsR, hh0, hfr, hlo⟩ := A
  obtain ⟨hx, hb, hml, hret, hown, hts, hlocks, hname, hsz, hX, hbz, hnest⟩ := F
  simp only [okB, Bool.and_eq_true, beq_iff_eq] at hok
  obtain ⟨⟨hlen, hpc⟩, ho⟩ := hok
  split at ho
  · simp only [okJ, Bool.and_eq_true, beq_iff_eq, decide_eq_true_eq] at ho
    obtain ⟨hj, hlen2⟩ := ho
    subst hlen
    split at hs
    · obtain ⟨rfl, rfl, rfl, rfl⟩ := jp_inv hs
      exact lv_ifnullN hx hb hd hj (kk.jump hW hS hL)
    · obtain ⟨rfl, rfl, rfl, rfl⟩ := nx_inv hs
      exact lv_ifnull hx hb hd (kk.next hpc hW hS hL)
    · contradiction
  · cases ho

theorem okTab_get {a b : List Int} (h : okTab k pc a b = true) {i : Nat} {x : Int} (hx : a[i]? = some x) : ∃ y, b[i]? = some y ∧ (pc : Int) + y = (pcOf k x.toNat : Int) := by
  induction a generalizing b i with
  | nil => simp at hx
  | cons z a ih =>
    cases b with
    | nil => simp [okTab] at h
    | cons y b =>
      simp only [okTab, Bool.and_eq_true, decide_eq_true_eq] at h
      cases i with
      | zero => cases hx; exact ⟨y, rfl, h.1⟩
      | succ i => exact ih h.2 hx
theorem okLkp_get {a b : List (Int × Int)} (h : okLkp k pc a b = true) {da db : Int} (hdd : (pc : Int) + db = (pcOf k da.toNat : Int)) (v : Int) : (pc : Int) + Op.lookupswitch.offset b db v = (pcOf k (Op.lookupswitch.offset a da v).toNat : Int) := by
  induction a generalizing b with
  | nil =>
    cases b with
    | nil => exact hdd
    | cons y b => simp [okLkp] at h
  | cons z a ih =>
    cases b with
    | nil => simp [okLkp] at h
    | cons y b =>
      simp only [okLkp, Bool.and_eq_true, decide_eq_true_eq] at h
      obtain ⟨⟨h1, h2⟩, h3⟩ := h
      obtain ⟨z1, z2⟩ := z
      obtain ⟨y1, y2⟩ := y
      have ih2 := ih h3
      simp only [Op.lookupswitch.offset] at ih2 ⊢
      simp only at h1 h2
      subst h1
      split
      · exact h2
      · exact ih2

theorem sn_tableswitch {dz lo hi : Int} {os : Array Int} (A : AT g k d h0 h h1 p R s m args meth c H locs lsR ls) (hd : decode (mB k) pc = .ok (raw, len)) (hok : okB k ip (.tableswitch dz lo hi os) pc raw len hint = true) (hs : stepI d (.tableswitch dz lo hi os) ls st h = some (.inl (t, ls1, st1, h1))) (kk : KK g k ip p l e R s m args below meth c Q h0 t ls1 st1 h1) : GO g p l e R s m args below meth c Q h0 h H locs lsR st pc := by
  simp only [stepI] at hs
  obtain ⟨x, r, rfl, hs1⟩ := withI_inv hs
  obtain ⟨F, hW, hS, hL, hc0, hs0, hcR, hsR, hh0, hfr, hlo⟩ := A
  obtain ⟨hx, hb, hml, hret, hown, hts, hlocks, hname, hsz, hX, hbz, hnest⟩ := F
  simp only [okB] at hok
  split at hok
  · simp only [Bool.and_eq_true, beq_iff_eq, decide_eq_true_eq] at hok
    obtain ⟨⟨⟨rfl, rfl⟩, hj⟩, ht⟩ := hok
    split at hs1
    · rename_i hcnd
      obtain ⟨rfl, rfl, rfl, rfl⟩ := jp_inv hs1
      exact lv_tableOut hx hb hd hcnd hj (kk.jump hW hS hL)
    · rename_i hcnd
      split at hs1
      · rename_i z hz
        obtain ⟨rfl, rfl, rfl, rfl⟩ := jp_inv hs1
        rw [← Array.getElem?_toList] at hz
        obtain ⟨y, hy, hj2⟩ := okTab_get ht hz
        rw [Array.getElem?_toList] at hy
        exact lv_tableIn hx hb hd (fun q => hcnd (Or.inl q)) (fun q => hcnd (Or.inr q)) hy hj2 (kk.jump hW hS hL)
      · contradiction
  · cases hok

theorem sn_lookupswitch {dz : Int} {ps : Array (Int × Int)} (A : AT g k d h0 h h1 p R s m args meth c H locs lsR ls) (hd : decode (mB k) pc = .ok (raw, len)) (hok : okB k ip (.lookupswitch dz ps) pc raw len hint = true) (hs : stepI d (.lookupswitch dz ps) ls st h = some (.inl (t, ls1, st1, h1))) (kk : KK g k ip p l e R s m args below meth c Q h0 t ls1 st1 h1) : GO g p l e R s m args below meth c Q h0 h H locs lsR st pc := by
  simp only [stepI] at hs
  obtain ⟨x, r, rfl, hs1⟩ := withI_inv hs
  obtain ⟨rfl, rfl, rfl, rfl⟩ := jp_inv hs1
  obtain ⟨F, hW, hS, hL, hc0, hs0, hcR, hsR, hh0, hfr, hlo⟩ := A
  obtain ⟨hx, hb, hml, hret, hown, hts, hlocks, hname, hsz, hX, hbz, hnest⟩ := F
  simp only [okB] at hok
  split at hok
  · simp only [Bool.and_eq_true, decide_eq_true_eq] at hok
    obtain ⟨⟨hj, ht⟩, hz⟩ := hok
    exact lv_lookup hx hb hd hz rfl (okLkp_get ht hj _) (kk.jump hW hS hL)
  · cases hok

theorem okFld_inv {own : String} {n ix : Nat} (h : okFld own n ix hint = true) : ∃ q, vwCl[n / 64]? = some q ∧ n % 64 < q.2.2 ∧ Cond.fieldLink own ix (q.2.1 (n % 64)).1 (q.2.1 (n % 64)).2.1 (q.2.1 (n % 64)).2.2.1 ∈ gTbl := by
  unfold okFld at h
  split at h
  · rename_i C T N hq
    simp only [Bool.and_eq_true, decide_eq_true_eq] at h
    exact ⟨_, hq, h.1, gTbl_in (memAt_in h.2) rfl⟩
  · cases h
theorem w_obj (hW : Wld g s H h) {a ci : Nat} {fs : List Value} (hc : hRd h a = some (.inl (ci, fs))) : ∃ a1, a = a1 + 1 ∧ a1 + 1 < h.1 ∧ (wsOf g h)[a1]? = some (gz g + a1, .inr (ci, fs.map (tr g))) ∧ ∃ q, vwCl[ci]? = some q ∧ fs.length = q.2.2 := by
  obtain ⟨a1, rfl, h1, h2⟩ := hW.2.2.obj hc
  exact ⟨a1, rfl, h1, by rw [ws_get h1, hc]; rfl, h2⟩
theorem Wld.upd (hW : Wld g s H h) {a : Nat} {c0 c1 : (Nat × List Value) ⊕ (FieldType × List Value)} (h0 : hRd h (a + 1) = some c0) (hc : cellOk c1) {H1 : Heap} {x : va_E} (hx : x = enc g (some c1)) (hP : va_P (gD g) vwCl ((wsOf g h).set a (gz g + a, x)) H1) : Wld g s H1 (hWr h (a + 1) (some c1)) := by
  subst hx
  rw [ws_set _ (hW.2.2.2.2 _ _ h0).1] at hP
  exact ⟨hW.1, hP, hW.2.2.wr h0 hc⟩

theorem sn_getfield {n : Nat} (A : AT g k d h0 h h1 p R s m args meth c H locs lsR ls) (hd : decode (mB k) pc = .ok (raw, len)) (hok : okB k ip (.getfield n) pc raw len hint = true) (hs : stepI d (.getfield n) ls st h = some (.inl (t, ls1, st1, h1))) (kk : KK g k ip p l e R s m args below meth c Q h0 t ls1 st1 h1) : GO g p l e R s m args below meth c Q h0 h H locs lsR st pc := by
  simp only [stepI] at hs
  obtain ⟨a, r, rfl, hs1⟩ := withR_inv hs
  obtain ⟨ci, fs, hc, hs2⟩ := withObj_inv hs1
  obtain ⟨hci, hs3⟩ := gd_inv hs2
  obtain ⟨v, hv, hs4⟩ := withV_inv hs3
  obtain ⟨rfl, rfl, rfl, rfl⟩ := nx_inv hs4
  obtain ⟨F, hW, hS, hL, hc0, hs0, hcR, hsR, hh0, hfr, hlo⟩ := A
  obtain ⟨hx, hb, hml, hret, hown, hts, hlocks, hname, hsz, hX, hbz, hnest⟩ := F
  simp only [okB, Bool.and_eq_true, beq_iff_eq] at hok
  obtain ⟨⟨hlen, hpc⟩, ho⟩ := hok
  subst hlen
  split at ho
  · obtain ⟨q, hq, hn, hlk⟩ := okFld_inv ho
    obtain ⟨a1, rfl, ha, he, -⟩ := w_obj hW hc
    subst hci
    have hv2 : (fs.map (tr g))[n % 64]? = some (tr g v) := by rw [List.getElem?_map, hv]; rfl
    exact va_get hx hb hts (cls_lays hq) hown hW.1 hW.2.1 a1 he hq (n % 64) hn (hts _ hlk) (fun x h => h) hv2 hd (kk.next hpc hW hS hL)
  · cases ho

theorem okPut_inv {n : Nat} {rf : Bool} (h : okPut k n rf = true) {q : vw_C} (hq : vwCl[n / 64]? = some q) : ((q.2.1 (n % 64)).2.2.2 = false ∨ ((q.2.1 (n % 64)).2.2.2 = true ∧ (mY k).name = "<init>" ∧ (q.2.1 (n % 64)).1 = (mY k).cls)) ∧ ∃ ty, parseFieldDescriptor (q.2.1 (n % 64)).2.2.1 = some ty ∧ (rf = false → ty = .int) ∧ (rf = true → ∀ a, narrow ty (.ref a) = .ref a ∧ fits ty (.ref a) = true) := by
  unfold okPut at h
  split at h
  · rename_i C T N hq2
    rw [hq] at hq2
    cases hq2
    simp only [Bool.and_eq_true, Bool.or_eq_true, Bool.not_eq_true', decide_eq_true_eq] at h
    obtain ⟨h1, h2⟩ := h
    refine ⟨?_, ?_⟩
    · rcases h1 with h1 | h1
      · exact Or.inl h1
      · cases hb : (T (n % 64)).2.2.2 with
        | false => exact Or.inl rfl
        | true => exact Or.inr ⟨rfl, h1⟩
    · split at h2
      · rename_i ht
        refine ⟨_, ht, fun _ => rfl, ?_⟩
        intro h
        cases h
      · rename_i ht
        refine ⟨_, ht, ?_, fun _ a => ⟨rfl, rfl⟩⟩
        intro h
        cases h
      · rename_i ht
        refine ⟨_, ht, ?_, fun _ a => ⟨rfl, rfl⟩⟩
        intro h
        cases h
      · cases h2
  · cases h

theorem sn_putfield {n : Nat} (A : AT g k d h0 h h1 p R s m args meth c H locs lsR ls) (hd : decode (mB k) pc = .ok (raw, len)) (hok : okB k ip (.putfield n) pc raw len hint = true) (hs : stepI d (.putfield n) ls st h = some (.inl (t, ls1, st1, h1))) (kk : KK g k ip p l e R s m args below meth c Q h0 t ls1 st1 h1) : GO g p l e R s m args below meth c Q h0 h H locs lsR st pc := by
  simp only [stepI] at hs
  obtain ⟨x, r1, rfl, hs1⟩ := withI_inv hs
  obtain ⟨a, r, rfl, hs2⟩ := withR_inv hs1
  obtain ⟨ci, fs, hc, hs3⟩ := withObj_inv hs2
  obtain ⟨hci, hs4⟩ := gd_inv hs3
  obtain ⟨rfl, rfl, rfl, rfl⟩ := nx_inv hs4
  obtain ⟨F, hW, hS, hL, hc0, hs0, hcR, hsR, hh0, hfr, hlo⟩ := A
  obtain ⟨hx, hb, hml, hret, hown, hts, hlocks, hname, hsz, hX, hbz, hnest⟩ := F
  simp only [okB, Bool.and_eq_true, beq_iff_eq] at hok
  obtain ⟨⟨hlen, hpc⟩, ho⟩ := hok
  subst hlen
  split at ho
  · simp only [Bool.and_eq_true] at ho
    obtain ⟨q, hq, hn, hlk⟩ := okFld_inv ho.1
    obtain ⟨a1, rfl, ha, he, q2, hq2, hfl⟩ := w_obj hW hc
    subst hci
    cases hq.symm.trans hq2
    obtain ⟨hfin, ty, hty, hi1, hi2⟩ := okPut_inv ho.2 hq
    have hnf : narrow ty (tr g (.int x)) = tr g (.int x) ∧ fits ty (tr g (.int x)) = true := by
      rw [hi1 rfl]; exact ⟨rfl, rfl⟩
    obtain ⟨⟨ty0, hty0, -⟩, hnm, -⟩ := cls_of hq
    have hlt : n % 64 < (fs.map (tr g)).length := by rw [List.length_map, hfl]; exact hn
    have hset : (.inr (n / 64, (fs.map (tr g)).set (n % 64) (tr g (.int x))) : va_E) = enc g (some (.inl (n / 64, fs.set (n % 64) (.int x)))) := by
      show _ = Sum.inr (n / 64, (fs.set (n % 64) _).map (tr g))
      rw [List.map_set]
    have hco : cellOk (.inl (n / 64, fs.set (n % 64) (.int x))) := ⟨q, hq, by rw [List.length_set]; exact hfl⟩
    rcases hfin with hfin | ⟨hfin, hni, hdc⟩
    · exact va_put hx hb hts (cls_lays hq) ty0 hty0 hnm hown hW.1 hW.2.1 ws_D hS a1 he hq (n % 64) hn (hts _ hlk) (fun x h => h) hfin hty hnf.1 hnf.2 hlt hd (fun H1 locs1 hP1 _ hS1 => kk.next hpc (hW.upd hc hco hset hP1) hS1 hL)
    · exact va_putF hx hb hts (cls_lays hq) ty0 hty0 hnm hown hW.1 hW.2.1 ws_D hS a1 he hq (n % 64) hn (hts _ hlk) (fun x h => h) hfin (hname hni) hdc hty hnf.1 hnf.2 hlt hd (fun H1 locs1 hP1 _ hS1 => kk.next hpc (hW.upd hc hco hset hP1) hS1 hL)
  · cases ho

theorem sn_putstatic {n : Nat} (A : AT g k d h0 h h1 p R s m args meth c H locs lsR ls) (hd : decode (mB k) pc = .ok (raw, len)) (hok : okB k ip (.putstatic n) pc raw len hint = true) (hs : stepI d (.putstatic n) ls st h = some (.inl (t, ls1, st1, h1))) (kk : KK g k ip p l e R s m args below meth c Q h0 t ls1 st1 h1) : GO g p l e R s m args below meth c Q h0 h H locs lsR st pc := by
  simp only [stepI] at hs
  obtain ⟨x, r1, rfl, hs1⟩ := withR_inv hs
  obtain ⟨a, r, rfl, hs2⟩ := withR_inv hs1
  obtain ⟨ci, fs, hc, hs3⟩ := withObj_inv hs2
  obtain ⟨hci, hs4⟩ := gd_inv hs3
  obtain ⟨rfl, rfl, rfl, rfl⟩ := nx_inv hs4
  obtain ⟨F, hW, hS, hL, hc0, hs0, hcR, hsR, hh0, hfr, hlo⟩ := A
  obtain ⟨hx, hb, hml, hret, hown, hts, hlocks, hname, hsz, hX, hbz, hnest⟩ := F
  simp only [okB, Bool.and_eq_true, beq_iff_eq] at hok
  obtain ⟨⟨hlen, hpc⟩, ho⟩ := hok
  subst hlen
  split at ho
  · simp only [Bool.and_eq_true] at ho
    obtain ⟨q, hq, hn, hlk⟩ := okFld_inv ho.1
    obtain ⟨a1, rfl, ha, he, q2, hq2, hfl⟩ := w_obj hW hc
    subst hci
    cases hq.symm.trans hq2
    obtain ⟨hfin, ty, hty, hi1, hi2⟩ := okPut_inv ho.2 hq
    have hnf : narrow ty (tr g (.ref x)) = tr g (.ref x) ∧ fits ty (tr g (.ref x)) = true := by
      exact hi2 rfl _
    obtain ⟨⟨ty0, hty0, -⟩, hnm, -⟩ := cls_of hq
    have hlt : n % 64 < (fs.map (tr g)).length := by rw [List.length_map, hfl]; exact hn
    have hset : (.inr (n / 64, (fs.map (tr g)).set (n % 64) (tr g (.ref x))) : va_E) = enc g (some (.inl (n / 64, fs.set (n % 64) (.ref x)))) := by
      show _ = Sum.inr (n / 64, (fs.set (n % 64) _).map (tr g))
      rw [List.map_set]
    have hco : cellOk (.inl (n / 64, fs.set (n % 64) (.ref x))) := ⟨q, hq, by rw [List.length_set]; exact hfl⟩
    rcases hfin with hfin | ⟨hfin, hni, hdc⟩
    · exact va_put hx hb hts (cls_lays hq) ty0 hty0 hnm hown hW.1 hW.2.1 ws_D hS a1 he hq (n % 64) hn (hts _ hlk) (fun x h => h) hfin hty hnf.1 hnf.2 hlt hd (fun H1 locs1 hP1 _ hS1 => kk.next hpc (hW.upd hc hco hset hP1) hS1 hL)
    · exact va_putF hx hb hts (cls_lays hq) ty0 hty0 hnm hown hW.1 hW.2.1 ws_D hS a1 he hq (n % 64) hn (hts _ hlk) (fun x h => h) hfin (hname hni) hdc hty hnf.1 hnf.2 hlt hd (fun H1 locs1 hP1 _ hS1 => kk.next hpc (hW.upd hc hco hset hP1) hS1 hL)
  · cases ho

end

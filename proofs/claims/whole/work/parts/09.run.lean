-- THE LITTLE MACHINE'S RUN OF A FRAME IS THE MACHINE'S
theorem okRows_get {k : Nat} : ∀ (l : List LRow) (a j : Nat) (r : LRow), okRows k l a = true → l[j]? = some r → (okNop k (a + j) r || okRow k (a + j) r) = true := by
  intro l
  induction l with
  | nil => intro a j r _ h; simp at h
  | cons x l ih =>
    intro a j r h hj
    simp only [okRows, Bool.and_eq_true] at h
    cases j with
    | zero => cases hj; exact h.1
    | succ j =>
      have := ih (a + 1) j r h.2 hj
      rw [show a + (j + 1) = a + 1 + j by omega]
      exact this
theorem row_ok {k ip : Nat} {i : Instr} (hR : okRowsAll k) (hi : (lcode k)[ip]? = some i) : (i = .nop ∧ pcOf k (ip + 1) = pcOf k ip) ∨ ∃ raw len hint, decode (mB k) (pcOf k ip) = .ok (raw, len) ∧ okB k ip i (pcOf k ip) raw len hint = true := by
  unfold lcode at hi
  rw [List.getElem?_map] at hi
  cases hr : (mRows k)[ip]? with
  | none => rw [hr] at hi; cases hi
  | some r =>
    rw [hr] at hi
    have hi : r.1 = i := Option.some.inj hi
    subst hi
    have hlt : ip < (mRows k).length := (List.getElem?_eq_some_iff.mp hr).1
    have hpc : pcOf k ip = r.2.1 := by unfold pcOf; rw [hr]
    have hc := hR (ip / 40) (by unfold nCh; omega)
    unfold okChunk at hc
    have hj : (((mRows k).drop (40 * (ip / 40))).take 40)[ip % 40]? = some r := by
      rw [List.getElem?_take, if_pos (by omega), List.getElem?_drop, show 40 * (ip / 40) + ip % 40 = ip by omega]
      exact hr
    have h1 := okRows_get _ _ _ _ hc hj
    rw [show 40 * (ip / 40) + ip % 40 = ip by omega] at h1
    rw [Bool.or_eq_true] at h1
    rcases h1 with h1 | h1
    · unfold okNop at h1
      simp only [Bool.and_eq_true, decide_eq_true_eq, beq_iff_eq] at h1
      exact Or.inl ⟨h1.1, by rw [hpc]; exact h1.2⟩
    · unfold okRow at h1
      simp only [Bool.and_eq_true] at h1
      obtain ⟨h1, h2⟩ := h1
      refine Or.inr ⟨r.2.2.1, r.2.2.2.1, r.2.2.2.2, ?_, by rw [hpc]; exact h2⟩
      rw [hpc]
      split at h1
      · rename_i q hq
        rw [hq, of_decide_eq_true h1]
      · cases h1
set_option maxHeartbeats 4000000 in
theorem stepI_call {d : Nat} {i : Instr} {ls : LLoc} {st as r : List Value} {h : LHeap} {k1 : Nat} (hs : stepI d i ls st h = some (.inr (.inr (k1, as, r)))) : i = .invokestatic k1 := by
  cases i
  case invokestatic n =>
    simp only [stepI] at hs
    obtain ⟨_, hs2⟩ := gd_inv hs
    cases hs2
    rfl
  case newarray ty =>
    cases ty
    case int =>
      simp only [stepI] at hs
      obtain ⟨_, _, _, h1⟩ := withI_inv hs
      obtain ⟨_, h2⟩ := gd_inv h1
      cases h2
    case boolean =>
      simp only [stepI] at hs
      obtain ⟨_, _, _, h1⟩ := withI_inv hs
      obtain ⟨_, h2⟩ := gd_inv h1
      cases h2
    all_goals (simp only [stepI] at hs; contradiction)
  all_goals
    simp only [stepI, withI, withL, withR, withObj, withArr, withV, gd, nx, jp] at hs
    first
      | contradiction
      | (cases hs; done)
      | (repeat' split at hs) <;> (cases hs; done)
theorem callOk_181 {as : List Value} {h : LHeap} : ¬ callOk 181 as h = true := by
  unfold callOk
  simp
theorem callOk_182 {as : List Value} {h : LHeap} : ¬ callOk 182 as h = true := by
  unfold callOk
  simp
theorem pcOf_0 : ∀ k, k < 185 → pcOf k 0 = 0 := by decide +kernel
theorem runF_mono : ∀ (n : Nat) {d k pc : Nat} {ls : LLoc} {st : List Value} {h h1 : LHeap} {v : Option Value}, runF n d k pc ls st h = some (v, h1) → h.1 ≤ h1.1 ∧ h.2.1 ≤ h1.2.1 := by
  intro n
  induction n with
  | zero => intro d k pc ls st h h1 v hr; simp [runF] at hr
  | succ n ih =>
    intro d k pc ls st h h1 v hr
    rw [runF] at hr
    split at hr
    · cases hr
    · split at hr
      · cases hr
      · rename_i t ls1 st1 h2 hs
        have a := stepI_mono hs
        have b := ih hr
        omega
      · cases hr
        exact ⟨Nat.le_refl _, Nat.le_refl _⟩
      · split at hr
        · cases hr
        · split at hr
          · cases hr
          · split at hr
            · cases hr
            · rename_i v2 h2 hc
              have a := ih hc
              have b := ih hr
              omega
theorem expV_len {g : LG} (as : List Value) : (lg_sl (as.map (tr g))).length = (as.flatMap expV).length := by
  induction as with
  | nil => rfl
  | cons v as ih =>
    unfold lg_sl at ih ⊢
    rw [List.map_cons, List.flatMap_cons, List.flatMap_cons, List.length_append, List.length_append, ih]
    congr 1
    unfold expV
    rw [tr_cat]
    split <;> rfl
theorem expV_get {g : LG} {v : Value} : ∀ (as : List Value) (j : Nat), (as.flatMap expV)[j]? = some (some v) → (lg_sl (as.map (tr g)))[j]? = some (.val (tr g v)) := by
  intro as
  induction as with
  | nil => intro j h; simp at h
  | cons w as ih =>
    intro j h
    unfold lg_sl at ih ⊢
    rw [List.map_cons, List.flatMap_cons]
    rw [List.flatMap_cons] at h
    rw [tr_cat]
    unfold expV at h
    by_cases hc : w.category = 2
    · rw [if_pos hc] at h ⊢
      match j, h with
      | 0, h => cases h; rfl
      | 1, h => cases h
      | j + 2, h => exact ih j h
    · rw [if_neg hc] at h ⊢
      match j, h with
      | 0, h => cases h; rfl
      | j + 1, h => exact ih j h
theorem entry_loc {g : LG} {k : Nat} {as : List Value} (h : (as.flatMap expV).length ≤ mL k) : LocOK g ((lg_sl (as.map (tr g)) ++ List.replicate (mL k - (lg_sl (as.map (tr g))).length) Slot.unset).toArray) (mL k) (entL k as) := by
  have hl := lv_entry (as.map (tr g)) (n := mL k) (by rw [expV_len]; exact h)
  refine ⟨hl.1, ?_, hl.2.1, fun j v hv => ?_⟩
  · unfold entL
    rw [List.length_append, List.length_replicate]
    omega
  · unfold entL lGet at hv
    split at hv
    · rename_i w hw
      cases hv
      by_cases hj : j < (as.flatMap expV).length
      · rw [List.getElem?_append_left hj] at hw
        have := expV_get (g := g) as j hw
        rw [List.getElem?_toArray, List.getElem?_append_left (by rw [expV_len]; exact hj)]
        exact this
      · rw [List.getElem?_append_right (by omega), List.getElem?_replicate] at hw
        split at hw <;> cases hw
    · cases hv
/-- what is owed where the frame returns -/
def RetOK (g : LG) (k : Nat) (h0 h1 : LHeap) (v : Option Value) (p : Program) (l : Launch) (e : Env) (R : Room) (s : State) (m : MethodId) (args : Array Value) (below : List Frame) (meth : Method) (c : Code) (Q : State → Prop) : Prop :=
  ∀ (ip d len hint : Nat) (raw i : Instr) (ls : LLoc) (st : List Value) (H : Heap) (locs : List Loc) (lsR : Array Slot), decode (mB k) (pcOf k ip) = .ok (raw, len) → okB k ip i (pcOf k ip) raw len hint = true → stepI d i ls st h1 = some (.inr (.inl v)) → Wld g s H h1 → va_S (gA g) s.heap H locs → W p l e R s m args below meth c H locs (h1.1 - h0.1) (h1.2.1 - h0.2.1) Q (F0 m (pcOf k ip) lsR (st.map (tr g)))
def FrameGoal (g : LG) (l : Launch) (n : Nat) : Prop := ∀ (d k pc : Nat) (ls : LLoc) (st : List Value) (h : LHeap) (v : Option Value) (h1 : LHeap), k < 185 → runF n d k pc ls st h = some (v, h1) →
  ∀ (p : Program) (e : Env) (R : Room) (s : State) (m : MethodId) (args : Array Value) (below : List Frame) (meth : Method) (c : Code) (h0 : LHeap) (Q : State → Prop) (H : Heap) (locs : List Loc) (lsR : Array Slot),
    Fr g k h0 p s m args meth c → Wld g s H h → va_S (gA g) s.heap H locs → LocOK g lsR (mL k) ls → h0.1 ≤ h.1 → h0.2.1 ≤ h.2.1 → 1 ≤ h0.1 → h1.1 - h0.1 ≤ R.cells → h1.2.1 - h0.2.1 ≤ R.slots → d ≤ R.frames → 30 * d ≤ R.locals →
    RetOK g k h0 h1 v p l e R s m args below meth c Q → W p l e R s m args below meth c H locs (h.1 - h0.1) (h.2.1 - h0.2.1) Q (F0 m (pcOf k pc) lsR (st.map (tr g)))
theorem met_of {g : LG} {l : Launch} {n d k : Nat} {as : List Value} {h h1 : LHeap} {v : Option Value} (IH : FrameGoal g l n) (hr : runF n d k 0 (entL k as) [] h = some (v, h1)) (hk : k < 185) (hH : okHead k = true) (hexp : (as.flatMap expV).length ≤ mL k) (h1le : 1 ≤ h.1) : Met l (mY k) (wsK k) (rmK d h h1) (PcK g as h) (QcK g v h1) (h1.1 - h.1) (h1.2.1 - h.2.1) (gA g) := by
  obtain ⟨p1, p2, p3, p4, p5, p6⟩ := okHead_inv hH
  refine Met.ofW (cc := mB k) (maxL := mL k) (ret := mRet k) p1 rfl ?_
  intro p e s m args below meth c s₁ B hml hv
  obtain ⟨rfl, hW, hz, hX, hbz, hnest, hao⟩ := hv
  have hts0 := atoms_spec (ws := wsK k) B.pre
  have hts : ∀ w ∈ gTbl, w.before (as.map (tr g)).toArray s = true := fun w hw => hts0 w (List.mem_cons_of_mem _ hw)
  have F : Fr g k h p s m (as.map (tr g)).toArray meth c := ⟨B.exec, B.bytes, hml, B.returns, findClass_of_methodNamed B.named, hts, B.notSynchronized, fun hq => (name_of_methodNamed B.named B.method).1.trans hq, hz, hX, hbz, hnest, hao⟩
  rw [lg_entry_eq]
  have hS : va_S (gA g) s.heap s.heap [] := va_S.rf
  have hm := runF_mono n hr
  have hR : RetOK g k h h1 v p l e (rmK d h h1) s m (as.map (tr g)).toArray below meth c (MQ below (QcK g v h1) (as.map (tr g)).toArray s (h1.1 - h.1) (h1.2.1 - h.2.1) (gA g)) := fun ip d len hint raw i ls st H locs lsR hd hok hs hW1 hS1 => step_ret F hW1 hS1 hd hok hs
  have := IH d k 0 (entL k as) [] h v h1 hk hr p e (rmK d h h1) s m (as.map (tr g)).toArray below meth c h _ s.heap [] _ F hW hS (entry_loc hexp) (Nat.le_refl _) (Nat.le_refl _) h1le (Nat.le_refl _) (Nat.le_refl _) (Nat.le_refl _) (Nat.le_refl _) hR
  rw [pcOf_0 k hk, Nat.sub_self, Nat.sub_self] at this
  exact this
theorem frame_ok {g : LG} {l : Launch} (hRows : ∀ k, k < 185 → okRowsAll k) (hHeads : ∀ k, k < 184 → okHeadAll k) : ∀ n, FrameGoal g l n := by
  intro n
  induction n with
  | zero => intro d k pc ls st h v h1 hk hr; simp [runF] at hr
  | succ n ih =>
    intro d k pc ls st h v h1 hk hr p e R s m args below meth c h0 Q H locs lsR F hW hS hL hc0 hs0 hh0 hcR hsR hfr hlo hRet
    rw [runF] at hr
    split at hr
    · cases hr
    · rename_i i hi
      rcases row_ok (hRows k hk) hi with ⟨rfl, hnop⟩ | ⟨raw, len, hint, hd, hok⟩
      · split at hr
        · cases hr
        · rename_i t ls1 st1 h2 hs
          simp only [stepI] at hs
          obtain ⟨rfl, rfl, rfl, rfl⟩ := nx_inv hs
          have := ih d k (pc + 1) _ _ _ v h1 hk hr p e R s m args below meth c h0 Q H locs lsR F hW hS hL hc0 hs0 hh0 hcR hsR hfr hlo hRet
          rw [hnop] at this
          exact this
        · rename_i hs
          simp only [stepI, nx] at hs
          cases hs
        · rename_i hs
          simp only [stepI, nx] at hs
          cases hs
      · split at hr
        · cases hr
        · rename_i t ls1 st1 h2 hs
          have hm := stepI_mono hs
          have hm2 := runF_mono n hr
          refine step_next (h1 := h2) ⟨F, hW, hS, hL, hc0, hs0, by omega, by omega, hh0, hfr, hlo⟩ hd hok hs (fun H1 locs1 lsR1 hW1 hS1 hL1 => ?_)
          exact ih d k _ ls1 st1 h2 v h1 hk hr p e R s m args below meth c h0 Q H1 locs1 lsR1 F hW1 hS1 hL1 (by omega) (by omega) hh0 hcR hsR hfr hlo hRet
        · rename_i v2 hs
          cases hr
          exact hRet pc d len hint raw i ls st H locs lsR hd hok hs hW hS
        · rename_i k1 as r hs
          split at hr
          · cases hr
          · rename_i d1
            split at hr
            · cases hr
            · rename_i hcall
              split at hr
              · cases hr
              · rename_i v2 h2 hc
                have hm1 := runF_mono n hc
                have hm2 := runF_mono n hr
                have hk1 : k1 < 184 := by
                  unfold callOk at hcall
                  simp only [Bool.and_eq_true, decide_eq_true_eq] at hcall
                  exact hcall.1.1.1.1
                have hexp : (as.flatMap expV).length ≤ mL k1 := by
                  unfold callOk at hcall
                  simp only [Bool.and_eq_true, decide_eq_true_eq] at hcall
                  exact hcall.1.1.2
                have hinst : i = .invokestatic k1 := by
                  have := stepI_call hs
                  exact this
                subst hinst
                have hH : okHead k1 = true := by
                  rcases hHeads k1 hk1 with h9 | h9 | h9
                  · exact absurd hcall (by subst h9; exact callOk_181)
                  · exact absurd hcall (by subst h9; exact callOk_182)
                  · exact h9
                have hM := met_of ih hc (by omega) hH hexp (hW.2.2.1)
                refine step_call (h1 := h2) ⟨F, hW, hS, hL, hc0, hs0, by omega, by omega, hh0, hfr, hlo⟩ hd hok hs hcall hH hm1.1 hm1.2 hM (fun H1 locs1 lsR1 hW1 hS1 hL1 => ?_)
                exact ih (d1 + 1) k (pc + 1) ls _ h2 v h1 hk hr p e R s m args below meth c h0 Q H1 locs1 lsR1 F hW1 hS1 hL1 (by omega) (by omega) hh0 hcR hsR hfr hlo hRet

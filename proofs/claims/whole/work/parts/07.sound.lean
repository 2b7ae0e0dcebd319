-- THE LITTLE MACHINE'S RUN IS THE MACHINE'S
set_option maxHeartbeats 4000000 in
theorem stepI_mono {d : Nat} {i : Instr} {ls ls1 : LLoc} {st st1 : List Value} {h h1 : LHeap} {t : Option Nat} (hs : stepI d i ls st h = some (.inl (t, ls1, st1, h1))) : h.1 ≤ h1.1 ∧ h.2.1 ≤ h1.2.1 := by
  cases i
  case newarray ty =>
    cases ty
    case int =>
      simp only [stepI] at hs
      obtain ⟨_, _, _, h1⟩ := withI_inv hs
      obtain ⟨_, h2⟩ := gd_inv h1
      obtain ⟨_, _, _, rfl⟩ := nx_inv h2
      exact ⟨by show h.1 ≤ h.1 + 1; omega, by show h.2.1 ≤ h.2.1 + _; omega⟩
    case boolean =>
      simp only [stepI] at hs
      obtain ⟨_, _, _, h1⟩ := withI_inv hs
      obtain ⟨_, h2⟩ := gd_inv h1
      obtain ⟨_, _, _, rfl⟩ := nx_inv h2
      exact ⟨by show h.1 ≤ h.1 + 1; omega, by show h.2.1 ≤ h.2.1 + _; omega⟩
    all_goals (simp only [stepI] at hs; contradiction)
  all_goals
    simp only [stepI, withI, withL, withR, withObj, withArr, withV, gd, nx, jp] at hs
    first
      | contradiction
      | (repeat' split at hs) <;> first
          | contradiction
          | (cases hs; done)
          | (cases hs; exact ⟨Nat.le_refl _, Nat.le_refl _⟩)
          | (cases hs; exact ⟨by show h.1 ≤ h.1 + 1; omega, by show h.2.1 ≤ h.2.1 + _; omega⟩)
      | (cases hs; exact ⟨Nat.le_refl _, Nat.le_refl _⟩)
      | (cases hs; exact ⟨by show h.1 ≤ h.1 + 1; omega, by show h.2.1 ≤ h.2.1 + _; omega⟩)
section
variable {p : Program} {l : Launch} {e : Env} {R : Room} {s : State} {m : MethodId} {args : Array Value} {below : List Frame} {meth : Method} {c : Code} {Q : State → Prop} {g : LG} {k ip d pc len hint : Nat} {raw i : Instr} {h0 h h1 : LHeap} {H : Heap} {locs : List Loc} {lsR : Array Slot} {ls ls1 : LLoc} {st st1 : List Value} {t : Option Nat}
theorem step_next (A : AT g k d h0 h h1 p R s m args meth c H locs lsR ls) (hd : decode (mB k) pc = .ok (raw, len)) (hok : okB k ip i pc raw len hint = true) (hs : stepI d i ls st h = some (.inl (t, ls1, st1, h1))) (kk : KK g k ip p l e R s m args below meth c Q h0 t ls1 st1 h1) : GO g p l e R s m args below meth c Q h0 h H locs lsR st pc := by
  cases i
  case iconst z => exact sn_iconst A hd hok hs kk
  case jsr_w z => exact sn_jsr_w A hd hok hs kk
  case aconst_null => exact sn_aconst_null A hd hok hs kk
  case iload i => exact sn_iload A hd hok hs kk
  case lload i => exact sn_lload A hd hok hs kk
  case aload i => exact sn_aload A hd hok hs kk
  case istore i => exact sn_istore A hd hok hs kk
  case lstore i => exact sn_lstore A hd hok hs kk
  case astore i => exact sn_astore A hd hok hs kk
  case iinc i z => exact sn_iinc A hd hok hs kk
  case iadd => exact sn_iadd A hd hok hs kk
  case isub => exact sn_isub A hd hok hs kk
  case imul => exact sn_imul A hd hok hs kk
  case iand => exact sn_iand A hd hok hs kk
  case ior => exact sn_ior A hd hok hs kk
  case ixor => exact sn_ixor A hd hok hs kk
  case ishl => exact sn_ishl A hd hok hs kk
  case ishr => exact sn_ishr A hd hok hs kk
  case iushr => exact sn_iushr A hd hok hs kk
  case idiv => exact sn_idiv A hd hok hs kk
  case irem => exact sn_irem A hd hok hs kk
  case ladd => exact sn_ladd A hd hok hs kk
  case lmul => exact sn_lmul A hd hok hs kk
  case land => exact sn_land A hd hok hs kk
  case ldiv => exact sn_ldiv A hd hok hs kk
  case lrem => exact sn_lrem A hd hok hs kk
  case lcmp => exact sn_lcmp A hd hok hs kk
  case i2l => exact sn_i2l A hd hok hs kk
  case l2i => exact sn_l2i A hd hok hs kk
  case dup => exact sn_dup A hd hok hs kk
  case dup2 => exact sn_dup2 A hd hok hs kk
  case pop => exact sn_pop A hd hok hs kk
  case goto t => exact sn_goto A hd hok hs kk
  case ifCond c t => exact sn_ifCond A hd hok hs kk
  case if_icmp c t => exact sn_if_icmp A hd hok hs kk
  case ifnull t => exact sn_ifnull A hd hok hs kk
  case tableswitch a b c d => exact sn_tableswitch A hd hok hs kk
  case lookupswitch a b => exact sn_lookupswitch A hd hok hs kk
  case getfield n => exact sn_getfield A hd hok hs kk
  case putfield n => exact sn_putfield A hd hok hs kk
  case putstatic n => exact sn_putstatic A hd hok hs kk
  case new n => exact sn_new A hd hok hs kk
  case anewarray n => exact sn_anewarray A hd hok hs kk
  case iaload => exact sn_iaload A hd hok hs kk
  case baload => exact sn_baload A hd hok hs kk
  case aaload => exact sn_aaload A hd hok hs kk
  case iastore => exact sn_iastore A hd hok hs kk
  case bastore => exact sn_bastore A hd hok hs kk
  case aastore => exact sn_aastore A hd hok hs kk
  case arraylength => exact sn_arraylength A hd hok hs kk
  case invokedynamic n => exact sn_invokedynamic A hd hok hs kk
  case invokeinterface n z => exact sn_invokeinterface A hd hok hs kk
  case newarray ty =>
    cases ty
    case int => exact sn_newarray_int A hd hok hs kk
    case boolean => exact sn_newarray_boolean A hd hok hs kk
    all_goals (simp only [stepI] at hs; contradiction)
  case nop =>
    simp only [stepI] at hs
    obtain ⟨rfl, rfl, rfl, rfl⟩ := nx_inv hs
    simp only [okB, beq_iff_eq] at hok
    exact kk.next hok A.2.1 A.2.2.1 A.2.2.2.1
  case invokestatic n =>
    simp only [stepI] at hs
    obtain ⟨_, hs2⟩ := gd_inv hs
    cases hs2
  case ireturn =>
    simp only [stepI] at hs
    split at hs <;> cases hs
  case areturn =>
    simp only [stepI] at hs
    split at hs
    · obtain ⟨_, hs2⟩ := gd_inv hs
      cases hs2
    · contradiction
  case return_ =>
    simp only [stepI] at hs
    split at hs <;> cases hs
  all_goals (simp only [stepI] at hs; contradiction)
/-- what a method answers -/
def QcK (g : LG) (v : Option Value) (h : LHeap) : Array Value → State → Outcome → State → Prop := match v with
  | none => va_Qv (S := Unit) (fun _ => True) (fun _ t => va_P (gD g) vwCl (wsOf g h) t.heap ∧ WfH g h) (gA g)
  | some (.int r) => va_Qi (S := Unit) (fun r1 _ => r1 = r) (fun _ t => va_P (gD g) vwCl (wsOf g h) t.heap ∧ WfH g h) (gA g)
  | some _ => fun _ _ _ _ => False
def PcK (g : LG) (as : List Value) (h : LHeap) : Array Value → State → Prop := va_Pc (as.map (tr g)) (fun U => Wld g U U.heap h ∧ U.heap.size = gz g + (h.1 - 1) ∧ va_X (gb g) (gL g) (gx g) U U.heap ∧ gb g < gz g ∧ (∀ w ∈ nests, va_Nw w U) ∧ va_AO "WakeOrder$State" U)
def rmK (d : Nat) (h h1 : LHeap) : Room := { frames := d, cells := h1.1 - h.1, slots := h1.2.1 - h.2.1, locals := 30 * d }
theorem step_ret {v : Option Value} (F : Fr g k h0 p s m args meth c) (hW : Wld g s H h) (hS : va_S (gA g) s.heap H locs) (hd : decode (mB k) pc = .ok (raw, len)) (hok : okB k ip i pc raw len hint = true) (hs : stepI d i ls st h = some (.inr (.inl v))) : W p l e R s m args below meth c H locs (h.1 - h0.1) (h.2.1 - h0.2.1) (MQ below (QcK g v h) args s (h.1 - h0.1) (h.2.1 - h0.2.1) (gA g)) (F0 m pc lsR (st.map (tr g))) := by
  obtain ⟨hx, hb, hml, hret, hown, hts, hlocks, hname, hsz, hX, hbz, hnest⟩ := F
  cases i
  case ireturn =>
    simp only [stepI] at hs
    split at hs
    · cases hs
      have hok : decide (raw = .ireturn) = true ∧ (len == 1) = true ∧ decide (mRet k = some .int) = true := by simpa [okB, and_assoc] using hok
      obtain ⟨ho1, ho2, ho3⟩ := hok
      have ho1 := of_decide_eq_true ho1
      have ho3 := of_decide_eq_true ho3
      simp only [beq_iff_eq] at ho2
      subst ho1
      subst ho2
      exact W.iret hx hb (hret.trans ho3) (fun t ht hWm => ⟨⟨_, (), rfl, rfl, by rw [ht]; exact hW.2.1, hW.2.2⟩, hS.F ht⟩) hS.2.2 hd hlocks
    · contradiction
  case areturn =>
    simp only [stepI] at hs
    split at hs
    · obtain ⟨hx01, hs2⟩ := gd_inv hs
      cases hs2
      have hok : decide (raw = .ireturn) = true ∧ (len == 1) = true ∧ decide (mRet k = some .boolean) = true := by simpa [okB, and_assoc] using hok
      obtain ⟨ho1, ho2, ho3⟩ := hok
      have ho1 := of_decide_eq_true ho1
      have ho3 := of_decide_eq_true ho3
      simp only [beq_iff_eq] at ho2
      subst ho1
      subst ho2
      exact W.zret hx hb (hret.trans ho3) (by rcases hx01 with rfl | rfl <;> rfl) (fun t ht hWm => ⟨⟨_, (), rfl, rfl, by rw [ht]; exact hW.2.1, hW.2.2⟩, hS.F ht⟩) hS.2.2 hd hlocks
    · contradiction
  case return_ =>
    simp only [stepI] at hs
    split at hs
    · cases hs
      have hok : decide (raw = .return_) = true ∧ (len == 1) = true ∧ decide (mRet k = none) = true := by simpa [okB, and_assoc] using hok
      obtain ⟨ho1, ho2, ho3⟩ := hok
      have ho1 := of_decide_eq_true ho1
      have ho3 := of_decide_eq_true ho3
      simp only [beq_iff_eq] at ho2
      subst ho1
      subst ho2
      exact W.vret hx hb (hret.trans ho3) (fun t ht hWm => ⟨⟨(), rfl, trivial, by rw [ht]; exact hW.2.1, hW.2.2⟩, hS.F ht⟩) hS.2.2 hd hlocks
    · contradiction
  case newarray ty =>
    cases ty
    case int =>
      simp only [stepI] at hs
      obtain ⟨_, _, _, h1⟩ := withI_inv hs
      obtain ⟨_, h2⟩ := gd_inv h1
      cases h2
    case boolean =>
      simp only [stepI] at hs
      obtain ⟨_, _, _, h1⟩ := withI_inv hs
      obtain ⟨_, h2⟩ := gd_inv h1
      cases h2
    all_goals (simp only [stepI] at hs; contradiction)
  all_goals
    simp only [stepI, withI, withL, withR, withObj, withArr, withV, gd, nx, jp] at hs
    first
      | contradiction
      | (cases hs; done)
      | (repeat' split at hs) <;> (cases hs; done)
end

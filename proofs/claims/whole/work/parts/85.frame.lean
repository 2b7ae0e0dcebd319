-- THE START: a run that reads no script
def upc (c : LCell) (h : LHeap) : LHeap := (h.1, h.2.1, fun x => if x = 0 then c else h.2.2 x)
def ok0 (h : LHeap) : Prop := 0 < h.1 ∧ h.2.2 0 = none
def upR (c : LCell) (r : LRes) : LRes := match r with
  | .inl (t, ls, st, h) => .inl (t, ls, st, upc c h)
  | .inr x => .inr x
def okR (r : LRes) : Prop := match r with
  | .inl (_, _, _, h) => ok0 h
  | .inr _ => True
def PU (c : LCell) (f g : Option LRes) : Prop := ∀ r, f = some r → g = some (upR c r) ∧ okR r
section
variable {c : LCell} {h : LHeap} {a sl : Nat} {v : LCell}
theorem hRd_up (e : ¬ a = 0) : hRd (upc c h) a = hRd h a := if_neg e
theorem hRd_up0 : hRd (upc c h) 0 = c := by
  show (if (0 : Nat) = 0 then c else h.2.2 0) = c
  exact if_pos rfl
theorem up_wr (e : ¬ a = 0) : hWr (upc c h) a v = upc c (hWr h a v) := by
  unfold hWr upc
  simp only [Prod.mk.injEq, true_and]
  funext x
  by_cases q : x = a
  · have : ¬ x = 0 := by omega
    simp [q, e]
  · simp [q]
theorem up_new (e : 0 < h.1) : hNew (upc c h) sl v = upc c (hNew h sl v) := by
  unfold hNew upc
  simp only [Prod.mk.injEq, true_and]
  funext x
  by_cases q : x = h.1
  · have : ¬ x = 0 := by omega
    have e2 : ¬ h.1 = 0 := by omega
    simp [q, e2]
  · simp [q]
theorem ok_wr (k : ok0 h) (e : ¬ a = 0) : ok0 (hWr h a v) := ⟨k.1, by show (if 0 = a then v else h.2.2 0) = none; rw [if_neg (fun q => e q.symm)]; exact k.2⟩
theorem ok_new (k : ok0 h) : ok0 (hNew h sl v) := ⟨Nat.succ_pos _, by show (if 0 = h.1 then v else h.2.2 0) = none; rw [if_neg (by have := k.1; omega)]; exact k.2⟩
theorem rd_0 (k : ok0 h) {x : (Nat × List Value) ⊕ (FieldType × List Value)} (e : hRd h a = some x) : ¬ a = 0 := fun q => by
  rw [q] at e
  have : hRd h 0 = none := k.2
  rw [this] at e
  cases e
theorem PU.wZ {g : Option LRes} : PU c none g := fun _ e => by cases e
theorem PU.wX {ls : LLoc} {st : List Value} (k : ok0 h) : PU c (nx ls st h) (nx ls st (upc c h)) := fun r e => by cases e; exact ⟨rfl, k⟩
theorem PU.wJ {t : Int} {ls : LLoc} {st : List Value} (k : ok0 h) : PU c (jp t ls st h) (jp t ls st (upc c h)) := fun r e => by cases e; exact ⟨rfl, k⟩
theorem PU.ret {x : Option Value ⊕ (Nat × List Value × List Value)} : PU c (some (.inr x)) (some (.inr x)) := fun r e => by cases e; exact ⟨rfl, trivial⟩
theorem PU.wI {st : List Value} {f g : Int32 → List Value → Option LRes} (k : ∀ x r, PU c (f x r) (g x r)) : PU c (withI st f) (withI st g) := by
  unfold withI
  split
  · exact k _ _
  · exact PU.wZ
theorem PU.wL {st : List Value} {f g : Int64 → List Value → Option LRes} (k : ∀ x r, PU c (f x r) (g x r)) : PU c (withL st f) (withL st g) := by
  unfold withL
  split
  · exact k _ _
  · exact PU.wZ
theorem PU.wR {st : List Value} {f g : Nat → List Value → Option LRes} (k : ∀ x r, PU c (f x r) (g x r)) : PU c (withR st f) (withR st g) := by
  unfold withR
  split
  · exact k _ _
  · exact PU.wZ
theorem PU.wV {o : Option Value} {f g : Value → Option LRes} (k : ∀ x, PU c (f x) (g x)) : PU c (withV o f) (withV o g) := by
  unfold withV
  split
  · exact k _
  · exact PU.wZ
theorem PU.wG {p : Prop} [Decidable p] {f g : Option LRes} (k : p → PU c f g) : PU c (gd p f) (gd p g) := by
  unfold gd
  split
  · rename_i q; exact k q
  · exact PU.wZ
theorem PU.obj {f g : Nat → List Value → Option LRes} (k0 : ok0 h) (k : ¬ a = 0 → ∀ x r, PU c (f x r) (g x r)) : PU c (withObj (hRd h a) f) (withObj (hRd (upc c h) a) g) := by
  cases e : hRd h a with
  | none => exact PU.wZ
  | some x =>
    have h0 := rd_0 k0 e
    rw [hRd_up h0, e]
    cases x with
    | inl y => exact k h0 _ _
    | inr y => exact PU.wZ
theorem PU.arr {f g : FieldType → List Value → Option LRes} (k0 : ok0 h) (k : ¬ a = 0 → ∀ x r, PU c (f x r) (g x r)) : PU c (withArr (hRd h a) f) (withArr (hRd (upc c h) a) g) := by
  cases e : hRd h a with
  | none => exact PU.wZ
  | some x =>
    have h0 := rd_0 k0 e
    rw [hRd_up h0, e]
    cases x with
    | inl y => exact PU.wZ
    | inr y => exact k h0 _ _
theorem PU.wW {ls : LLoc} {st : List Value} (k : ok0 h) (e : ¬ a = 0) : PU c (nx ls st (hWr h a v)) (nx ls st (hWr (upc c h) a v)) := by
  rw [up_wr e]
  exact PU.wX (ok_wr k e)
theorem PU.wN {ls : LLoc} {st : List Value} (k : ok0 h) : PU c (nx ls st (hNew h sl v)) (nx ls st (hNew (upc c h) sl v)) := by
  rw [up_new k.1]
  exact PU.wX (ok_new k)
end
theorem stepI_up {c : LCell} {d : Nat} {i : Instr} {ls : LLoc} {st : List Value} {h : LHeap} (k : ok0 h) : PU c (stepI d i ls st h) (stepI d i ls st (upc c h)) := by
  cases i
  case newarray ty =>
    cases ty
    case int => exact PU.wI (fun x r => PU.wG (fun _ => PU.wN k))
    case boolean => exact PU.wI (fun x r => PU.wG (fun _ => PU.wN k))
    all_goals exact PU.wZ
  case anewarray n => exact PU.wI (fun x r => PU.wG (fun _ => PU.wN k))
  case new ci => exact PU.wN k
  case getfield n => exact PU.wR (fun x r => PU.obj k (fun _ _ _ => PU.wG (fun _ => PU.wV (fun _ => PU.wX k))))
  case putfield n => exact PU.wI (fun x r => PU.wR (fun y r => PU.obj k (fun e _ _ => PU.wG (fun _ => PU.wW k e))))
  case putstatic n => exact PU.wR (fun x r => PU.wR (fun y r => PU.obj k (fun e _ _ => PU.wG (fun _ => PU.wW k e))))
  case iaload => exact PU.wI (fun x r => PU.wR (fun y r => PU.arr k (fun e _ _ => PU.wG (fun _ => PU.wV (fun _ => PU.wX k)))))
  case baload => exact PU.wI (fun x r => PU.wR (fun y r => PU.arr k (fun e _ _ => PU.wG (fun _ => PU.wV (fun _ => PU.wX k)))))
  case aaload => exact PU.wI (fun x r => PU.wR (fun y r => PU.arr k (fun e _ _ => PU.wG (fun _ => PU.wV (fun _ => PU.wX k)))))
  case iastore => exact PU.wI (fun x r => PU.wI (fun x r => PU.wR (fun y r => PU.arr k (fun e _ _ => PU.wG (fun _ => PU.wW k e)))))
  case bastore => exact PU.wI (fun x r => PU.wI (fun x r => PU.wR (fun y r => PU.arr k (fun e _ _ => PU.wG (fun _ => PU.wW k e)))))
  case aastore => exact PU.wR (fun x r => PU.wI (fun x r => PU.wR (fun y r => PU.arr k (fun e _ _ => PU.obj k (fun _ _ _ => PU.wG (fun _ => PU.wW k e))))))
  case arraylength => exact PU.wR (fun y r => PU.arr k (fun e _ _ => PU.wX k))
  case invokedynamic n => exact PU.wI (fun x r => PU.wI (fun x r => PU.wR (fun x r => PU.wI (fun x r => PU.wR (fun x r => PU.arr k (fun e _ _ => PU.arr k (fun e2 _ _ => PU.wG (fun _ => PU.wW k e2))))))))
  case invokestatic n => exact PU.wG (fun _ => PU.ret)
  case tableswitch df lo hi os =>
    refine PU.wI (fun x r => ?_)
    split
    · exact PU.wJ k
    · split
      · exact PU.wJ k
      · exact PU.wZ
  case ifCond cc t =>
    refine PU.wI (fun x r => ?_)
    split
    · exact PU.wJ k
    · exact PU.wX k
  case if_icmp cc t =>
    refine PU.wI (fun x r => PU.wI (fun x r => ?_))
    split
    · exact PU.wJ k
    · exact PU.wX k
  case ifnull t =>
    simp only [stepI]
    split
    · exact PU.wJ k
    · exact PU.wX k
    · exact PU.wZ
  case dup =>
    simp only [stepI]
    split
    · exact PU.wG (fun _ => PU.wX k)
    · exact PU.wZ
  case dup2 =>
    simp only [stepI]
    split
    · exact PU.wG (fun _ => PU.wX k)
    · exact PU.wZ
  case ireturn =>
    simp only [stepI]
    split
    · exact PU.ret
    · exact PU.wZ
  case areturn =>
    simp only [stepI]
    split
    · exact PU.wG (fun _ => PU.ret)
    · exact PU.wZ
  case return_ =>
    simp only [stepI]
    split
    · exact PU.ret
    · exact PU.wZ
  case iload n => exact PU.wV (fun x => PU.wI (fun _ _ => PU.wX k))
  case lload n => exact PU.wV (fun x => PU.wL (fun _ _ => PU.wX k))
  case aload n => exact PU.wV (fun x => PU.wR (fun _ _ => PU.wX k))
  case iinc n z => exact PU.wV (fun x => PU.wI (fun _ _ => PU.wG (fun _ => PU.wX k)))
  all_goals first
    | exact PU.wX k
    | exact PU.wJ k
    | exact PU.wI (fun _ _ => PU.wJ k)
    | exact PU.wI (fun _ _ => PU.wX k)
    | exact PU.wL (fun _ _ => PU.wX k)
    | exact PU.wI (fun _ _ => PU.wI (fun _ _ => PU.wX k))
    | exact PU.wL (fun _ _ => PU.wL (fun _ _ => PU.wX k))
    | exact PU.wI (fun _ _ => PU.wI (fun _ _ => PU.wG (fun _ => PU.wX k)))
    | exact PU.wL (fun _ _ => PU.wL (fun _ _ => PU.wG (fun _ => PU.wX k)))
    | exact PU.wI (fun _ _ => PU.wG (fun _ => PU.wX k))
    | exact PU.wL (fun _ _ => PU.wG (fun _ => PU.wX k))
    | exact PU.wR (fun _ _ => PU.wG (fun _ => PU.wX k))
    | exact PU.wZ
theorem callOk_up {c : LCell} {k1 : Nat} {as : List Value} {h : LHeap} (k : ok0 h) (e : callOk k1 as h = true) : callOk k1 as (upc c h) = true := by
  unfold callOk at e ⊢
  rw [Bool.and_eq_true] at e ⊢
  refine ⟨e.1, ?_⟩
  have e2 := e.2
  rw [Bool.or_eq_true] at e2 ⊢
  rcases e2 with q | q
  · exact Or.inl q
  · right
    unfold isRecv at q ⊢
    split at q
    · rename_i a r
      cases e3 : hRd h a with
      | none => rw [e3] at q; cases q
      | some x =>
        rw [hRd_up (rd_0 k e3)]
        exact q
    · cases q
theorem runF_up {c : LCell} : ∀ (n : Nat) {d k pc : Nat} {ls : LLoc} {st : List Value} {h : LHeap} {v : Option Value} {h1 : LHeap}, ok0 h → runF n d k pc ls st h = some (v, h1) → runF n d k pc ls st (upc c h) = some (v, upc c h1) ∧ ok0 h1 := by
  intro n
  induction n with
  | zero => intro d k pc ls st h v h1 hk hr; simp [runF] at hr
  | succ n ih =>
    intro d k pc ls st h v h1 hk hr
    rw [runF] at hr ⊢
    split at hr
    · cases hr
    · rename_i i hi
      have hu := stepI_up (c := c) (d := d) (i := i) (ls := ls) (st := st) hk
      split at hr
      · cases hr
      · rename_i hs
        obtain ⟨u1, u2⟩ := hu _ hs
        simp only [u1]
        exact ih u2 hr
      · rename_i hs
        obtain ⟨u1, u2⟩ := hu _ hs
        simp only [u1]
        cases hr
        exact ⟨rfl, hk⟩
      · rename_i k1 as r hs
        obtain ⟨u1, u2⟩ := hu _ hs
        simp only [u1]
        split at hr
        · cases hr
        · split at hr
          · cases hr
          · rename_i hc
            split at hr
            · cases hr
            · rename_i v2 h2 hc2
              obtain ⟨w1, w2⟩ := ih hk hc2
              show (match callOk k1 as (upc c h) with
                | false => none
                | true => _) = _ ∧ _
              rw [callOk_up hk hc]
              simp only [w1]
              exact ih w2 hr

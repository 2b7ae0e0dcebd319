-- RUNS OF THE LITTLE MACHINE, SAID BY WHAT THEY COME TO
def vI (z : Int) : Value := .int (Int32.ofInt z)
def vL (z : Int) : Value := .long (Int64.ofInt z)
def wr (z : Int) : Int := (Int32.ofInt z).toInt
def wl (z : Int) : Int := (Int64.ofInt z).toInt
theorem wr_id {z : Int} (h1 : -2147483648 ≤ z) (h2 : z ≤ 2147483647) : wr z = z := Int32.toInt_ofInt_of_le (by omega) (by omega)
theorem wl_id {z : Int} (h1 : -9223372036854775808 ≤ z) (h2 : z ≤ 9223372036854775807) : wl z = z := Int64.toInt_ofInt_of_le (by omega) (by omega)
theorem vI_wr (z : Int) : vI (wr z) = vI z := by unfold vI wr; rw [Int32.ofInt_toInt]
theorem vI_of (x : Int32) : Value.int x = vI x.toInt := by unfold vI; rw [Int32.ofInt_toInt]
theorem wr_toInt (x : Int32) : wr x.toInt = x.toInt := by unfold wr; rw [Int32.ofInt_toInt]
theorem wr_lo (z : Int) : -2147483648 ≤ wr z := by have := Int32.le_toInt (Int32.ofInt z); unfold wr; omega
theorem wr_hi (z : Int) : wr z ≤ 2147483647 := by have := Int32.toInt_lt (Int32.ofInt z); unfold wr; omega
def zand (x y : Int) : Int := (Int32.ofInt x &&& Int32.ofInt y).toInt
def zor (x y : Int) : Int := (Int32.ofInt x ||| Int32.ofInt y).toInt
def zxor (x y : Int) : Int := (Int32.ofInt x ^^^ Int32.ofInt y).toInt
def zshl (x y : Int) : Int := (Int32.ofInt x <<< (Int32.ofInt y &&& 31)).toInt
def zshr (x y : Int) : Int := (Int32.ofInt x >>> (Int32.ofInt y &&& 31)).toInt
def zushr (x y : Int) : Int := ((Int32.ofInt x).toUInt32 >>> ((Int32.ofInt y).toUInt32 &&& 31)).toInt32.toInt
def zdiv (x y : Int) : Int := (Int32.ofInt x / Int32.ofInt y).toInt
def zrem (x y : Int) : Int := (Int32.ofInt x - Int32.ofInt x / Int32.ofInt y * Int32.ofInt y).toInt
def zldiv (x y : Int) : Int := (Int64.ofInt x / Int64.ofInt y).toInt
def zlrem (x y : Int) : Int := (Int64.ofInt x - Int64.ofInt x / Int64.ofInt y * Int64.ofInt y).toInt
def zland (x y : Int) : Int := (Int64.ofInt x &&& Int64.ofInt y).toInt
def zlcmp (x y : Int) : Int := (lg_cmp (Int64.ofInt x) (Int64.ofInt y)).toInt
def WP (d k pc : Nat) (ls : LLoc) (st : List Value) (h : LHeap) (Q : Option Value → LHeap → Prop) : Prop := ∃ n v h1, runF n d k pc ls st h = some (v, h1) ∧ Q v h1
/-- where a loop comes back: the same, under another name -/
def WPC (d k pc : Nat) (ls : LLoc) (st : List Value) (h : LHeap) (Q : Option Value → LHeap → Prop) : Prop := WP d k pc ls st h Q
def CALL (d k : Nat) (as : List Value) (h : LHeap) (Q : Option Value → LHeap → Prop) : Prop := 0 < d ∧ callOk k as h = true ∧ WP (d - 1) k 0 (entL k as) [] h Q
theorem runF_more : ∀ (n : Nat) {d k pc : Nat} {ls : LLoc} {st : List Value} {h : LHeap} {r : Option Value × LHeap}, runF n d k pc ls st h = some r → ∀ m, n ≤ m → runF m d k pc ls st h = some r := by
  intro n
  induction n with
  | zero => intro d k pc ls st h r hr; simp [runF] at hr
  | succ n ih =>
    intro d k pc ls st h r hr m hm
    obtain ⟨m, rfl⟩ : ∃ q, m = q + 1 := ⟨m - 1, by omega⟩
    have hm : n ≤ m := by omega
    rw [runF] at hr ⊢
    split at hr
    · cases hr
    · split at hr
      · cases hr
      · exact ih hr m hm
      · exact hr
      · split at hr
        · cases hr
        · split at hr
          · cases hr
          · rename_i hcall
            split at hr
            · cases hr
            · rename_i v h1 hc
              rw [ih hc m hm]
              exact ih hr m hm
section
variable {d k pc pc1 : Nat} {ls ls1 : LLoc} {st st1 : List Value} {h h1 : LHeap} {Q : Option Value → LHeap → Prop}
theorem WP_step {i : Instr} {t : Option Nat} (hf : (lcode k)[pc]? = some i) (hs : stepI d i ls st h = some (.inl (t, ls1, st1, h1))) : WP d k pc ls st h Q ↔ WP d k (t.getD (pc + 1)) ls1 st1 h1 Q := by
  constructor
  · rintro ⟨n, v, h2, hr, hq⟩
    cases n with
    | zero => simp [runF] at hr
    | succ n =>
      rw [runF, hf] at hr
      simp only [hs] at hr
      exact ⟨n, v, h2, hr, hq⟩
  · rintro ⟨n, v, h2, hr, hq⟩
    refine ⟨n + 1, v, h2, ?_, hq⟩
    rw [runF, hf]
    simp only [hs]
    exact hr
theorem WP_none {i : Instr} (hf : (lcode k)[pc]? = some i) (hs : stepI d i ls st h = none) : ¬ WP d k pc ls st h Q := by
  rintro ⟨n, v, h2, hr, hq⟩
  cases n with
  | zero => simp [runF] at hr
  | succ n =>
    rw [runF, hf] at hr
    simp only [hs] at hr
    cases hr
theorem WP_ret {i : Instr} {v : Option Value} (hf : (lcode k)[pc]? = some i) (hs : stepI d i ls st h = some (.inr (.inl v))) : WP d k pc ls st h Q ↔ Q v h := by
  constructor
  · rintro ⟨n, v2, h2, hr, hq⟩
    cases n with
    | zero => simp [runF] at hr
    | succ n =>
      rw [runF, hf] at hr
      simp only [hs] at hr
      cases hr
      exact hq
  · intro hq
    refine ⟨1, v, h, ?_, hq⟩
    rw [runF, hf]
    simp only [hs]
theorem WP_call {i : Instr} {k1 : Nat} {as r : List Value} (hf : (lcode k)[pc]? = some i) (hs : stepI d i ls st h = some (.inr (.inr (k1, as, r)))) : WP d k pc ls st h Q ↔ CALL d k1 as h (fun v h1 => WP d k (pc + 1) ls (v.toList ++ r) h1 Q) := by
  constructor
  · rintro ⟨n, v2, h2, hr, hq⟩
    cases n with
    | zero => simp [runF] at hr
    | succ n =>
      rw [runF, hf] at hr
      simp only [hs] at hr
      split at hr
      · cases hr
      · rename_i d1
        split at hr
        · cases hr
        · rename_i hcall
          split at hr
          · cases hr
          · rename_i v h1 hc
            exact ⟨Nat.succ_pos _, hcall, n, v, h1, hc, n, v2, h2, hr, hq⟩
  · rintro ⟨hd, hcall, n, v, h1, hc, n2, v2, h2, hr, hq⟩
    cases d with
    | zero => omega
    | succ d1 =>
      refine ⟨max n n2 + 1, v2, h2, ?_, hq⟩
      rw [runF, hf]
      simp only [hs, hcall]
      have hc2 := runF_more n hc (max n n2) (by omega)
      rw [Nat.add_sub_cancel] at hc2
      rw [hc2]
      exact runF_more n2 hr (max n n2) (by omega)
theorem WP_mono {Q2 : Option Value → LHeap → Prop} (hw : WP d k pc ls st h Q) (hq : ∀ v h1, Q v h1 → Q2 v h1) : WP d k pc ls st h Q2 := by
  obtain ⟨n, v, h1, hr, hx⟩ := hw
  exact ⟨n, v, h1, hr, hq _ _ hx⟩
theorem CALL_mono {as : List Value} {Q2 : Option Value → LHeap → Prop} (hw : CALL d k as h Q) (hq : ∀ v h1, Q v h1 → Q2 v h1) : CALL d k as h Q2 := ⟨hw.1, hw.2.1, WP_mono hw.2.2 hq⟩
/-- no long ends here -/
def nl (w : Option Value) : Prop := lFree [w, none] 1 = true
theorem nl_none : nl none = True := eq_true rfl
theorem nl_I (x : Int) : nl (some (vI x)) = True := eq_true rfl
theorem nl_R (x : Nat) : nl (some (.ref x)) = True := eq_true rfl
theorem nl_N : nl (some .null) = True := eq_true rfl
def c1 (w : Value) : Prop := w.category = 1
theorem c1_I (x : Int) : c1 (vI x) = True := eq_true rfl
theorem c1_R (x : Nat) : c1 (.ref x) = True := eq_true rfl
def sh (st : List Value) : Prop := st.length ≤ 4
theorem sh_0 : sh [] = True := eq_true (by simp [sh])
theorem sh_1 (a : Value) : sh [a] = True := eq_true (by simp [sh])
theorem sh_2 (a b : Value) : sh [a, b] = True := eq_true (by simp [sh])
theorem sh_3 (a b c : Value) : sh [a, b, c] = True := eq_true (by simp [sh])
theorem sh_4 (a b c e : Value) : sh [a, b, c, e] = True := eq_true (by simp [sh])
def sd (d : Nat) : Prop := 0 < d
-- cells
def cO (ci : Nat) (rf : Nat → Nat) (z : Nat → Int) : LCell := some (.inl (ci, (clsDef ci).mapIdx fun j v => match v with
  | .int _ => vI (z j)
  | _ => .ref (rf j)))
def cA (n : Nat) (f : Int → Int) : LCell := some (.inr (.int, (List.range n).map fun (j : Nat) => vI (f (j : Int))))
def cB (n : Nat) (f : Int → Int) : LCell := some (.inr (.boolean, (List.range n).map fun (j : Nat) => vI (f (j : Int))))
def cS (n : Nat) (f : Int → Nat) : LCell := some (.inr (tyState, (List.range n).map fun (j : Nat) => .ref (f (j : Int))))
def uN (f : Nat → Int) (k : Nat) (x : Int) : Nat → Int := fun j => if j = k then x else f j
def uR (f : Nat → Nat) (k : Nat) (x : Nat) : Nat → Nat := fun j => if j = k then x else f j
def uA (f : Int → Int) (k x : Int) : Int → Int := fun j => if j = k then x else f j
def gF (c : LCell) (ci fi : Nat) (F : Value → Prop) : Prop := match c with
  | some (.inl (cj, l)) => ci = cj ∧ (match l[fi]? with
    | some v => F v
    | none => False)
  | _ => False
def pF (c : LCell) (ci fi : Nat) (v : Value) (F : LCell → Prop) : Prop := match c with
  | some (.inl (cj, l)) => ci = cj ∧ F (some (.inl (cj, l.set fi v)))
  | _ => False
def ldA (c : LCell) (i : Int) (F : Value → Prop) : Prop := match c with
  | some (.inr (.int, vs)) => 0 ≤ wr i ∧ (match vs[(wr i).toNat]? with
    | some v => F v
    | none => False)
  | _ => False
def ldB (c : LCell) (i : Int) (F : Value → Prop) : Prop := match c with
  | some (.inr (.boolean, vs)) => 0 ≤ wr i ∧ (match vs[(wr i).toNat]? with
    | some v => F v
    | none => False)
  | _ => False
def ldS (c : LCell) (i : Int) (F : Value → Prop) : Prop := match c with
  | some (.inr (ty, vs)) => ty = tyState ∧ 0 ≤ wr i ∧ (match vs[(wr i).toNat]? with
    | some v => F v
    | none => False)
  | _ => False
def stA (c : LCell) (a : Nat) (i : Int) (v : Value) (F : LCell → Prop) : Prop := match c with
  | some (.inr (.int, vs)) => ¬ a = 0 ∧ 0 ≤ wr i ∧ (wr i).toNat < vs.length ∧ F (some (.inr (.int, vs.set (wr i).toNat v)))
  | _ => False
def stB (c : LCell) (i x : Int) (F : LCell → Prop) : Prop := match c with
  | some (.inr (.boolean, vs)) => (Int32.ofInt x = 0 ∨ Int32.ofInt x = 1) ∧ 0 ≤ wr i ∧ (wr i).toNat < vs.length ∧ F (some (.inr (.boolean, vs.set (wr i).toNat (vI x))))
  | _ => False
def aL (c : LCell) (F : Value → Prop) : Prop := match c with
  | some (.inr (_, vs)) => F (vI vs.length)
  | _ => False
def aC (c0 c1 : LCell) (a0 a1 : Nat) (sp dp n : Int) (F : LCell → Prop) : Prop := match c0, c1 with
  | some (.inr (.int, v0)), some (.inr (.int, v1)) => (¬ a0 = 0 ∧ ¬ a1 = 0) ∧ (0 ≤ wr sp ∧ 0 ≤ wr dp ∧ 0 ≤ wr n ∧ (wr sp).toNat + (wr n).toNat ≤ v0.length ∧ (wr dp).toNat + (wr n).toNat ≤ v1.length) ∧ F (some (.inr (.int, cpyL v0 (wr sp).toNat v1 (wr dp).toNat (wr n).toNat)))
  | _, _ => False
theorem int_getE {n : Nat} {α : Type} {f : Nat → α} {i : Int} (h0 : 0 ≤ i) (h : i < n) : ((List.range n).map f)[i.toNat]? = some (f i.toNat) := by
  have : i.toNat < n := by omega
  simp [this]
theorem ldA_A {n : Nat} {f : Int → Int} {i : Int} {F : Value → Prop} : ldA (cA n f) i F = ((0 ≤ wr i ∧ wr i < n) ∧ F (vI (f (wr i)))) := by
  apply propext
  unfold ldA cA
  simp only
  by_cases h0 : 0 ≤ wr i
  · by_cases h : wr i < n
    · rw [int_getE h0 h]
      have e : ((wr i).toNat : Int) = wr i := by omega
      simp only [e, h0, h, true_and]
    · have : ((List.range n).map fun (j : Nat) => vI (f (j : Int)))[(wr i).toNat]? = none := by
        rw [List.getElem?_eq_none]
        rw [List.length_map, List.length_range]
        omega
      rw [this]
      simp [h]
  · simp [h0]
theorem ldB_B {n : Nat} {f : Int → Int} {i : Int} {F : Value → Prop} : ldB (cB n f) i F = ((0 ≤ wr i ∧ wr i < n) ∧ F (vI (f (wr i)))) := by
  apply propext
  unfold ldB cB
  simp only
  by_cases h0 : 0 ≤ wr i
  · by_cases h : wr i < n
    · rw [int_getE h0 h]
      have e : ((wr i).toNat : Int) = wr i := by omega
      simp only [e, h0, h, true_and]
    · have : ((List.range n).map fun (j : Nat) => vI (f (j : Int)))[(wr i).toNat]? = none := by
        rw [List.getElem?_eq_none]
        rw [List.length_map, List.length_range]
        omega
      rw [this]
      simp [h]
  · simp [h0]
theorem ldS_S {n : Nat} {f : Int → Nat} {i : Int} {F : Value → Prop} : ldS (cS n f) i F = ((0 ≤ wr i ∧ wr i < n) ∧ F (.ref (f (wr i)))) := by
  apply propext
  unfold ldS cS
  simp only
  by_cases h0 : 0 ≤ wr i
  · by_cases h : wr i < n
    · rw [int_getE h0 h]
      have e : ((wr i).toNat : Int) = wr i := by omega
      simp only [e, h0, h, true_and]
    · have : ((List.range n).map fun (j : Nat) => Value.ref (f (j : Int)))[(wr i).toNat]? = none := by
        rw [List.getElem?_eq_none]
        rw [List.length_map, List.length_range]
        omega
      rw [this]
      simp [h]
  · simp [h0]
theorem range_set {n : Nat} {f : Int → Int} {i x : Int} (h0 : 0 ≤ i) : ((List.range n).map fun (j : Nat) => vI (f (j : Int))).set i.toNat (vI x) = (List.range n).map fun (j : Nat) => vI (uA f i x (j : Int)) := by
  apply List.ext_getElem?
  intro j
  rw [List.getElem?_set]
  by_cases hj : i.toNat = j
  · subst hj
    have e : ((i.toNat : Nat) : Int) = i := by omega
    by_cases hl : i.toNat < n
    · simp [hl, uA, e]
    · simp [hl]
  · have e : ¬ (j : Int) = i := by omega
    by_cases hl : j < n
    · simp [hl, uA, e, hj]
    · simp [hl, hj]
theorem stA_A {n a : Nat} {f : Int → Int} {i x : Int} {F : LCell → Prop} : stA (cA n f) a i (vI x) F = ((¬ a = 0 ∧ 0 ≤ wr i ∧ wr i < n) ∧ F (cA n (uA f (wr i) x))) := by
  apply propext
  unfold stA cA
  simp only [List.length_map, List.length_range]
  by_cases h0 : 0 ≤ wr i
  · rw [range_set h0]
    have e : (wr i).toNat < n ↔ wr i < n := by omega
    simp only [e, and_assoc]
  · simp [h0]
theorem stB_B {n : Nat} {f : Int → Int} {i x : Int} {F : LCell → Prop} : stB (cB n f) i x F = (((Int32.ofInt x = 0 ∨ Int32.ofInt x = 1) ∧ 0 ≤ wr i ∧ wr i < n) ∧ F (cB n (uA f (wr i) x))) := by
  apply propext
  unfold stB cB
  simp only [List.length_map, List.length_range]
  by_cases h0 : 0 ≤ wr i
  · rw [range_set h0]
    have e : (wr i).toNat < n ↔ wr i < n := by omega
    simp only [e, and_assoc]
  · simp [h0]
theorem aL_A {n : Nat} {f : Int → Int} {F : Value → Prop} : aL (cA n f) F = F (vI n) := by unfold aL cA; simp only [List.length_map, List.length_range]
theorem aL_B {n : Nat} {f : Int → Int} {F : Value → Prop} : aL (cB n f) F = F (vI n) := by unfold aL cB; simp only [List.length_map, List.length_range]
theorem aL_S {n : Nat} {f : Int → Nat} {F : Value → Prop} : aL (cS n f) F = F (vI n) := by unfold aL cS; simp only [List.length_map, List.length_range]
def cpF (f : Int → Int) (sp : Int) (g : Int → Int) (dp n : Int) : Int → Int := fun j => if dp ≤ j ∧ j < dp + n then f (sp + (j - dp)) else g j
theorem aC_A {n0 n1 a0 a1 : Nat} {f g : Int → Int} {sp dp n : Int} {F : LCell → Prop} : aC (cA n0 f) (cA n1 g) a0 a1 sp dp n F = (((¬ a0 = 0 ∧ ¬ a1 = 0) ∧ (0 ≤ wr sp ∧ 0 ≤ wr dp ∧ 0 ≤ wr n ∧ wr sp + wr n ≤ n0 ∧ wr dp + wr n ≤ n1)) ∧ F (cA n1 (cpF f (wr sp) g (wr dp) (wr n)))) := by
  apply propext
  unfold aC cA
  simp only [List.length_map, List.length_range]
  by_cases hb : 0 ≤ wr sp ∧ 0 ≤ wr dp ∧ 0 ≤ wr n ∧ (wr sp).toNat + (wr n).toNat ≤ n0 ∧ (wr dp).toNat + (wr n).toNat ≤ n1
  · have hb2 : 0 ≤ wr sp ∧ 0 ≤ wr dp ∧ 0 ≤ wr n ∧ wr sp + wr n ≤ n0 ∧ wr dp + wr n ≤ n1 := by omega
    have e : cpyL ((List.range n0).map fun (j : Nat) => vI (f (j : Int))) (wr sp).toNat ((List.range n1).map fun (j : Nat) => vI (g (j : Int))) (wr dp).toNat (wr n).toNat = (List.range n1).map fun (j : Nat) => vI (cpF f (wr sp) g (wr dp) (wr n) (j : Int)) := by
      apply List.ext_getElem?
      intro j
      unfold cpyL
      have hl1 : (((List.range n1).map fun (j : Nat) => vI (g (j : Int))).take (wr dp).toNat).length = (wr dp).toNat := by rw [List.length_take, List.length_map, List.length_range]; omega
      have hl2 : ((((List.range n0).map fun (j : Nat) => vI (f (j : Int))).drop (wr sp).toNat).take (wr n).toNat).length = (wr n).toNat := by rw [List.length_take, List.length_drop, List.length_map, List.length_range]; omega
      by_cases hj : j < n1
      · by_cases a : j < (wr dp).toNat
        · rw [List.getElem?_append_left (by omega), List.getElem?_take, if_pos a]
          have : ¬ (wr dp ≤ j ∧ (j : Int) < wr dp + wr n) := by omega
          simp [hj, cpF, this]
        · rw [List.getElem?_append_right (by omega), hl1]
          by_cases b : j < (wr dp).toNat + (wr n).toNat
          · rw [List.getElem?_append_left (by omega), List.getElem?_take, if_pos (by omega), List.getElem?_drop]
            have h1 : (wr dp ≤ j ∧ (j : Int) < wr dp + wr n) := by omega
            have h2 : (wr sp).toNat + (j - (wr dp).toNat) < n0 := by omega
            have h3 : (((wr sp).toNat + (j - (wr dp).toNat) : Nat) : Int) = wr sp + ((j : Int) - wr dp) := by omega
            rw [List.getElem?_map, List.getElem?_range h2, List.getElem?_map, List.getElem?_range hj]
            show some (vI (f (((wr sp).toNat + (j - (wr dp).toNat) : Nat) : Int))) = some (vI (cpF f (wr sp) g (wr dp) (wr n) (j : Int)))
            rw [h3]
            unfold cpF
            rw [if_pos h1]
          · rw [List.getElem?_append_right (by omega), hl2, List.getElem?_drop]
            have h1 : ¬ (wr dp ≤ j ∧ (j : Int) < wr dp + wr n) := by omega
            rw [show (wr dp).toNat + (wr n).toNat + (j - (wr dp).toNat - (wr n).toNat) = j by omega]
            rw [List.getElem?_map, List.getElem?_range hj, List.getElem?_map, List.getElem?_range hj]
            show some (vI (g (j : Int))) = some (vI (cpF f (wr sp) g (wr dp) (wr n) (j : Int)))
            unfold cpF
            rw [if_neg h1]
      · have h1 : ((List.range n1).map fun (j : Nat) => vI (cpF f (wr sp) g (wr dp) (wr n) (j : Int)))[j]? = none := by
          rw [List.getElem?_eq_none]
          rw [List.length_map, List.length_range]
          omega
        rw [h1, List.getElem?_eq_none]
        rw [List.length_append, List.length_append, hl1, hl2, List.length_drop, List.length_map, List.length_range]
        omega
    rw [e]
    simp only [hb, hb2, and_self, and_true, true_and]
  · have hb2 : ¬ (0 ≤ wr sp ∧ 0 ≤ wr dp ∧ 0 ≤ wr n ∧ wr sp + wr n ≤ n0 ∧ wr dp + wr n ≤ n1) := by omega
    simp only [hb, hb2, false_and, and_false]
-- heaps
theorem hRd_wr {a b : Nat} {c : LCell} : hRd (hWr h a c) b = if b = a then c else hRd h b := rfl
theorem hRd_eq {a : Nat} {c : LCell} : hRd (hWr h a c) a = c := by simp [hRd, hWr]
theorem hRd_ne {a b : Nat} {c : LCell} (e : ¬ b = a) : hRd (hWr h a c) b = hRd h b := by simp [hRd, hWr, e]
theorem hWr_same {a : Nat} {c c2 : LCell} : hWr (hWr h a c) a c2 = hWr h a c2 := by
  unfold hWr
  simp only [Prod.mk.injEq, true_and]
  funext x
  by_cases e : x = a <;> simp [e]
theorem hWr_comm {a b : Nat} {c c2 : LCell} (e : b < a) : hWr (hWr h a c) b c2 = hWr (hWr h b c2) a c := by
  unfold hWr
  simp only [Prod.mk.injEq, true_and]
  funext x
  by_cases e1 : x = a
  · have : ¬ x = b := by omega
    simp [e1, this]
    omega
  · by_cases e2 : x = b <;> simp [e1, e2]
    omega
theorem hWr_self {a : Nat} {c : LCell} (e : hRd h a = c) : hWr h a c = h := by
  unfold hWr
  unfold hRd at e
  obtain ⟨h1, h2, h3⟩ := h
  simp only at e ⊢
  simp only [Prod.mk.injEq, true_and]
  funext x
  by_cases q : x = a
  · rw [if_pos q, q, e]
  · rw [if_neg q]
end

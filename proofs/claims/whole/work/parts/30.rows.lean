-- ROWS AS LISTS, and the reckoning, said by what holds
def Rw (r : Nat) (L : List Int) (h : LHeap) : Prop := ∃ f, hRd h r = oRow (r + 1) L.length ∧ hRd h (r + 1) = cA 6 f ∧ RI f L.length L
theorem Rw.out {r lo hi : Nat} {L : List Int} {h h1 : LHeap} (hr : Rw r L h) (o : Out lo hi h h1) (e : r + 1 < lo ∨ hi < r) : Rw r L h1 := by
  obtain ⟨f, a1, a2, a3⟩ := hr
  exact ⟨f, by rw [o.2.2 _ (by omega)]; exact a1, by rw [o.2.2 _ (by omega)]; exact a2, a3⟩
theorem StAt.rw {b : Nat} {S : SS} {h : LHeap} (hs : StAt b S h) : Rw (b + 1) S.1 h := hs.2.1
def PR (f : Int → Int) (m : Int) : Prop := ∀ i, 0 ≤ i → i < m → 0 ≤ f i ∧ f i ≤ 5
def AG (f g : Int → Int) (m : Int) : Prop := ∀ i, 0 ≤ i → i < m → f i = g i
/-- the order that comes next -/
def nxtL (L : List Int) : Option (List Int) := if nxK (fL L) L.length < 0 then none else some ((List.range L.length).map fun (i : Nat) => nxF (fL L) L.length (i : Int))
theorem kSr_ag {f g : Int → Int} {m : Int} (h : AG f g m) : ∀ (n : Nat) (k : Int), k ≤ m - 2 → kSr f n k = kSr g n k := by
  intro n
  induction n with
  | zero => intro k hk; rfl
  | succ n ih =>
    intro k hk
    rw [kSr, kSr]
    by_cases q : 0 ≤ k
    · rw [h k q (by omega), h (k + 1) (by omega) (by omega), ih (k - 1) (by omega)]
    · rw [if_neg (fun z => q z.1), if_neg (fun z => q z.1)]
theorem jSr_ag {f g : Int → Int} {m k : Int} (h : AG f g m) (h0 : 0 ≤ k) : ∀ (n : Nat) (j : Int), j ≤ m - 1 → jSr f k n j = jSr g k n j := by
  intro n
  induction n with
  | zero => intro j hj; rfl
  | succ n ih =>
    intro j hj
    rw [jSr, jSr]
    by_cases q : k < j
    · rw [h k h0 (by omega), h j (by omega) (by omega), ih (j - 1) (by omega)]
    · rw [if_neg (fun z => q z.1), if_neg (fun z => q z.1)]
theorem swF_ag {f g : Int → Int} {m a b : Int} (h : AG f g m) (ha : 0 ≤ a ∧ a < m) (hb : 0 ≤ b ∧ b < m) : AG (swF f a b) (swF g a b) m := by
  intro i h0 h1
  unfold swF uA
  rw [h a ha.1 ha.2, h b hb.1 hb.2, h i h0 h1]
theorem swF_pr {f : Int → Int} {m a b : Int} (h : PR f m) (ha : 0 ≤ a ∧ a < m) (hb : 0 ≤ b ∧ b < m) : PR (swF f a b) m := by
  intro i h0 h1
  unfold swF uA
  split
  · exact h a ha.1 ha.2
  · split
    · exact h b hb.1 hb.2
    · exact h i h0 h1
theorem rvF_ag : ∀ (n : Nat) {f g : Int → Int} {m a b : Int}, AG f g m → 0 ≤ a → b < m → AG (rvF n f a b) (rvF n g a b) m := by
  intro n
  induction n with
  | zero => intro f g m a b h h0 h1; exact h
  | succ n ih =>
    intro f g m a b h h0 h1
    rw [rvF, rvF]
    by_cases q : a < b
    · rw [if_pos q, if_pos q]
      exact ih (swF_ag h (by omega) (by omega)) (by omega) (by omega)
    · rw [if_neg q, if_neg q]
      exact h
theorem rvF_pr : ∀ (n : Nat) {f : Int → Int} {m a b : Int}, PR f m → 0 ≤ a → b < m → PR (rvF n f a b) m := by
  intro n
  induction n with
  | zero => intro f m a b h h0 h1; exact h
  | succ n ih =>
    intro f m a b h h0 h1
    rw [rvF]
    by_cases q : a < b
    · rw [if_pos q]
      exact ih (swF_pr h (by omega) (by omega)) (by omega) (by omega)
    · rw [if_neg q]
      exact h
theorem nxK_b (f : Int → Int) (m : Int) : nxK f m ≤ m - 2 := (kSr_le 7 f (m - 2)).1
theorem nxF_ag {f g : Int → Int} {m : Int} (h : AG f g m) (h0 : 0 ≤ nxK f m) : nxK f m = nxK g m ∧ AG (nxF f m) (nxF g m) m := by
  have e : nxK f m = nxK g m := kSr_ag h 7 (m - 2) (by omega)
  have hb := nxK_b f m
  have hj := jSr_le 7 f (nxK f m) (m - 1)
  refine ⟨e, ?_⟩
  unfold nxF
  rw [← e, ← jSr_ag h h0 7 (m - 1) (by omega)]
  exact rvF_ag 7 (swF_ag h (by omega) (by omega)) (by omega) (by omega)
theorem nxF_pr {f : Int → Int} {m : Int} (h : PR f m) (h0 : 0 ≤ nxK f m) : PR (nxF f m) m := by
  have hb := nxK_b f m
  have hj := jSr_le 7 f (nxK f m) (m - 1)
  unfold nxF
  exact rvF_pr 7 (swF_pr h (by omega) (by omega)) (by omega) (by omega)
theorem RI.ag {f : Int → Int} {m : Int} {L : List Int} (h : RI f m L) : AG f (fL L) m ∧ PR f m := by
  refine ⟨fun i h0 h1 => ?_, fun i h0 h1 => ?_⟩
  · have := (h.get h0 h1).2.2
    unfold fL
    rw [List.getD_eq_getElem?_getD, this]
    rfl
  · exact ⟨(h.get h0 h1).1, (h.get h0 h1).2.1⟩
theorem RI.next {f : Int → Int} {m : Int} {L : List Int} (h : RI f m L) : (nxK f m < 0 → nxtL L = none) ∧ (0 ≤ nxK f m → ∃ L1, nxtL L = some L1 ∧ L1.length = L.length ∧ RI (nxF f m) m L1) := by
  have hm : m = (L.length : Int) := h.1
  obtain ⟨ha, hp⟩ := h.ag
  have e : nxK f m = nxK (fL L) m := kSr_ag ha 7 (m - 2) (by omega)
  refine ⟨fun q => ?_, fun q => ?_⟩
  · unfold nxtL
    rw [if_pos (by rw [← hm, ← e]; exact q)]
  · have hag := (nxF_ag ha q).2
    have hpr := nxF_pr hp q
    refine ⟨(List.range L.length).map fun (i : Nat) => nxF (fL L) L.length (i : Int), ?_, by simp, ?_⟩
    · unfold nxtL
      rw [if_neg (by rw [← hm, ← e]; omega)]
    · refine RI.mk (by simp; exact hm) (by simp; exact h.2.1) (fun i h0 h1 => ?_) (fun x hx => ?_)
      · have hl : i.toNat < L.length := by omega
        rw [List.getElem?_map, List.getElem?_range hl]
        show some (nxF (fL L) L.length ((i.toNat : Nat) : Int)) = _
        rw [show ((i.toNat : Nat) : Int) = i by omega, ← hm, hag i h0 h1]
      · obtain ⟨i, hi, rfl⟩ := List.mem_map.mp hx
        have hi := List.mem_range.mp hi
        rw [← hm, ← hag (i : Int) (by omega) (by omega)]
        exact hpr _ (by omega) (by omega)
section
variable {d r r2 : Nat} {h : LHeap} {Q : Option Value → LHeap → Prop} {L L2 : List Int} {p : Int}
theorem p_line {set : Int} (hd : 3 ≤ d) (hr : Rw r L h) (kk : ∀ h1, Rw r (lineL set P6) h1 → Out r (r + 1) h h1 → Q none h1) : CALL d 48 [.ref r, vI set] h Q := by
  obtain ⟨f, a1, a2, a3⟩ := hr
  refine s_line hd a1 a2 (by omega) (fun f1 hR1 => kk _ ⟨f1, ?_, hRd_eq, hR1⟩ ((Out.refl.wr (by omega) (by omega)).wr (by omega) (by omega)))
  rw [hRd_ne (by omega), hRd_eq]
theorem p_become (hd : 2 ≤ d) (hr : Rw r L h) (hr2 : Rw r2 L2 h) (hne : r + 1 < r2 ∨ r2 + 1 < r) (kk : ∀ h1, Rw r L2 h1 → Out r (r + 1) h h1 → Q none h1) : CALL d 47 [.ref r, .ref r2] h Q := by
  obtain ⟨f, a1, a2, a3⟩ := hr
  obtain ⟨f2, b1, b2, b3⟩ := hr2
  refine s_Row_become hd a1 a2 b1 b2 (by omega) (by omega) (by omega) (by omega) (kk _ ⟨_, ?_, hRd_eq, b3.cp⟩ ((Out.refl.wr (by omega) (by omega)).wr (by omega) (by omega)))
  rw [hRd_ne (by omega), hRd_eq]
theorem p_members (hd : 1 ≤ d) (hr : Rw r L h) (kk : Q (some (vI (memF L 0))) h) : CALL d 46 [.ref r] h Q := by
  obtain ⟨f, a1, a2, a3⟩ := hr
  exact s_members hd a1 a2 a3 kk
theorem p_placeOf (hd : 1 ≤ d) (hr : Rw r L h) (h1 : -2147483648 ≤ p) (h2 : p ≤ 2147483647) (kk : Q (some (vI (pfrom L p 0))) h) : CALL d 45 [.ref r, vI p] h Q := by
  obtain ⟨f, a1, a2, a3⟩ := hr
  exact s_placeOf hd a1 a2 a3 h1 h2 kk
theorem p_raised (hd : 4 ≤ d) (hr : Rw r L h) (hr2 : Rw r2 L2 h) (kk : Q (some (vI (raisF L2 L 0 0))) h) : CALL d 51 [.ref r, .ref r2] h Q := by
  obtain ⟨f, a1, a2, a3⟩ := hr
  obtain ⟨f2, b1, b2, b3⟩ := hr2
  exact s_raised hd a1 a2 a3 b1 b2 b3 kk
/-- a person taken out, if he is there -/
def outL (L : List Int) (p : Int) : List Int := if pfrom L p 0 = -1 then L else delL L (pfrom L p 0)
theorem p_takeOut (hd : 2 ≤ d) (hr : Rw r L h) (h1 : -2147483648 ≤ p) (h2 : p ≤ 2147483647) (kk : ∀ h1, Rw r (outL L p) h1 → Out r (r + 1) h h1 → Q none h1) : CALL d 49 [.ref r, vI p] h Q := by
  have hr0 := hr
  obtain ⟨f, a1, a2, a3⟩ := hr
  have hg := pfrom_ge L p 0 (by omega)
  refine s_takeOut hd a1 a2 (by omega) a3 h1 h2 (fun q => ?_) (fun q f1 hR1 => ?_)
  · refine kk h ?_ Out.refl
    unfold outL
    rw [if_pos q]
    exact hr0
  · have e : (((delL L (pfrom L p 0)).length : Nat) : Int) = (L.length : Int) - 1 := hR1.1.symm
    refine kk _ ⟨f1, ?_, ?_, ?_⟩ ((Out.refl.wr (by omega) (by omega)).wr (by omega) (by omega))
    · unfold outL
      rw [if_neg q, hRd_ne (by omega), hRd_eq, e]
    · exact hRd_eq
    · unfold outL
      rw [if_neg q, e]
      exact hR1
theorem p_putIn {pl : Int} (hd : 1 ≤ d) (hr : Rw r L h) (hm : L.length < 6) (h0 : 0 ≤ pl) (h3 : pl ≤ L.length) (hp : 0 ≤ p ∧ p ≤ 5) (kk : ∀ h1, Rw r (insL L pl p) h1 → Out r (r + 1) h h1 → Q none h1) : CALL d 50 [.ref r, vI p, vI pl] h Q := by
  obtain ⟨f, a1, a2, a3⟩ := hr
  refine s_putIn hd a1 a2 (by omega) a3 (by omega) h0 h3 hp (fun f1 hR1 => ?_)
  have e : (((insL L pl p).length : Nat) : Int) = (L.length : Int) + 1 := hR1.1.symm
  refine kk _ ⟨f1, ?_, hRd_eq, ?_⟩ ((Out.refl.wr (by omega) (by omega)).wr (by omega) (by omega))
  · rw [hRd_ne (by omega), hRd_eq, e]
  · rw [e]
    exact hR1
theorem p_advance (hd : 4 ≤ d) (hr : Rw r L h) (k1 : nxtL L = none → Q (some (vI 0)) h) (k2 : ∀ L1, nxtL L = some L1 → ∀ h1, Rw r L1 h1 → Out r (r + 1) h h1 → Q (some (vI 1)) h1) : CALL d 52 [.ref r] h Q := by
  obtain ⟨f, a1, a2, a3⟩ := hr
  have hn := a3.next
  refine s_advance hd a1 a2 a3 (by omega) (by omega) (fun q => k1 (hn.1 q)) (fun q => ?_)
  obtain ⟨L1, e1, e2, e3⟩ := hn.2 q
  refine k2 L1 e1 _ ⟨nxF f L.length, ?_, hRd_eq, ?_⟩ (Out.refl.wr (by omega) (by omega))
  · rw [hRd_ne (by omega), e2]
    exact a1
  · rw [e2]
    exact e3
/-- the reckoner's own rows are there -/
def Scr (h : LHeap) : Prop := (∃ U, hRd h 22 = cA 6 U) ∧ (∃ D, hRd h 23 = cA 8 D) ∧ ∃ I, hRd h 24 = cA 6 I
theorem Scr.out {lo hi : Nat} {h1 : LHeap} (hs : Scr h) (o : Out lo hi h h1) (e : 24 < lo ∨ hi < 22) : Scr h1 := by
  obtain ⟨⟨U, a1⟩, ⟨D, a2⟩, ⟨I, a3⟩⟩ := hs
  exact ⟨⟨U, by rw [o.2.2 _ (by omega)]; exact a1⟩, ⟨D, by rw [o.2.2 _ (by omega)]; exact a2⟩, ⟨I, by rw [o.2.2 _ (by omega)]; exact a3⟩⟩
theorem CapH.out {lo hi : Nat} {h1 : LHeap} {M P J : Int} {wk wt dr tk bh : Int → Int} (hc : CapH h M P J wk wt dr tk bh) (o : Out lo hi h h1) (e : 21 < lo) : CapH h1 M P J wk wt dr tk bh := by
  obtain ⟨a1, a2, ⟨sh, mo, a3⟩, a4, a5, a6, a7, a8⟩ := hc
  exact ⟨by rw [o.2.2 _ (by omega)]; exact a1, by rw [o.2.2 _ (by omega)]; exact a2, ⟨sh, mo, by rw [o.2.2 _ (by omega)]; exact a3⟩, by rw [o.2.2 _ (by omega)]; exact a4, by rw [o.2.2 _ (by omega)]; exact a5, by rw [o.2.2 _ (by omega)]; exact a6, by rw [o.2.2 _ (by omega)]; exact a7, by rw [o.2.2 _ (by omega)]; exact a8⟩
theorem hK_out {U D I : Int → Int} : Out 22 24 h (hK h U D I) := ((Out.refl.wr (by omega) (by omega)).wr (by omega) (by omega)).wr (by omega) (by omega)
theorem hK_scr {U D I : Int → Int} : Scr (hK h U D I) := ⟨⟨U, hK_22⟩, ⟨D, hK_23⟩, ⟨I, hK_24⟩⟩
theorem p_reckon {sh M P J : Int} {wk wt dr tk bh : Int → Int} (hd : 5 ≤ d) (hC : CapH h M P J wk wt dr tk bh) (hB : CapB M P J wk wt dr tk bh) (hs : Scr h) (hr : Rw r L h) (hrc : r + 1 < 22 ∨ 24 < r) (hL : ∀ x ∈ L, x < P) (kk : ∀ h1, hRd h1 22 = cA 6 (fun q => en (recU M J sh wk wt dr tk bh L q)) → hRd h1 23 = cA 8 (fun q => en (recD M J sh wk wt dr tk bh L q)) → Scr h1 → Out 22 24 h h1 → Q none h1) : CALL d 5 [.ref 10, .ref r, vI sh] h Q := by
  obtain ⟨f, a1, a2, a3⟩ := hr
  obtain ⟨⟨U, b1⟩, ⟨D, b2⟩, ⟨I, b3⟩⟩ := hs
  exact s_reckon hd hC hB b1 b2 b3 a1 a2 (by omega) a3 hL (fun I1 => kk _ hK_22 hK_23 hK_scr hK_out)
end

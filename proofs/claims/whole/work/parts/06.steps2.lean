-- ONE STEP, GOING ON: arrays, what is made, what is native
theorem i_nn {i : Int32} (h : 0 ≤ i) : ¬ i < 0 := Int32.not_lt.mpr h
theorem i_in {i : Int32} {n : Nat} (h : 0 ≤ i) (h2 : i.toNatClampNeg < n) : vp_in i n := fun q => by
  rcases q with q | q
  · exact i_nn h q
  · omega
theorem encI_get {vs : List Value} {j : Nat} {v : Value} (hv : vs[j]? = some v) (hx : ∃ x, v = .int x) : v = .int (encI vs j) := by
  obtain ⟨x, rfl⟩ := hx
  unfold encI
  rw [hv]
theorem encI_set {vs : List Value} {i : Nat} {x : Int32} (hi : i < vs.length) : encI (vs.set i (.int x)) = upd (encI vs) i x := by
  funext j
  unfold encI upd
  rw [List.getElem?_set]
  by_cases h : i = j
  · subst h
    simp [hi]
  · have h2 : ¬ j = i := fun q => h q.symm
    simp [h, h2]
theorem encI_rep {n : Nat} : encI (List.replicate n (.int 0)) = fun _ => 0 := by
  funext j
  unfold encI
  rw [List.getElem?_replicate]
  split
  · rename_i h
    split at h
    · cases h; rfl
    · cases h
  · rfl
theorem encR_rep {g : LG} {n : Nat} : encR g (List.replicate n .null) = fun _ => none := by
  funext j
  unfold encR
  rw [List.getElem?_replicate]
  split
  · rename_i h
    split at h <;> cases h
  · rfl
theorem encR_set {g : LG} {vs : List Value} {i a : Nat} (hi : i < vs.length) : encR g (vs.set i (.ref a)) = va_up (encR g vs) i (some (adr g a)) := by
  funext j
  unfold encR va_up
  rw [List.getElem?_set]
  by_cases h : i = j
  · subst h
    simp [hi]
  · have h2 : ¬ j = i := fun q => h q.symm
    simp [h, h2]
theorem encI_cpy {v0 v1 : List Value} {sp dp n : Nat} (h0 : sp + n ≤ v0.length) (h1 : dp + n ≤ v1.length) : encI (cpyL v0 sp v1 dp n) = va_cpy (encI v0) (encI v1) sp dp n ∧ (cpyL v0 sp v1 dp n).length = v1.length := by
  have hl1 : (v1.take dp).length = dp := by rw [List.length_take]; omega
  have hl2 : ((v0.drop sp).take n).length = n := by rw [List.length_take, List.length_drop]; omega
  constructor
  · funext j
    unfold encI va_cpy
    have key : (cpyL v0 sp v1 dp n)[j]? = if dp ≤ j ∧ j < dp + n then v0[sp + (j - dp)]? else v1[j]? := by
      unfold cpyL
      by_cases a : j < dp
      · rw [List.getElem?_append_left (by omega), List.getElem?_take, if_pos a, if_neg (by omega)]
      · rw [List.getElem?_append_right (by omega), hl1]
        by_cases b : j < dp + n
        · rw [List.getElem?_append_left (by omega), List.getElem?_take, if_pos (by omega), List.getElem?_drop, if_pos (by omega)]
        · rw [List.getElem?_append_right (by omega), hl2, List.getElem?_drop, if_neg (by omega)]
          congr 1
          omega
    rw [key]
    by_cases a : dp ≤ j ∧ j < dp + n
    · rw [if_pos a, if_pos a]
    · rw [if_neg a, if_neg a]
  · unfold cpyL
    rw [List.length_append, List.length_append, hl1, hl2, List.length_drop]
    omega
theorem cpy_mem {v0 v1 : List Value} {sp dp n : Nat} {v : Value} (h : v ∈ cpyL v0 sp v1 dp n) : v ∈ v0 ∨ v ∈ v1 := by
  unfold cpyL at h
  rcases List.mem_append.mp h with h | h
  · exact Or.inr (List.mem_of_mem_take h)
  · rcases List.mem_append.mp h with h | h
    · exact Or.inl (List.mem_of_mem_drop (List.mem_of_mem_take h))
    · exact Or.inr (List.mem_of_mem_drop h)
theorem cat_sum {r : List Value} (h : r.length ≤ 4) : (r.map fun v => v.category).sum ≤ 8 := by
  have : ∀ r : List Value, (r.map fun v => v.category).sum ≤ 2 * r.length := by
    intro r
    induction r with
    | nil => simp
    | cons v r ih =>
      have : v.category ≤ 2 := by cases v <;> simp [Value.category]
      simp only [List.map_cons, List.sum_cons, List.length_cons]
      omega
  have := this r
  omega
theorem cat_tr {g : LG} {r : List Value} (h : r.length ≤ 4) : ((r.map (tr g)).map fun v => v.category).sum ≤ 8 := cat_sum (by rw [List.length_map]; exact h)
section
variable {p : Program} {l : Launch} {e : Env} {R : Room} {s : State} {m : MethodId} {args : Array Value} {below : List Frame} {meth : Method} {c : Code} {Q : State → Prop} {g : LG} {k ip d pc len hint : Nat} {raw : Instr} {h0 h h1 : LHeap} {H : Heap} {locs : List Loc} {lsR : Array Slot} {ls ls1 : LLoc} {st st1 : List Value} {t : Option Nat}
theorem w_arr (hW : Wld g s H h) {a : Nat} {q : FieldType × List Value} (hc : hRd h (a + 1) = some (.inr q)) : a + 1 < h.1 ∧ (wsOf g h)[a]? = some (gz g + a, enc g (some (.inr q))) ∧ cellOk (.inr q) := by
  obtain ⟨h1, h2⟩ := hW.2.2.2.2 _ _ hc
  exact ⟨h1, by rw [ws_get h1, hc], h2⟩

theorem sn_iaload  (A : AT g k d h0 h h1 p R s m args meth c H locs lsR ls) (hd : decode (mB k) pc = .ok (raw, len)) (hok : okB k ip .iaload pc raw len hint = true) (hs : stepI d .iaload ls st h = some (.inl (t, ls1, st1, h1))) (kk : KK g k ip p l e R s m args below meth c Q h0 t ls1 st1 h1) : GO g p l e R s m args below meth c Q h0 h H locs lsR st pc := by
  simp only [stepI] at hs
  obtain ⟨i, r1, rfl, hs1⟩ := withI_inv hs
  obtain ⟨a, r, rfl, hs2⟩ := withR_inv hs1
  obtain ⟨ty, vs, hc, hs3⟩ := withArr_inv hs2
  obtain ⟨⟨rfl, hi⟩, hs4⟩ := gd_inv hs3
  obtain ⟨v, hv, hs5⟩ := withV_inv hs4
  obtain ⟨rfl, rfl, rfl, rfl⟩ := nx_inv hs5
  have hlt := (List.getElem?_eq_some_iff.mp hv).1
  obtain ⟨F, hW, hS, hL, hc0, hs0, hcR, hsR, hh0, hfr, hlo⟩ := A
  obtain ⟨hx, hb, hml, hret, hown, hts, hlocks, hname, hsz, hX, hbz, hnest⟩ := F
  have hok : (len == 1 && pcOf k (ip + 1) == pc + 1) = true ∧ decide (raw = .iaload) = true := by simpa [okB] using hok
  obtain ⟨ho1, ho2⟩ := hok
  have ho2 := of_decide_eq_true ho2
  simp only [Bool.and_eq_true, beq_iff_eq] at ho1
  obtain ⟨rfl, hpc⟩ := ho1
  subst ho2
  cases a with
  | zero =>
    have hc2 := hW.2.2.2.1
    rw [hc] at hc2
    cases hc2
    rw [List.length_map, List.length_range] at hlt
    have hv2 : v = .int (gx g i.toNatClampNeg) := by
      rw [List.getElem?_map, List.getElem?_range hlt] at hv
      exact (Option.some.inj hv).symm
    subst hv2
    exact va_sld hx hb hX (by omega) (by show ¬ gz g ≤ gb g; omega) hS (i_in hi hlt) hd (kk.next hpc hW hS hL)
  | succ a =>
    obtain ⟨ha, he, hco⟩ := w_arr hW hc
    have hv2 := encI_get hv (hco v (List.mem_of_getElem? hv))
    have hK := kk.next hpc hW hS hL
    rw [hv2] at hK
    exact va_iald hx hb hW.1 hW.2.1 a 0 he rfl (i_in hi hlt) hd hK

theorem sn_baload  (A : AT g k d h0 h h1 p R s m args meth c H locs lsR ls) (hd : decode (mB k) pc = .ok (raw, len)) (hok : okB k ip .baload pc raw len hint = true) (hs : stepI d .baload ls st h = some (.inl (t, ls1, st1, h1))) (kk : KK g k ip p l e R s m args below meth c Q h0 t ls1 st1 h1) : GO g p l e R s m args below meth c Q h0 h H locs lsR st pc := by
  simp only [stepI] at hs
  obtain ⟨i, r1, rfl, hs1⟩ := withI_inv hs
  obtain ⟨a, r, rfl, hs2⟩ := withR_inv hs1
  obtain ⟨ty, vs, hc, hs3⟩ := withArr_inv hs2
  obtain ⟨⟨rfl, hi⟩, hs4⟩ := gd_inv hs3
  obtain ⟨v, hv, hs5⟩ := withV_inv hs4
  obtain ⟨rfl, rfl, rfl, rfl⟩ := nx_inv hs5
  have hlt := (List.getElem?_eq_some_iff.mp hv).1
  obtain ⟨F, hW, hS, hL, hc0, hs0, hcR, hsR, hh0, hfr, hlo⟩ := A
  obtain ⟨hx, hb, hml, hret, hown, hts, hlocks, hname, hsz, hX, hbz, hnest⟩ := F
  have hok : (len == 1 && pcOf k (ip + 1) == pc + 1) = true ∧ decide (raw = .baload) = true := by simpa [okB] using hok
  obtain ⟨ho1, ho2⟩ := hok
  have ho2 := of_decide_eq_true ho2
  simp only [Bool.and_eq_true, beq_iff_eq] at ho1
  obtain ⟨rfl, hpc⟩ := ho1
  subst ho2
  cases a with
  | zero =>
    have hc2 := hW.2.2.2.1
    rw [hc] at hc2
    cases hc2
  | succ a =>
    obtain ⟨ha, he, hco⟩ := w_arr hW hc
    have hv2 := encI_get hv (by rcases hco v (List.mem_of_getElem? hv) with h | h <;> exact ⟨_, h⟩)
    have hK := kk.next hpc hW hS hL
    rw [hv2] at hK
    exact va_zald hx hb hW.1 hW.2.1 a 1 he rfl (i_in hi hlt) hd hK

theorem sn_aaload  (A : AT g k d h0 h h1 p R s m args meth c H locs lsR ls) (hd : decode (mB k) pc = .ok (raw, len)) (hok : okB k ip .aaload pc raw len hint = true) (hs : stepI d .aaload ls st h = some (.inl (t, ls1, st1, h1))) (kk : KK g k ip p l e R s m args below meth c Q h0 t ls1 st1 h1) : GO g p l e R s m args below meth c Q h0 h H locs lsR st pc := by
  simp only [stepI] at hs
  obtain ⟨i, r1, rfl, hs1⟩ := withI_inv hs
  obtain ⟨a, r, rfl, hs2⟩ := withR_inv hs1
  obtain ⟨ty, vs, hc, hs3⟩ := withArr_inv hs2
  obtain ⟨⟨rfl, hi⟩, hs4⟩ := gd_inv hs3
  obtain ⟨v, hv, hs5⟩ := withV_inv hs4
  obtain ⟨rfl, rfl, rfl, rfl⟩ := nx_inv hs5
  have hlt := (List.getElem?_eq_some_iff.mp hv).1
  obtain ⟨F, hW, hS, hL, hc0, hs0, hcR, hsR, hh0, hfr, hlo⟩ := A
  obtain ⟨hx, hb, hml, hret, hown, hts, hlocks, hname, hsz, hX, hbz, hnest⟩ := F
  have hok : (len == 1 && pcOf k (ip + 1) == pc + 1) = true ∧ decide (raw = .aaload) = true := by simpa [okB] using hok
  obtain ⟨ho1, ho2⟩ := hok
  have ho2 := of_decide_eq_true ho2
  simp only [Bool.and_eq_true, beq_iff_eq] at ho1
  obtain ⟨rfl, hpc⟩ := ho1
  subst ho2
  cases a with
  | zero =>
    have hc2 := hW.2.2.2.1
    rw [hc] at hc2
    cases hc2
  | succ a =>
    obtain ⟨ha, he, hco⟩ := w_arr hW hc
    have hv2 : tr g v = va_rf (encR g vs i.toNatClampNeg) := by
      rcases hco.2 v (List.mem_of_getElem? hv) with rfl | ⟨x, rfl⟩
      · unfold encR; rw [hv]; rfl
      · unfold encR; rw [hv]; rfl
    have hK := kk.next hpc hW hS hL
    rw [List.map_cons, hv2] at hK
    exact va_aldq hx hb hW.1 hW.2.1 a 2 he (rfl : (gT g)[2]? = some (gS g, .object "WakeOrder$State")) (i_in hi hlt) hd hK

theorem sn_iastore  (A : AT g k d h0 h h1 p R s m args meth c H locs lsR ls) (hd : decode (mB k) pc = .ok (raw, len)) (hok : okB k ip .iastore pc raw len hint = true) (hs : stepI d .iastore ls st h = some (.inl (t, ls1, st1, h1))) (kk : KK g k ip p l e R s m args below meth c Q h0 t ls1 st1 h1) : GO g p l e R s m args below meth c Q h0 h H locs lsR st pc := by
  simp only [stepI] at hs
  obtain ⟨x, r2, rfl, hs1⟩ := withI_inv hs
  obtain ⟨i, r1, rfl, hs2⟩ := withI_inv hs1
  obtain ⟨a, r, rfl, hs3⟩ := withR_inv hs2
  obtain ⟨ty, vs, hc, hs4⟩ := withArr_inv hs3
  obtain ⟨⟨rfl, hi, hlt, hq⟩, hs5⟩ := gd_inv hs4
  obtain ⟨rfl, rfl, rfl, rfl⟩ := nx_inv hs5
  obtain ⟨F, hW, hS, hL, hc0, hs0, hcR, hsR, hh0, hfr, hlo⟩ := A
  obtain ⟨hx, hb, hml, hret, hown, hts, hlocks, hname, hsz, hX, hbz, hnest⟩ := F
  have hok : (len == 1 && pcOf k (ip + 1) == pc + 1) = true ∧ decide (raw = .iastore) = true := by simpa [okB] using hok
  obtain ⟨ho1, ho2⟩ := hok
  have ho2 := of_decide_eq_true ho2
  simp only [Bool.and_eq_true, beq_iff_eq] at ho1
  obtain ⟨rfl, hpc⟩ := ho1
  subst ho2
  cases a with
  | zero => exact absurd rfl hq
  | succ a =>
    obtain ⟨ha, he, hco⟩ := w_arr hW hc
    have hset : (.inl (gI g, vs.length, .inl (upd (encI vs) i.toNatClampNeg x)) : va_E) = enc g (some (.inr (.int, vs.set i.toNatClampNeg (.int x)))) := by
      show _ = Sum.inl (gI g, (vs.set _ _).length, Sum.inl (encI (vs.set _ _)))
      rw [List.length_set, encI_set hlt]
    have hco2 : cellOk (.inr (.int, vs.set i.toNatClampNeg (.int x))) := fun v hv => by
      rcases List.mem_or_eq_of_mem_set hv with h | h
      · exact hco v h
      · exact ⟨_, h⟩
    exact va_iast hx hb hW.1 hW.2.1 ws_D hS a 0 he rfl (i_in hi hlt) hd (fun H1 locs1 hP1 _ hS1 => kk.next hpc (hW.upd hc hco2 hset hP1) hS1 hL)

theorem sn_bastore  (A : AT g k d h0 h h1 p R s m args meth c H locs lsR ls) (hd : decode (mB k) pc = .ok (raw, len)) (hok : okB k ip .bastore pc raw len hint = true) (hs : stepI d .bastore ls st h = some (.inl (t, ls1, st1, h1))) (kk : KK g k ip p l e R s m args below meth c Q h0 t ls1 st1 h1) : GO g p l e R s m args below meth c Q h0 h H locs lsR st pc := by
  simp only [stepI] at hs
  obtain ⟨x, r2, rfl, hs1⟩ := withI_inv hs
  obtain ⟨i, r1, rfl, hs2⟩ := withI_inv hs1
  obtain ⟨a, r, rfl, hs3⟩ := withR_inv hs2
  obtain ⟨ty, vs, hc, hs4⟩ := withArr_inv hs3
  obtain ⟨⟨rfl, hi, hlt, hq⟩, hs5⟩ := gd_inv hs4
  obtain ⟨rfl, rfl, rfl, rfl⟩ := nx_inv hs5
  obtain ⟨F, hW, hS, hL, hc0, hs0, hcR, hsR, hh0, hfr, hlo⟩ := A
  obtain ⟨hx, hb, hml, hret, hown, hts, hlocks, hname, hsz, hX, hbz, hnest⟩ := F
  have hok : (len == 1 && pcOf k (ip + 1) == pc + 1) = true ∧ decide (raw = .bastore) = true := by simpa [okB] using hok
  obtain ⟨ho1, ho2⟩ := hok
  have ho2 := of_decide_eq_true ho2
  simp only [Bool.and_eq_true, beq_iff_eq] at ho1
  obtain ⟨rfl, hpc⟩ := ho1
  subst ho2
  cases a with
  | zero =>
    have hc2 := hW.2.2.2.1
    rw [hc] at hc2
    cases hc2
  | succ a =>
    obtain ⟨ha, he, hco⟩ := w_arr hW hc
    have hn : vp_nar .boolean x = x := by rcases hq with rfl | rfl <;> rfl
    have hset : (.inl (gZ g, vs.length, .inl (upd (encI vs) i.toNatClampNeg (vp_nar .boolean x))) : va_E) = enc g (some (.inr (.boolean, vs.set i.toNatClampNeg (.int x)))) := by
      show _ = Sum.inl (gZ g, (vs.set _ _).length, Sum.inl (encI (vs.set _ _)))
      rw [List.length_set, encI_set hlt, hn]
    have hco2 : cellOk (.inr (.boolean, vs.set i.toNatClampNeg (.int x))) := fun v hv => by
      rcases List.mem_or_eq_of_mem_set hv with h | h
      · exact hco v h
      · subst h
        rcases hq with rfl | rfl
        · exact Or.inl rfl
        · exact Or.inr rfl
    exact va_zast hx hb hW.1 hW.2.1 ws_D hS a 1 he rfl (i_in hi hlt) hd (fun H1 locs1 hP1 _ hS1 => kk.next hpc (hW.upd hc hco2 hset hP1) hS1 hL)

theorem sn_aastore  (A : AT g k d h0 h h1 p R s m args meth c H locs lsR ls) (hd : decode (mB k) pc = .ok (raw, len)) (hok : okB k ip .aastore pc raw len hint = true) (hs : stepI d .aastore ls st h = some (.inl (t, ls1, st1, h1))) (kk : KK g k ip p l e R s m args below meth c Q h0 t ls1 st1 h1) : GO g p l e R s m args below meth c Q h0 h H locs lsR st pc := by
  simp only [stepI] at hs
  obtain ⟨x, r2, rfl, hs1⟩ := withR_inv hs
  obtain ⟨i, r1, rfl, hs2⟩ := withI_inv hs1
  obtain ⟨a, r, rfl, hs3⟩ := withR_inv hs2
  obtain ⟨ty, vs, hc, hs4⟩ := withArr_inv hs3
  obtain ⟨ci, fs, hcv, hs5⟩ := withObj_inv hs4
  obtain ⟨⟨rfl, hi, hlt, rfl⟩, hs6⟩ := gd_inv hs5
  obtain ⟨rfl, rfl, rfl, rfl⟩ := nx_inv hs6
  obtain ⟨F, hW, hS, hL, hc0, hs0, hcR, hsR, hh0, hfr, hlo⟩ := A
  obtain ⟨hx, hb, hml, hret, hown, hts, hlocks, hname, hsz, hX, hbz, hnest⟩ := F
  have hok : (len == 1 && pcOf k (ip + 1) == pc + 1) = true ∧ decide (raw = .aastore) = true := by simpa [okB] using hok
  obtain ⟨ho1, ho2⟩ := hok
  have ho2 := of_decide_eq_true ho2
  simp only [Bool.and_eq_true, beq_iff_eq] at ho1
  obtain ⟨rfl, hpc⟩ := ho1
  subst ho2
  cases a with
  | zero =>
    have hc2 := hW.2.2.2.1
    rw [hc] at hc2
    cases hc2
  | succ a =>
    obtain ⟨ha, he, hco⟩ := w_arr hW hc
    obtain ⟨x1, rfl, hx1, hex, -⟩ := w_obj hW hcv
    have hset : (.inl (gS g, vs.length, .inr (.inr (.inr (.inr (va_up (encR g vs) i.toNatClampNeg (some (gz g + x1))))))) : va_E) = enc g (some (.inr (tyState, vs.set i.toNatClampNeg (.ref (x1 + 1))))) := by
      show _ = Sum.inl (gS g, (vs.set _ _).length, Sum.inr (Sum.inr (Sum.inr (Sum.inr (encR g (vs.set _ _))))))
      rw [List.length_set, encR_set hlt]
      rfl
    have hco2 : cellOk (.inr (tyState, vs.set i.toNatClampNeg (.ref (x1 + 1)))) := ⟨rfl, fun v hv => by
      rcases List.mem_or_eq_of_mem_set hv with h | h
      · exact hco.2 v h
      · exact Or.inr ⟨_, h⟩⟩
    exact va_astq hx hb hW.1 hW.2.1 ws_D hS a 2 x1 7 (r := (RX7, TX7, 5)) he rfl hex rfl (i_in hi hlt) hd (fun H1 locs1 hP1 _ hS1 => kk.next hpc (hW.upd hc hco2 hset hP1) hS1 hL)

theorem sn_arraylength  (A : AT g k d h0 h h1 p R s m args meth c H locs lsR ls) (hd : decode (mB k) pc = .ok (raw, len)) (hok : okB k ip .arraylength pc raw len hint = true) (hs : stepI d .arraylength ls st h = some (.inl (t, ls1, st1, h1))) (kk : KK g k ip p l e R s m args below meth c Q h0 t ls1 st1 h1) : GO g p l e R s m args below meth c Q h0 h H locs lsR st pc := by
  simp only [stepI] at hs
  obtain ⟨a, r, rfl, hs1⟩ := withR_inv hs
  obtain ⟨ty, vs, hc, hs2⟩ := withArr_inv hs1
  obtain ⟨rfl, rfl, rfl, rfl⟩ := nx_inv hs2
  obtain ⟨F, hW, hS, hL, hc0, hs0, hcR, hsR, hh0, hfr, hlo⟩ := A
  obtain ⟨hx, hb, hml, hret, hown, hts, hlocks, hname, hsz, hX, hbz, hnest⟩ := F
  have hok : (len == 1 && pcOf k (ip + 1) == pc + 1) = true ∧ decide (raw = .arraylength) = true := by simpa [okB] using hok
  obtain ⟨ho1, ho2⟩ := hok
  have ho2 := of_decide_eq_true ho2
  simp only [Bool.and_eq_true, beq_iff_eq] at ho1
  obtain ⟨rfl, hpc⟩ := ho1
  subst ho2
  cases a with
  | zero =>
    have hc2 := hW.2.2.2.1
    rw [hc] at hc2
    cases hc2
    have hK := kk.next hpc hW hS hL
    rw [List.length_map, List.length_range] at hK
    exact va_slen (b := gb g) hx hb hX (by omega) (by show ¬ gz g ≤ gb g; omega) hS hd hK
  | succ a =>
    obtain ⟨ha, he, hco⟩ := w_arr hW hc
    have hK := kk.next hpc hW hS hL
    cases ty with
    | int => exact va_alen hx hb hW.1 hW.2.1 a 0 he rfl rfl hd hK
    | boolean => exact va_alen hx hb hW.1 hW.2.1 a 1 he rfl rfl hd hK
    | _ => exact va_alen hx hb hW.1 hW.2.1 a 2 he rfl rfl hd hK

theorem fresh_q {x : va_E} {q : Nat} (hD : va_D (gA g) (wsOf g h ++ [(q, x)])) (h1 : 1 ≤ h.1) (hq : q < gz g + h.1) : q = gz g + (h.1 - 1) := by
  have hlast : (wsOf g h ++ [(q, x)])[h.1 - 1]? = some (q, x) := by
    rw [List.getElem?_append_right (by rw [ws_len]; omega), ws_len]
    simp
  have hge : gz g ≤ q := hD.2 _ _ hlast
  by_cases hlt : q - gz g < h.1 - 1
  · have ha : (q - gz g) + 1 < h.1 := by omega
    have hi : (wsOf g h ++ [(q, x)])[q - gz g]? = some (gz g + (q - gz g), enc g (hRd h (q - gz g + 1))) := by
      rw [List.getElem?_append_left (by rw [ws_len]; omega), ws_get ha]
    have := hD.1 _ _ _ _ hi hlast (by show gz g + (q - gz g) = q; omega)
    omega
  · omega
theorem tr_new (h1 : 1 ≤ h.1) : tr g (.ref h.1) = .ref (gz g + (h.1 - 1)) := by
  obtain ⟨n, hn⟩ : ∃ n, h.1 = n + 1 := ⟨h.1 - 1, by omega⟩
  rw [hn]
  rfl
/-- behind what was made: the new cell stands at the next place -/
theorem made {sl : Nat} {cv : (Nat × List Value) ⊕ (FieldType × List Value)} {x : va_E} {q n : Nat} {H1 : Heap} {rest : List Value} (hW : Wld g s H h) (hsz : s.heap.size = gz g + (h0.1 - 1)) (hh0 : 1 ≤ h0.1) (hc0 : h0.1 ≤ h.1) (hs0 : h0.2.1 ≤ h.2.1) (hx : x = enc g (some cv)) (hco : cellOk cv)
    (hP1 : va_P (gD g) vwCl (wsOf g h ++ [(q, x)]) H1) (hD1 : va_D (gA g) (wsOf g h ++ [(q, x)])) (hS1 : va_S (gA g) s.heap H1 locs) (hL : LocOK g lsR (mL k) ls)
    (kk : KK g k ip p l e R s m args below meth c Q h0 none ls (.ref h.1 :: rest) (hNew h sl (some cv))) (hn : pcOf k (ip + 1) = n) : W p l e R s m args below meth c H1 locs (h.1 - h0.1 + 1) (h.2.1 - h0.2.1 + sl) Q (F0 m n lsR (.ref q :: rest.map (tr g))) := by
  refine W.sized fun hz => ?_
  have h1 := hW.2.2.1
  have hql : q < H1.size := (hP1 (h.1 - 1) (q, x) (by
    rw [List.getElem?_append_right (by rw [ws_len]; omega), ws_len]
    simp)).lt
  have hq := fresh_q hD1 h1 (by omega)
  subst hq
  subst hx
  rw [ws_push (sl := sl) _ h1] at hP1
  have hK := kk.next hn (⟨hW.1, hP1, hW.2.2.new hco⟩ : Wld g s H1 (hNew h sl (some cv))) hS1 hL
  rw [List.map_cons, tr_new h1] at hK
  have e1 : (hNew h sl (some cv)).1 - h0.1 = h.1 - h0.1 + 1 := by show h.1 + 1 - h0.1 = _; omega
  have e2 : (hNew h sl (some cv)).2.1 - h0.2.1 = h.2.1 - h0.2.1 + sl := by show h.2.1 + sl - h0.2.1 = _; omega
  rw [e1, e2] at hK
  exact hK
theorem made_room {sl : Nat} {cv : LCell} (hc0 : h0.1 ≤ h.1) (hs0 : h0.2.1 ≤ h.2.1) (a : (hNew h sl cv).1 - h0.1 ≤ R.cells) (b : (hNew h sl cv).2.1 - h0.2.1 ≤ R.slots) : h.1 - h0.1 + 1 ≤ R.cells ∧ h.2.1 - h0.2.1 + sl ≤ R.slots := by
  have a : h.1 + 1 - h0.1 ≤ R.cells := a
  have b : h.2.1 + sl - h0.2.1 ≤ R.slots := b
  omega
theorem vp_V_map {fs : List Value} (h : ∀ v ∈ fs, v = .int 0 ∨ v = .null) : fs.map (tr g) = fs := by
  induction fs with
  | nil => rfl
  | cons v fs ih =>
    rw [List.map_cons, ih fun w hw => h w (List.mem_cons_of_mem _ hw)]
    rcases h v List.mem_cons_self with rfl | rfl <;> rfl

theorem sn_new {ci : Nat} (A : AT g k d h0 h h1 p R s m args meth c H locs lsR ls) (hd : decode (mB k) pc = .ok (raw, len)) (hok : okB k ip (.new ci) pc raw len hint = true) (hs : stepI d (.new ci) ls st h = some (.inl (t, ls1, st1, h1))) (kk : KK g k ip p l e R s m args below meth c Q h0 t ls1 st1 h1) : GO g p l e R s m args below meth c Q h0 h H locs lsR st pc := by
  simp only [stepI] at hs
  obtain ⟨rfl, rfl, rfl, rfl⟩ := nx_inv hs
  obtain ⟨F, hW, hS, hL, hc0, hs0, hcR, hsR, hh0, hfr, hlo⟩ := A
  obtain ⟨hx, hb, hml, hret, hown, hts, hlocks, hname, hsz, hX, hbz, hnest⟩ := F
  simp only [okB, Bool.and_eq_true, beq_iff_eq] at hok
  obtain ⟨⟨hlen, hpc⟩, ho⟩ := hok
  subst hlen
  split at ho
  · rename_i ix C T N hq
    simp only [Bool.and_eq_true, beq_iff_eq] at ho
    obtain ⟨hlk, hN⟩ := ho
    obtain ⟨⟨ty, hty, hdef⟩, hnm, -, hinst, hini, hcn, hdv⟩ := cls_of hq
    simp only at hty hdef hnm hinst hini hcn
    have hfl : (clsDef ci).length = N := hcn
    have hr := made_room hc0 hs0 hcR hsR
    rw [hcn] at hr
    refine va_new hx hb hts (cls_lays hq) ty hty hown (hts _ (gTbl_in (memAt_in hlk) rfl)) (hts _ (gTbl_in hinst rfl)) (hts _ (gTbl_in hini rfl)) hW.1 hW.2.1 ws_D hS (fun q hq => ?_) hq (fs := clsDef ci) hdef hr.1 hr.2 hd (fun q H1 hP1 hD1 hS1 => ?_)
    · show gz g ≤ q
      omega
    · have hK := made (cv := .inl (ci, clsDef ci)) hW hsz hh0 hc0 hs0 (by show _ = Sum.inr (ci, (clsDef ci).map (tr g)); rw [vp_V_map hdv]) ⟨_, hq, hfl⟩ hP1 hD1 hS1 hL kk hpc
      rw [hcn] at hK
      exact hK
  · cases ho

theorem sn_newarray_int  (A : AT g k d h0 h h1 p R s m args meth c H locs lsR ls) (hd : decode (mB k) pc = .ok (raw, len)) (hok : okB k ip (.newarray .int) pc raw len hint = true) (hs : stepI d (.newarray .int) ls st h = some (.inl (t, ls1, st1, h1))) (kk : KK g k ip p l e R s m args below meth c Q h0 t ls1 st1 h1) : GO g p l e R s m args below meth c Q h0 h H locs lsR st pc := by
  simp only [stepI] at hs
  obtain ⟨n, r, rfl, hs1⟩ := withI_inv hs
  obtain ⟨⟨hn0, hn1⟩, hs2⟩ := gd_inv hs1
  obtain ⟨rfl, rfl, rfl, rfl⟩ := nx_inv hs2
  obtain ⟨F, hW, hS, hL, hc0, hs0, hcR, hsR, hh0, hfr, hlo⟩ := A
  obtain ⟨hx, hb, hml, hret, hown, hts, hlocks, hname, hsz, hX, hbz, hnest⟩ := F
  have hok : (len == 2 && pcOf k (ip + 1) == pc + 2) = true ∧ decide (raw = .newarray .int) = true := by simpa [okB] using hok
  obtain ⟨ho1, ho2⟩ := hok
  have ho2 := of_decide_eq_true ho2
  simp only [Bool.and_eq_true, beq_iff_eq] at ho1
  obtain ⟨rfl, hpc⟩ := ho1
  subst ho2
  have hr := made_room hc0 hs0 hcR hsR
  have hsm : n.toNatClampNeg ≤ 1000 := by
    have := Int32.le_iff_toInt_le.mp hn1
    have h2 : (1000 : Int32).toInt = 1000 := rfl
    rw [h2] at this
    show n.toInt.toNat ≤ 1000
    omega
  refine va_newa (atype := .int) (ty := .int) (N' := n.toNatClampNeg) (a0 := (n.toNatClampNeg, .inl (fun _ => 0))) hx hb (hts _ (gTbl_in (w := .arrayClass .int) (by decide +kernel) rfl)) rfl hW.1 hW.2.1 ws_D hS (fun q hq => ?_) (fun cA => rfl) (i_nn hn0) rfl (by show n.toNatClampNeg * 4 ≤ _; omega) hr.1 hr.2 hd (fun q cA H1 hK1 hP1 hD1 hS1 => ?_)
  · show gz g ≤ q
    omega
  · have e1 : cA = gI g := by
      have a1 := (hK1.2 3 (cA, .int) rfl).2
      have a2 := (hW.1.2 0 (gI g, .int) rfl).2
      exact Option.some.inj (a1.symm.trans a2)
    subst e1
    refine made (cv := .inr (.int, List.replicate n.toNatClampNeg (.int 0))) hW hsz hh0 hc0 hs0 ?_ ?_ hP1 hD1 hS1 hL kk hpc
    · show _ = Sum.inl (_, (List.replicate _ _).length, Sum.inl (encI _))
      rw [encI_rep, List.length_replicate]
    · intro v hv
      have := List.eq_of_mem_replicate hv
      exact ⟨0, this⟩

theorem sn_newarray_boolean  (A : AT g k d h0 h h1 p R s m args meth c H locs lsR ls) (hd : decode (mB k) pc = .ok (raw, len)) (hok : okB k ip (.newarray .boolean) pc raw len hint = true) (hs : stepI d (.newarray .boolean) ls st h = some (.inl (t, ls1, st1, h1))) (kk : KK g k ip p l e R s m args below meth c Q h0 t ls1 st1 h1) : GO g p l e R s m args below meth c Q h0 h H locs lsR st pc := by
  simp only [stepI] at hs
  obtain ⟨n, r, rfl, hs1⟩ := withI_inv hs
  obtain ⟨⟨hn0, hn1⟩, hs2⟩ := gd_inv hs1
  obtain ⟨rfl, rfl, rfl, rfl⟩ := nx_inv hs2
  obtain ⟨F, hW, hS, hL, hc0, hs0, hcR, hsR, hh0, hfr, hlo⟩ := A
  obtain ⟨hx, hb, hml, hret, hown, hts, hlocks, hname, hsz, hX, hbz, hnest⟩ := F
  have hok : (len == 2 && pcOf k (ip + 1) == pc + 2) = true ∧ decide (raw = .newarray .boolean) = true := by simpa [okB] using hok
  obtain ⟨ho1, ho2⟩ := hok
  have ho2 := of_decide_eq_true ho2
  simp only [Bool.and_eq_true, beq_iff_eq] at ho1
  obtain ⟨rfl, hpc⟩ := ho1
  subst ho2
  have hr := made_room hc0 hs0 hcR hsR
  have hsm : n.toNatClampNeg ≤ 1000 := by
    have := Int32.le_iff_toInt_le.mp hn1
    have h2 : (1000 : Int32).toInt = 1000 := rfl
    rw [h2] at this
    show n.toInt.toNat ≤ 1000
    omega
  refine va_newa (atype := .boolean) (ty := .boolean) (N' := n.toNatClampNeg) (a0 := (n.toNatClampNeg, .inl (fun _ => 0))) hx hb (hts _ (gTbl_in (w := .arrayClass .boolean) (by decide +kernel) rfl)) rfl hW.1 hW.2.1 ws_D hS (fun q hq => ?_) (fun cA => rfl) (i_nn hn0) rfl (by show n.toNatClampNeg * 1 ≤ _; omega) hr.1 hr.2 hd (fun q cA H1 hK1 hP1 hD1 hS1 => ?_)
  · show gz g ≤ q
    omega
  · have e1 : cA = gZ g := by
      have a1 := (hK1.2 3 (cA, .boolean) rfl).2
      have a2 := (hW.1.2 1 (gZ g, .boolean) rfl).2
      exact Option.some.inj (a1.symm.trans a2)
    subst e1
    refine made (cv := .inr (.boolean, List.replicate n.toNatClampNeg (.int 0))) hW hsz hh0 hc0 hs0 ?_ ?_ hP1 hD1 hS1 hL kk hpc
    · show _ = Sum.inl (_, (List.replicate _ _).length, Sum.inl (encI _))
      rw [encI_rep, List.length_replicate]
    · intro v hv
      have := List.eq_of_mem_replicate hv
      exact Or.inl this

theorem sn_anewarray {z : Nat} (A : AT g k d h0 h h1 p R s m args meth c H locs lsR ls) (hd : decode (mB k) pc = .ok (raw, len)) (hok : okB k ip (.anewarray z) pc raw len hint = true) (hs : stepI d (.anewarray z) ls st h = some (.inl (t, ls1, st1, h1))) (kk : KK g k ip p l e R s m args below meth c Q h0 t ls1 st1 h1) : GO g p l e R s m args below meth c Q h0 h H locs lsR st pc := by
  simp only [stepI] at hs
  obtain ⟨n, r, rfl, hs1⟩ := withI_inv hs
  obtain ⟨⟨hn0, hn1⟩, hs2⟩ := gd_inv hs1
  obtain ⟨rfl, rfl, rfl, rfl⟩ := nx_inv hs2
  obtain ⟨F, hW, hS, hL, hc0, hs0, hcR, hsR, hh0, hfr, hlo⟩ := A
  obtain ⟨hx, hb, hml, hret, hown, hts, hlocks, hname, hsz, hX, hbz, hnest⟩ := F
  simp only [okB, Bool.and_eq_true, beq_iff_eq] at hok
  obtain ⟨⟨hlen, hpc⟩, ho⟩ := hok
  subst hlen
  split at ho
  · have hr := made_room hc0 hs0 hcR hsR
    have hsm : n.toNatClampNeg ≤ 1000 := by
      have := Int32.le_iff_toInt_le.mp hn1
      have h2 : (1000 : Int32).toInt = 1000 := rfl
      rw [h2] at this
      show n.toInt.toNat ≤ 1000
      omega
    refine va_newq (C := "WakeOrder$State") (N' := n.toNatClampNeg) hx hb hown (hts _ (gTbl_in (memAt_in ho) rfl)) hnest.2 hW.1 hW.2.1 ws_D hS (fun q hq => ?_) (i_nn hn0) rfl (by omega) hr.1 hr.2 hd (fun q cA H1 hK1 hP1 hD1 hS1 => ?_)
    · show gz g ≤ q
      omega
    · have e1 : cA = gS g := by
        obtain ⟨_, _, _, _, _, a1⟩ := (hK1.2 3 (cA, .object "WakeOrder$State") rfl).2
        obtain ⟨_, _, _, _, _, a2⟩ := (hW.1.2 2 (gS g, .object "WakeOrder$State") rfl).2
        exact Option.some.inj (a1.symm.trans a2)
      subst e1
      refine made (cv := .inr (tyState, List.replicate n.toNatClampNeg .null)) hW hsz hh0 hc0 hs0 ?_ ⟨rfl, ?_⟩ hP1 hD1 hS1 hL kk hpc
      · show _ = Sum.inl (_, (List.replicate _ _).length, Sum.inr (Sum.inr (Sum.inr (Sum.inr (encR g _)))))
        rw [encR_rep, List.length_replicate]
      · intro v hv
        exact Or.inl (List.eq_of_mem_replicate hv)
  · cases ho

theorem sn_pop  (A : AT g k d h0 h h1 p R s m args meth c H locs lsR ls) (hd : decode (mB k) pc = .ok (raw, len)) (hok : okB k ip .pop pc raw len hint = true) (hs : stepI d .pop ls st h = some (.inl (t, ls1, st1, h1))) (kk : KK g k ip p l e R s m args below meth c Q h0 t ls1 st1 h1) : GO g p l e R s m args below meth c Q h0 h H locs lsR st pc := by
  simp only [stepI] at hs
  obtain ⟨a, r, rfl, hs1⟩ := withR_inv hs
  obtain ⟨⟨hd0, hr4⟩, hs2⟩ := gd_inv hs1
  obtain ⟨rfl, rfl, rfl, rfl⟩ := nx_inv hs2
  obtain ⟨F, hW, hS, hL, hc0, hs0, hcR, hsR, hh0, hfr, hlo⟩ := A
  obtain ⟨hx, hb, hml, hret, hown, hts, hlocks, hname, hsz, hX, hbz, hnest⟩ := F
  simp only [okB, Bool.and_eq_true, beq_iff_eq] at hok
  obtain ⟨⟨hlen, hpc⟩, ho⟩ := hok
  subst hlen
  split at ho
  · have h8 := lv_room (m := m) (pc := pc) (ls := lsR) (rest := Value.ref (adr g a) :: st1.map (tr g)) (cat_tr (g := g) hr4)
    exact W.objInit hx hb hown (hts _ (gTbl_in (memAt_in ho) rfl)) (hts _ (gTbl_in (w := .instanceMethod objectInit) (by decide +kernel) rfl)) (hts _ (gTbl_in (w := .code objectInit ⟨#[0xb1]⟩ 1 none) (by decide +kernel) rfl)) (g := F0 m pc lsR (Value.ref (adr g a) :: st1.map (tr g))) rfl (hL.1.trans hml.symm) rfl hd (by omega) (by omega) (kk.next hpc hW hS hL)
  · cases ho

theorem sn_invokeinterface {n z : Nat} (A : AT g k d h0 h h1 p R s m args meth c H locs lsR ls) (hd : decode (mB k) pc = .ok (raw, len)) (hok : okB k ip (.invokeinterface n z) pc raw len hint = true) (hs : stepI d (.invokeinterface n z) ls st h = some (.inl (t, ls1, st1, h1))) (kk : KK g k ip p l e R s m args below meth c Q h0 t ls1 st1 h1) : GO g p l e R s m args below meth c Q h0 h H locs lsR st pc := by
  simp only [stepI] at hs
  obtain ⟨y, r1, rfl, hs1⟩ := withI_inv hs
  obtain ⟨x, r, rfl, hs2⟩ := withI_inv hs1
  obtain ⟨⟨hd0, hr4⟩, hs3⟩ := gd_inv hs2
  obtain ⟨rfl, rfl, rfl, rfl⟩ := nx_inv hs3
  obtain ⟨F, hW, hS, hL, hc0, hs0, hcR, hsR, hh0, hfr, hlo⟩ := A
  obtain ⟨hx, hb, hml, hret, hown, hts, hlocks, hname, hsz, hX, hbz, hnest⟩ := F
  simp only [okB, Bool.and_eq_true, beq_iff_eq] at hok
  obtain ⟨⟨hlen, hpc⟩, ho⟩ := hok
  subst hlen
  have h8 := cat_tr (g := g) hr4
  split at ho
  · have hlk := memAt_in ho
    have hK := kk.next hpc hW hS hL
    by_cases hn : n = 0
    · rw [if_pos hn] at hlk hK
      exact va_mmax hx hb (hml.trans hL.1.symm) hown (hts _ (gTbl_in hlk rfl)) (hts _ (gTbl_in (w := .static Lib.Math.max.name) (by decide +kernel) rfl)) (hts _ (gTbl_in (w := .initialized "java/lang/Math") (by decide +kernel) rfl)) (hts _ (gTbl_in (w := .code Lib.Math.max.name Lib.Math.max.code 2 (some .int)) (by decide +kernel) rfl)) (by omega) (by omega) hcR hsR hd hK
    · rw [if_neg hn] at hlk hK
      exact va_mmin hx hb (hml.trans hL.1.symm) hown (hts _ (gTbl_in hlk rfl)) (hts _ (gTbl_in (w := .static Lib.Math.min.name) (by decide +kernel) rfl)) (hts _ (gTbl_in (w := .initialized "java/lang/Math") (by decide +kernel) rfl)) (hts _ (gTbl_in (w := .code Lib.Math.min.name Lib.Math.min.code 2 (some .int)) (by decide +kernel) rfl)) (by omega) (by omega) hcR hsR hd hK
  · cases ho

theorem sn_invokedynamic {z : Nat} (A : AT g k d h0 h h1 p R s m args meth c H locs lsR ls) (hd : decode (mB k) pc = .ok (raw, len)) (hok : okB k ip (.invokedynamic z) pc raw len hint = true) (hs : stepI d (.invokedynamic z) ls st h = some (.inl (t, ls1, st1, h1))) (kk : KK g k ip p l e R s m args below meth c Q h0 t ls1 st1 h1) : GO g p l e R s m args below meth c Q h0 h H locs lsR st pc := by
  simp only [stepI] at hs
  obtain ⟨n, r5, rfl, hs1⟩ := withI_inv hs
  obtain ⟨dp, r4, rfl, hs2⟩ := withI_inv hs1
  obtain ⟨a1, r3, rfl, hs3⟩ := withR_inv hs2
  obtain ⟨sp, r2, rfl, hs4⟩ := withI_inv hs3
  obtain ⟨a0, r, rfl, hs5⟩ := withR_inv hs4
  obtain ⟨t0, v0, hv0, hs6⟩ := withArr_inv hs5
  obtain ⟨t1, v1, hv1, hs7⟩ := withArr_inv hs6
  obtain ⟨⟨hd0, hr4, rfl, rfl, hsp, hdp, hn, hb0, hb1, hz0, hz1⟩, hs8⟩ := gd_inv hs7
  obtain ⟨rfl, rfl, rfl, rfl⟩ := nx_inv hs8
  obtain ⟨F, hW, hS, hL, hc0, hs0, hcR, hsR, hh0, hfr, hlo⟩ := A
  obtain ⟨hx, hb, hml, hret, hown, hts, hlocks, hname, hsz, hX, hbz, hnest⟩ := F
  simp only [okB, Bool.and_eq_true, beq_iff_eq] at hok
  obtain ⟨⟨hlen, hpc⟩, ho⟩ := hok
  subst hlen
  have h8 := cat_tr (g := g) hr4
  split at ho
  · have hlk := memAt_in ho
    cases a0 with
    | zero => exact absurd rfl hz0
    | succ a0 =>
      cases a1 with
      | zero => exact absurd rfl hz1
      | succ a1 =>
        obtain ⟨ha0, he0, hco0⟩ := w_arr hW hv0
        obtain ⟨ha1, he1, hco1⟩ := w_arr hW hv1
        obtain ⟨hcp, hcl⟩ := encI_cpy hb0 hb1
        have hset : (.inl (gI g, v1.length, .inl (va_cpy (encI v0) (encI v1) sp.toNatClampNeg dp.toNatClampNeg n.toNatClampNeg)) : va_E) = enc g (some (.inr (.int, cpyL v0 sp.toNatClampNeg v1 dp.toNatClampNeg n.toNatClampNeg))) := by
          show _ = Sum.inl (gI g, (cpyL _ _ _ _ _).length, Sum.inl (encI (cpyL _ _ _ _ _)))
          rw [hcp, hcl]
        have hco2 : cellOk (.inr (.int, cpyL v0 sp.toNatClampNeg v1 dp.toNatClampNeg n.toNatClampNeg)) := fun v hv => by
          rcases cpy_mem hv with h | h
          · exact hco0 v h
          · exact hco1 v h
        have hnf : nativeFrameWords "java/lang/System" "arraycopy" 5 + 11 ≤ 22 := by decide +kernel
        exact va_copyi hx hb (hml.trans hL.1.symm) hown (hts _ (gTbl_in hlk rfl)) (hts _ (gTbl_in (w := .native arraycopyName) (by decide +kernel) rfl)) (hts _ (gTbl_in (w := .static arraycopyName) (by decide +kernel) rfl)) (hts _ (gTbl_in (w := .initialized "java/lang/System") (by decide +kernel) rfl)) hW.1 hW.2.1 ws_D hS a0 a1 0 0 (ty := .int) he0 he1 rfl rfl rfl (i_nn hsp) (i_nn hdp) (i_nn hn) hb0 hb1 (fun _ _ => rfl) (by omega) (by omega) hd (fun H1 locs1 hP1 _ hS1 => kk.next hpc (hW.upd hv1 hco2 hset hP1) hS1 hL)
  · cases ho

end

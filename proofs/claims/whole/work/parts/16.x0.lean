-- one rewriting rule an instruction: by program (wip/whole/xgen.py)
section
variable {d : Nat} {h : LHeap} {st : List Value} {Q : Option Value → LHeap → Prop} {x y w : Int} {a b u : Nat} {v v1 v2 v3 q0 q1 q2 q3 q4 q5 : Value} {v0 l0 l1 l2 l3 l4 l5 l6 l7 l8 : Option Value}
-- 0: WakeOrder$Book.<init>
theorem x0_0 : WP d 0 0 [some (Value.ref a)] st h Q ↔ WP d 0 1 [some (Value.ref a)] (Value.ref a :: st) h Q := wp_aload (show (lcode 0)[0]? = some (.aload 0) by decide +kernel) rfl
theorem x0_1 : WP d 0 1 [l0] (.ref a :: st) h Q ↔ ((sd d ∧ sh st) ∧ WP d 0 2 [l0] st h Q) := wp_pop (show (lcode 0)[1]? = some (.pop) by decide +kernel)
theorem x0_2 : WP d 0 2 [some (Value.ref a)] st h Q ↔ WP d 0 3 [some (Value.ref a)] (Value.ref a :: st) h Q := wp_aload (show (lcode 0)[2]? = some (.aload 0) by decide +kernel) rfl
theorem x0_3 : WP d 0 3 [l0] st h Q ↔ WP d 0 4 [l0] (vI 15 :: st) h Q := wp_iconst (show (lcode 0)[3]? = some (.iconst 15) by decide +kernel)
theorem x0_5 : WP d 0 5 [l0] (Value.ref b :: .ref a :: st) h Q ↔ pF (hRd h a) 0 0 (Value.ref b) (fun c => WP d 0 6 [l0] st (hWr h a c) Q) := wp_putstatic (show (lcode 0)[5]? = some (.putstatic 0) by decide +kernel)
theorem x0_6 : WP d 0 6 [some (Value.ref a)] st h Q ↔ WP d 0 7 [some (Value.ref a)] (Value.ref a :: st) h Q := wp_aload (show (lcode 0)[6]? = some (.aload 0) by decide +kernel) rfl
theorem x0_7 : WP d 0 7 [l0] st h Q ↔ WP d 0 8 [l0] (vI 15 :: st) h Q := wp_iconst (show (lcode 0)[7]? = some (.iconst 15) by decide +kernel)
theorem x0_9 : WP d 0 9 [l0] (Value.ref b :: .ref a :: st) h Q ↔ pF (hRd h a) 0 1 (Value.ref b) (fun c => WP d 0 10 [l0] st (hWr h a c) Q) := wp_putstatic (show (lcode 0)[9]? = some (.putstatic 1) by decide +kernel)
theorem x0_10 : WP d 0 10 [l0] [] h Q ↔ Q none h := wp_return (show (lcode 0)[10]? = some (.return_) by decide +kernel)
-- 1: WakeOrder$Book.append
theorem x1_0 : WP d 1 0 [some (Value.ref a), l1, l2] st h Q ↔ WP d 1 1 [some (Value.ref a), l1, l2] (Value.ref a :: st) h Q := wp_aload (show (lcode 1)[0]? = some (.aload 0) by decide +kernel) rfl
theorem x1_1 : WP d 1 1 [l0, l1, l2] (.ref a :: st) h Q ↔ gF (hRd h a) 0 2 (fun v => WP d 1 2 [l0, l1, l2] (v :: st) h Q) := wp_getfield (show (lcode 1)[1]? = some (.getfield 2) by decide +kernel)
theorem x1_2 : WP d 1 2 [l0, l1, l2] (vI x :: st) h Q ↔ ((wr x < 0 → WP d 1 7 [l0, l1, l2] st h Q) ∧ (¬ (wr x < 0) → WP d 1 3 [l0, l1, l2] st h Q)) := wp_if_lt (show (lcode 1)[2]? = some (.ifCond .lt 7) by decide +kernel)
theorem x1_3 : WP d 1 3 [some (Value.ref a), l1, l2] st h Q ↔ WP d 1 4 [some (Value.ref a), l1, l2] (Value.ref a :: st) h Q := wp_aload (show (lcode 1)[3]? = some (.aload 0) by decide +kernel) rfl
theorem x1_4 : WP d 1 4 [l0, l1, l2] (.ref a :: st) h Q ↔ gF (hRd h a) 0 2 (fun v => WP d 1 5 [l0, l1, l2] (v :: st) h Q) := wp_getfield (show (lcode 1)[4]? = some (.getfield 2) by decide +kernel)
theorem x1_5 : WP d 1 5 [l0, l1, l2] st h Q ↔ WP d 1 6 [l0, l1, l2] (vI 15 :: st) h Q := wp_iconst (show (lcode 1)[5]? = some (.iconst 15) by decide +kernel)
theorem x1_6 : WP d 1 6 [l0, l1, l2] (vI y :: vI x :: st) h Q ↔ ((wr x < wr y → WP d 1 9 [l0, l1, l2] st h Q) ∧ (¬ (wr x < wr y) → WP d 1 7 [l0, l1, l2] st h Q)) := wp_icmp_lt (show (lcode 1)[6]? = some (.if_icmp .lt 9) by decide +kernel)
theorem x1_7 : WP d 1 7 [l0, l1, l2] st h Q ↔ WP d 1 8 [l0, l1, l2] (vI 0 :: st) h Q := wp_iconst (show (lcode 1)[7]? = some (.iconst 0) by decide +kernel)
theorem x1_8 : WP d 1 8 [l0, l1, l2] [vI x] h Q ↔ ((Int32.ofInt x = 0 ∨ Int32.ofInt x = 1) ∧ Q (some (vI x)) h) := wp_areturn (show (lcode 1)[8]? = some (.areturn) by decide +kernel)
theorem x1_9 : WP d 1 9 [some (Value.ref a), l1, l2] st h Q ↔ WP d 1 10 [some (Value.ref a), l1, l2] (Value.ref a :: st) h Q := wp_aload (show (lcode 1)[9]? = some (.aload 0) by decide +kernel) rfl
theorem x1_10 : WP d 1 10 [l0, l1, l2] (.ref a :: st) h Q ↔ gF (hRd h a) 0 0 (fun v => WP d 1 11 [l0, l1, l2] (v :: st) h Q) := wp_getfield (show (lcode 1)[10]? = some (.getfield 0) by decide +kernel)
theorem x1_11 : WP d 1 11 [some (Value.ref a), l1, l2] st h Q ↔ WP d 1 12 [some (Value.ref a), l1, l2] (Value.ref a :: st) h Q := wp_aload (show (lcode 1)[11]? = some (.aload 0) by decide +kernel) rfl
theorem x1_12 : WP d 1 12 [l0, l1, l2] (.ref a :: st) h Q ↔ gF (hRd h a) 0 2 (fun v => WP d 1 13 [l0, l1, l2] (v :: st) h Q) := wp_getfield (show (lcode 1)[12]? = some (.getfield 2) by decide +kernel)
theorem x1_13 : WP d 1 13 [l0, some (vI x), l2] st h Q ↔ WP d 1 14 [l0, some (vI x), l2] (vI x :: st) h Q := wp_iload (show (lcode 1)[13]? = some (.iload 1) by decide +kernel) rfl
theorem x1_14 : WP d 1 14 [l0, l1, l2] (vI y :: vI x :: .ref a :: st) h Q ↔ stA (hRd h a) a x (vI y) (fun c => WP d 1 15 [l0, l1, l2] st (hWr h a c) Q) := wp_iastore (show (lcode 1)[14]? = some (.iastore) by decide +kernel)
theorem x1_15 : WP d 1 15 [some (Value.ref a), l1, l2] st h Q ↔ WP d 1 16 [some (Value.ref a), l1, l2] (Value.ref a :: st) h Q := wp_aload (show (lcode 1)[15]? = some (.aload 0) by decide +kernel) rfl
theorem x1_16 : WP d 1 16 [l0, l1, l2] (.ref a :: st) h Q ↔ gF (hRd h a) 0 1 (fun v => WP d 1 17 [l0, l1, l2] (v :: st) h Q) := wp_getfield (show (lcode 1)[16]? = some (.getfield 1) by decide +kernel)
theorem x1_17 : WP d 1 17 [some (Value.ref a), l1, l2] st h Q ↔ WP d 1 18 [some (Value.ref a), l1, l2] (Value.ref a :: st) h Q := wp_aload (show (lcode 1)[17]? = some (.aload 0) by decide +kernel) rfl
theorem x1_18 : WP d 1 18 [l0, l1, l2] (.ref a :: st) h Q ↔ gF (hRd h a) 0 2 (fun v => WP d 1 19 [l0, l1, l2] (v :: st) h Q) := wp_getfield (show (lcode 1)[18]? = some (.getfield 2) by decide +kernel)
theorem x1_19 : WP d 1 19 [l0, l1, some (vI x)] st h Q ↔ WP d 1 20 [l0, l1, some (vI x)] (vI x :: st) h Q := wp_iload (show (lcode 1)[19]? = some (.iload 2) by decide +kernel) rfl
theorem x1_20 : WP d 1 20 [l0, l1, l2] (vI y :: vI x :: .ref a :: st) h Q ↔ stA (hRd h a) a x (vI y) (fun c => WP d 1 21 [l0, l1, l2] st (hWr h a c) Q) := wp_iastore (show (lcode 1)[20]? = some (.iastore) by decide +kernel)
theorem x1_21 : WP d 1 21 [some (Value.ref a), l1, l2] st h Q ↔ WP d 1 22 [some (Value.ref a), l1, l2] (Value.ref a :: st) h Q := wp_aload (show (lcode 1)[21]? = some (.aload 0) by decide +kernel) rfl
theorem x1_22 : WP d 1 22 [l0, l1, l2] (v :: st) h Q ↔ (c1 v ∧ WP d 1 23 [l0, l1, l2] (v :: v :: st) h Q) := wp_dup (show (lcode 1)[22]? = some (.dup) by decide +kernel)
theorem x1_23 : WP d 1 23 [l0, l1, l2] (.ref a :: st) h Q ↔ gF (hRd h a) 0 2 (fun v => WP d 1 24 [l0, l1, l2] (v :: st) h Q) := wp_getfield (show (lcode 1)[23]? = some (.getfield 2) by decide +kernel)
theorem x1_24 : WP d 1 24 [l0, l1, l2] st h Q ↔ WP d 1 25 [l0, l1, l2] (vI 1 :: st) h Q := wp_iconst (show (lcode 1)[24]? = some (.iconst 1) by decide +kernel)
theorem x1_25 : WP d 1 25 [l0, l1, l2] (vI y :: vI x :: st) h Q ↔ WP d 1 26 [l0, l1, l2] (vI (x + y) :: st) h Q := wp_iadd (show (lcode 1)[25]? = some (.iadd) by decide +kernel)
theorem x1_26 : WP d 1 26 [l0, l1, l2] (vI x :: .ref a :: st) h Q ↔ pF (hRd h a) 0 2 (vI x) (fun c => WP d 1 27 [l0, l1, l2] st (hWr h a c) Q) := wp_putfield (show (lcode 1)[26]? = some (.putfield 2) by decide +kernel)
theorem x1_27 : WP d 1 27 [l0, l1, l2] st h Q ↔ WP d 1 28 [l0, l1, l2] (vI 1 :: st) h Q := wp_iconst (show (lcode 1)[27]? = some (.iconst 1) by decide +kernel)
theorem x1_28 : WP d 1 28 [l0, l1, l2] [vI x] h Q ↔ ((Int32.ofInt x = 0 ∨ Int32.ofInt x = 1) ∧ Q (some (vI x)) h) := wp_areturn (show (lcode 1)[28]? = some (.areturn) by decide +kernel)
-- 2: WakeOrder$Book.firstWrong
theorem x2_0 : WP d 2 0 [l0, l1, l2] st h Q ↔ WP d 2 1 [l0, l1, l2] (vI 0 :: st) h Q := wp_iconst (show (lcode 2)[0]? = some (.iconst 0) by decide +kernel)
theorem x2_1 : WP d 2 1 [l0, l1, l2] (vI x :: st) h Q ↔ (nl l1 ∧ WP d 2 2 [l0, l1, some (vI x)] st h Q) := wp_istore (show (lcode 2)[1]? = some (.istore 2) by decide +kernel) (Nat.le_of_ble_eq_true rfl)
theorem x2_2 : WP d 2 2 [l0, l1, l2] st h Q ↔ WPC d 2 3 [l0, l1, l2] st h Q := wp_nop (show (lcode 2)[2]? = some (.nop) by decide +kernel)
theorem x2_3 : WP d 2 3 [l0, l1, some (vI x)] st h Q ↔ WP d 2 4 [l0, l1, some (vI x)] (vI x :: st) h Q := wp_iload (show (lcode 2)[3]? = some (.iload 2) by decide +kernel) rfl
theorem x2_4 : WP d 2 4 [some (Value.ref a), l1, l2] st h Q ↔ WP d 2 5 [some (Value.ref a), l1, l2] (Value.ref a :: st) h Q := wp_aload (show (lcode 2)[4]? = some (.aload 0) by decide +kernel) rfl
theorem x2_5 : WP d 2 5 [l0, l1, l2] (.ref a :: st) h Q ↔ gF (hRd h a) 0 2 (fun v => WP d 2 6 [l0, l1, l2] (v :: st) h Q) := wp_getfield (show (lcode 2)[5]? = some (.getfield 2) by decide +kernel)
theorem x2_6 : WP d 2 6 [l0, l1, l2] (vI y :: vI x :: st) h Q ↔ ((wr y ≤ wr x → WP d 2 26 [l0, l1, l2] st h Q) ∧ (¬ (wr y ≤ wr x) → WP d 2 7 [l0, l1, l2] st h Q)) := wp_icmp_ge (show (lcode 2)[6]? = some (.if_icmp .ge 26) by decide +kernel)
theorem x2_7 : WP d 2 7 [l0, l1, some (vI x)] st h Q ↔ WP d 2 8 [l0, l1, some (vI x)] (vI x :: st) h Q := wp_iload (show (lcode 2)[7]? = some (.iload 2) by decide +kernel) rfl
theorem x2_8 : WP d 2 8 [l0, l1, l2] st h Q ↔ WP d 2 9 [l0, l1, l2] (vI 15 :: st) h Q := wp_iconst (show (lcode 2)[8]? = some (.iconst 15) by decide +kernel)
theorem x2_9 : WP d 2 9 [l0, l1, l2] (vI y :: vI x :: st) h Q ↔ ((wr y ≤ wr x → WP d 2 26 [l0, l1, l2] st h Q) ∧ (¬ (wr y ≤ wr x) → WP d 2 10 [l0, l1, l2] st h Q)) := wp_icmp_ge (show (lcode 2)[9]? = some (.if_icmp .ge 26) by decide +kernel)
theorem x2_10 : WP d 2 10 [l0, some (Value.ref a), l2] st h Q ↔ WP d 2 11 [l0, some (Value.ref a), l2] (Value.ref a :: st) h Q := wp_aload (show (lcode 2)[10]? = some (.aload 1) by decide +kernel) rfl
theorem x2_11 : WP d 2 11 [l0, l1, l2] (.ref a :: st) h Q ↔ gF (hRd h a) 1 3 (fun v => WP d 2 12 [l0, l1, l2] (v :: st) h Q) := wp_getfield (show (lcode 2)[11]? = some (.getfield 67) by decide +kernel)
theorem x2_12 : WP d 2 12 [some (Value.ref a), l1, l2] st h Q ↔ WP d 2 13 [some (Value.ref a), l1, l2] (Value.ref a :: st) h Q := wp_aload (show (lcode 2)[12]? = some (.aload 0) by decide +kernel) rfl
theorem x2_13 : WP d 2 13 [l0, l1, l2] (.ref a :: st) h Q ↔ gF (hRd h a) 0 0 (fun v => WP d 2 14 [l0, l1, l2] (v :: st) h Q) := wp_getfield (show (lcode 2)[13]? = some (.getfield 0) by decide +kernel)
theorem x2_14 : WP d 2 14 [l0, l1, some (vI x)] st h Q ↔ WP d 2 15 [l0, l1, some (vI x)] (vI x :: st) h Q := wp_iload (show (lcode 2)[14]? = some (.iload 2) by decide +kernel) rfl
theorem x2_15 : WP d 2 15 [l0, l1, l2] (vI x :: .ref a :: st) h Q ↔ ldA (hRd h a) x (fun v => WP d 2 16 [l0, l1, l2] (v :: st) h Q) := wp_iaload (show (lcode 2)[15]? = some (.iaload) by decide +kernel)
theorem x2_16 : WP d 2 16 [l0, l1, l2] (v1 :: v :: st) h Q ↔ (sh st ∧ CALL d 107 [v, v1] h (fun v h => WP d 2 17 [l0, l1, l2] (v.toList ++ st) h Q)) := wp_call (n := 2) (show (lcode 2)[16]? = some (.invokestatic 107) by decide +kernel) (by decide +kernel) (by simp)
theorem x2_17 : WP d 2 17 [some (Value.ref a), l1, l2] st h Q ↔ WP d 2 18 [some (Value.ref a), l1, l2] (Value.ref a :: st) h Q := wp_aload (show (lcode 2)[17]? = some (.aload 0) by decide +kernel) rfl
theorem x2_18 : WP d 2 18 [l0, l1, l2] (.ref a :: st) h Q ↔ gF (hRd h a) 0 1 (fun v => WP d 2 19 [l0, l1, l2] (v :: st) h Q) := wp_getfield (show (lcode 2)[18]? = some (.getfield 1) by decide +kernel)
theorem x2_19 : WP d 2 19 [l0, l1, some (vI x)] st h Q ↔ WP d 2 20 [l0, l1, some (vI x)] (vI x :: st) h Q := wp_iload (show (lcode 2)[19]? = some (.iload 2) by decide +kernel) rfl
theorem x2_20 : WP d 2 20 [l0, l1, l2] (vI x :: .ref a :: st) h Q ↔ ldA (hRd h a) x (fun v => WP d 2 21 [l0, l1, l2] (v :: st) h Q) := wp_iaload (show (lcode 2)[20]? = some (.iaload) by decide +kernel)
theorem x2_21 : WP d 2 21 [l0, l1, l2] (vI y :: vI x :: st) h Q ↔ ((wr x = wr y → WP d 2 24 [l0, l1, l2] st h Q) ∧ (¬ (wr x = wr y) → WP d 2 22 [l0, l1, l2] st h Q)) := wp_icmp_eq (show (lcode 2)[21]? = some (.if_icmp .eq 24) by decide +kernel)
theorem x2_22 : WP d 2 22 [l0, l1, some (vI x)] st h Q ↔ WP d 2 23 [l0, l1, some (vI x)] (vI x :: st) h Q := wp_iload (show (lcode 2)[22]? = some (.iload 2) by decide +kernel) rfl
theorem x2_23 : WP d 2 23 [l0, l1, l2] [vI x] h Q ↔ Q (some (vI x)) h := wp_ireturn (show (lcode 2)[23]? = some (.ireturn) by decide +kernel)
theorem x2_24 : WP d 2 24 [l0, l1, some (vI x)] st h Q ↔ (nl l1 ∧ WP d 2 25 [l0, l1, some (vI (x + 1))] st h Q) := wp_iinc (show (lcode 2)[24]? = some (.iinc 2 1) by decide +kernel) rfl (Nat.le_of_ble_eq_true rfl)
theorem x2_25 : WP d 2 25 [l0, l1, l2] st h Q ↔ WP d 2 2 [l0, l1, l2] st h Q := wp_goto (show (lcode 2)[25]? = some (.goto 2) by decide +kernel)
theorem x2_26 : WP d 2 26 [l0, l1, l2] st h Q ↔ WP d 2 27 [l0, l1, l2] (vI (-1) :: st) h Q := wp_iconst (show (lcode 2)[26]? = some (.iconst (-1)) by decide +kernel)
theorem x2_27 : WP d 2 27 [l0, l1, l2] [vI x] h Q ↔ Q (some (vI x)) h := wp_ireturn (show (lcode 2)[27]? = some (.ireturn) by decide +kernel)
-- 3: WakeOrder$Capital.<init>
theorem x3_0 : WP d 3 0 [some (Value.ref a)] st h Q ↔ WP d 3 1 [some (Value.ref a)] (Value.ref a :: st) h Q := wp_aload (show (lcode 3)[0]? = some (.aload 0) by decide +kernel) rfl
theorem x3_1 : WP d 3 1 [l0] (.ref a :: st) h Q ↔ ((sd d ∧ sh st) ∧ WP d 3 2 [l0] st h Q) := wp_pop (show (lcode 3)[1]? = some (.pop) by decide +kernel)
theorem x3_2 : WP d 3 2 [some (Value.ref a)] st h Q ↔ WP d 3 3 [some (Value.ref a)] (Value.ref a :: st) h Q := wp_aload (show (lcode 3)[2]? = some (.aload 0) by decide +kernel) rfl
theorem x3_4 : WP d 3 4 [l0] (v :: st) h Q ↔ (c1 v ∧ WP d 3 5 [l0] (v :: v :: st) h Q) := wp_dup (show (lcode 3)[4]? = some (.dup) by decide +kernel)
theorem x3_5 : WP d 3 5 [l0] (v :: st) h Q ↔ (sh st ∧ CALL d 16 [v] h (fun v h => WP d 3 6 [l0] (v.toList ++ st) h Q)) := wp_call (n := 1) (show (lcode 3)[5]? = some (.invokestatic 16) by decide +kernel) (by decide +kernel) (by simp)
theorem x3_6 : WP d 3 6 [l0] (Value.ref b :: .ref a :: st) h Q ↔ pF (hRd h a) 1 0 (Value.ref b) (fun c => WP d 3 7 [l0] st (hWr h a c) Q) := wp_putstatic (show (lcode 3)[6]? = some (.putstatic 64) by decide +kernel)
theorem x3_7 : WP d 3 7 [some (Value.ref a)] st h Q ↔ WP d 3 8 [some (Value.ref a)] (Value.ref a :: st) h Q := wp_aload (show (lcode 3)[7]? = some (.aload 0) by decide +kernel) rfl
theorem x3_9 : WP d 3 9 [l0] (v :: st) h Q ↔ (c1 v ∧ WP d 3 10 [l0] (v :: v :: st) h Q) := wp_dup (show (lcode 3)[9]? = some (.dup) by decide +kernel)
theorem x3_10 : WP d 3 10 [l0] (v :: st) h Q ↔ (sh st ∧ CALL d 54 [v] h (fun v h => WP d 3 11 [l0] (v.toList ++ st) h Q)) := wp_call (n := 1) (show (lcode 3)[10]? = some (.invokestatic 54) by decide +kernel) (by decide +kernel) (by simp)
theorem x3_11 : WP d 3 11 [l0] (Value.ref b :: .ref a :: st) h Q ↔ pF (hRd h a) 1 1 (Value.ref b) (fun c => WP d 3 12 [l0] st (hWr h a c) Q) := wp_putstatic (show (lcode 3)[11]? = some (.putstatic 65) by decide +kernel)
theorem x3_12 : WP d 3 12 [some (Value.ref a)] st h Q ↔ WP d 3 13 [some (Value.ref a)] (Value.ref a :: st) h Q := wp_aload (show (lcode 3)[12]? = some (.aload 0) by decide +kernel) rfl
theorem x3_13 : WP d 3 13 [l0] st h Q ↔ WP d 3 14 [l0] (vI 6 :: st) h Q := wp_iconst (show (lcode 3)[13]? = some (.iconst 6) by decide +kernel)
theorem x3_15 : WP d 3 15 [l0] (Value.ref b :: .ref a :: st) h Q ↔ pF (hRd h a) 1 2 (Value.ref b) (fun c => WP d 3 16 [l0] st (hWr h a c) Q) := wp_putstatic (show (lcode 3)[15]? = some (.putstatic 66) by decide +kernel)
theorem x3_16 : WP d 3 16 [some (Value.ref a)] st h Q ↔ WP d 3 17 [some (Value.ref a)] (Value.ref a :: st) h Q := wp_aload (show (lcode 3)[16]? = some (.aload 0) by decide +kernel) rfl
theorem x3_17 : WP d 3 17 [l0] st h Q ↔ WP d 3 18 [l0] (vI 8 :: st) h Q := wp_iconst (show (lcode 3)[17]? = some (.iconst 8) by decide +kernel)
theorem x3_19 : WP d 3 19 [l0] (Value.ref b :: .ref a :: st) h Q ↔ pF (hRd h a) 1 3 (Value.ref b) (fun c => WP d 3 20 [l0] st (hWr h a c) Q) := wp_putstatic (show (lcode 3)[19]? = some (.putstatic 67) by decide +kernel)
theorem x3_20 : WP d 3 20 [some (Value.ref a)] st h Q ↔ WP d 3 21 [some (Value.ref a)] (Value.ref a :: st) h Q := wp_aload (show (lcode 3)[20]? = some (.aload 0) by decide +kernel) rfl
theorem x3_21 : WP d 3 21 [l0] st h Q ↔ WP d 3 22 [l0] (vI 6 :: st) h Q := wp_iconst (show (lcode 3)[21]? = some (.iconst 6) by decide +kernel)
theorem x3_23 : WP d 3 23 [l0] (Value.ref b :: .ref a :: st) h Q ↔ pF (hRd h a) 1 4 (Value.ref b) (fun c => WP d 3 24 [l0] st (hWr h a c) Q) := wp_putstatic (show (lcode 3)[23]? = some (.putstatic 68) by decide +kernel)
theorem x3_24 : WP d 3 24 [l0] [] h Q ↔ Q none h := wp_return (show (lcode 3)[24]? = some (.return_) by decide +kernel)
-- 4: WakeOrder$Capital.reckonNow
theorem x4_0 : WP d 4 0 [some (Value.ref a)] st h Q ↔ WP d 4 1 [some (Value.ref a)] (Value.ref a :: st) h Q := wp_aload (show (lcode 4)[0]? = some (.aload 0) by decide +kernel) rfl
theorem x4_1 : WP d 4 1 [some (Value.ref a)] st h Q ↔ WP d 4 2 [some (Value.ref a)] (Value.ref a :: st) h Q := wp_aload (show (lcode 4)[1]? = some (.aload 0) by decide +kernel) rfl
theorem x4_2 : WP d 4 2 [l0] (.ref a :: st) h Q ↔ gF (hRd h a) 1 1 (fun v => WP d 4 3 [l0] (v :: st) h Q) := wp_getfield (show (lcode 4)[2]? = some (.getfield 65) by decide +kernel)
theorem x4_3 : WP d 4 3 [l0] (.ref a :: st) h Q ↔ gF (hRd h a) 7 0 (fun v => WP d 4 4 [l0] (v :: st) h Q) := wp_getfield (show (lcode 4)[3]? = some (.getfield 448) by decide +kernel)
theorem x4_4 : WP d 4 4 [some (Value.ref a)] st h Q ↔ WP d 4 5 [some (Value.ref a)] (Value.ref a :: st) h Q := wp_aload (show (lcode 4)[4]? = some (.aload 0) by decide +kernel) rfl
theorem x4_5 : WP d 4 5 [l0] (.ref a :: st) h Q ↔ gF (hRd h a) 1 1 (fun v => WP d 4 6 [l0] (v :: st) h Q) := wp_getfield (show (lcode 4)[5]? = some (.getfield 65) by decide +kernel)
theorem x4_6 : WP d 4 6 [l0] (.ref a :: st) h Q ↔ gF (hRd h a) 7 3 (fun v => WP d 4 7 [l0] (v :: st) h Q) := wp_getfield (show (lcode 4)[6]? = some (.getfield 451) by decide +kernel)
theorem x4_7 : WP d 4 7 [l0] (v2 :: v1 :: v :: st) h Q ↔ (sh st ∧ CALL d 5 [v, v1, v2] h (fun v h => WP d 4 8 [l0] (v.toList ++ st) h Q)) := wp_call (n := 3) (show (lcode 4)[7]? = some (.invokestatic 5) by decide +kernel) (by decide +kernel) (by simp)
theorem x4_8 : WP d 4 8 [l0] [] h Q ↔ Q none h := wp_return (show (lcode 4)[8]? = some (.return_) by decide +kernel)
-- 5: WakeOrder$Capital.reckon
theorem x5_0 : WP d 5 0 [some (Value.ref a), l1, l2, l3, l4, l5] st h Q ↔ WP d 5 1 [some (Value.ref a), l1, l2, l3, l4, l5] (Value.ref a :: st) h Q := wp_aload (show (lcode 5)[0]? = some (.aload 0) by decide +kernel) rfl
theorem x5_1 : WP d 5 1 [l0, l1, l2, l3, l4, l5] (.ref a :: st) h Q ↔ gF (hRd h a) 1 2 (fun v => WP d 5 2 [l0, l1, l2, l3, l4, l5] (v :: st) h Q) := wp_getfield (show (lcode 5)[1]? = some (.getfield 66) by decide +kernel)
theorem x5_2 : WP d 5 2 [l0, l1, l2, l3, l4, l5] st h Q ↔ WP d 5 3 [l0, l1, l2, l3, l4, l5] (vI (-1) :: st) h Q := wp_iconst (show (lcode 5)[2]? = some (.iconst (-1)) by decide +kernel)
theorem x5_3 : WP d 5 3 [l0, l1, l2, l3, l4, l5] (v1 :: v :: st) h Q ↔ (sh st ∧ CALL d 183 [v, v1] h (fun v h => WP d 5 4 [l0, l1, l2, l3, l4, l5] (v.toList ++ st) h Q)) := wp_call (n := 2) (show (lcode 5)[3]? = some (.invokestatic 183) by decide +kernel) (by decide +kernel) (by simp)
theorem x5_4 : WP d 5 4 [some (Value.ref a), l1, l2, l3, l4, l5] st h Q ↔ WP d 5 5 [some (Value.ref a), l1, l2, l3, l4, l5] (Value.ref a :: st) h Q := wp_aload (show (lcode 5)[4]? = some (.aload 0) by decide +kernel) rfl
theorem x5_5 : WP d 5 5 [l0, l1, l2, l3, l4, l5] (.ref a :: st) h Q ↔ gF (hRd h a) 1 3 (fun v => WP d 5 6 [l0, l1, l2, l3, l4, l5] (v :: st) h Q) := wp_getfield (show (lcode 5)[5]? = some (.getfield 67) by decide +kernel)
theorem x5_6 : WP d 5 6 [l0, l1, l2, l3, l4, l5] st h Q ↔ WP d 5 7 [l0, l1, l2, l3, l4, l5] (vI (-1) :: st) h Q := wp_iconst (show (lcode 5)[6]? = some (.iconst (-1)) by decide +kernel)
theorem x5_7 : WP d 5 7 [l0, l1, l2, l3, l4, l5] (v1 :: v :: st) h Q ↔ (sh st ∧ CALL d 183 [v, v1] h (fun v h => WP d 5 8 [l0, l1, l2, l3, l4, l5] (v.toList ++ st) h Q)) := wp_call (n := 2) (show (lcode 5)[7]? = some (.invokestatic 183) by decide +kernel) (by decide +kernel) (by simp)
theorem x5_8 : WP d 5 8 [l0, l1, l2, l3, l4, l5] st h Q ↔ WP d 5 9 [l0, l1, l2, l3, l4, l5] (vI 0 :: st) h Q := wp_iconst (show (lcode 5)[8]? = some (.iconst 0) by decide +kernel)
theorem x5_9 : WP d 5 9 [l0, l1, l2, l3, l4, l5] (vI x :: st) h Q ↔ (nl l2 ∧ WP d 5 10 [l0, l1, l2, some (vI x), l4, l5] st h Q) := wp_istore (show (lcode 5)[9]? = some (.istore 3) by decide +kernel) (Nat.le_of_ble_eq_true rfl)
theorem x5_10 : WP d 5 10 [l0, l1, l2, l3, l4, l5] st h Q ↔ WP d 5 11 [l0, l1, l2, l3, l4, l5] (vI 0 :: st) h Q := wp_iconst (show (lcode 5)[10]? = some (.iconst 0) by decide +kernel)
theorem x5_11 : WP d 5 11 [l0, l1, l2, l3, l4, l5] (vI x :: st) h Q ↔ (nl l3 ∧ WP d 5 12 [l0, l1, l2, l3, some (vI x), l5] st h Q) := wp_istore (show (lcode 5)[11]? = some (.istore 4) by decide +kernel) (Nat.le_of_ble_eq_true rfl)
theorem x5_12 : WP d 5 12 [l0, l1, l2, l3, l4, l5] st h Q ↔ WPC d 5 13 [l0, l1, l2, l3, l4, l5] st h Q := wp_nop (show (lcode 5)[12]? = some (.nop) by decide +kernel)
theorem x5_13 : WP d 5 13 [l0, l1, l2, l3, some (vI x), l5] st h Q ↔ WP d 5 14 [l0, l1, l2, l3, some (vI x), l5] (vI x :: st) h Q := wp_iload (show (lcode 5)[13]? = some (.iload 4) by decide +kernel) rfl
theorem x5_14 : WP d 5 14 [l0, l1, l2, l3, l4, l5] st h Q ↔ WP d 5 15 [l0, l1, l2, l3, l4, l5] (vI 8 :: st) h Q := wp_iconst (show (lcode 5)[14]? = some (.iconst 8) by decide +kernel)
theorem x5_15 : WP d 5 15 [l0, l1, l2, l3, l4, l5] (vI y :: vI x :: st) h Q ↔ ((wr y < wr x → WP d 5 31 [l0, l1, l2, l3, l4, l5] st h Q) ∧ (¬ (wr y < wr x) → WP d 5 16 [l0, l1, l2, l3, l4, l5] st h Q)) := wp_icmp_gt (show (lcode 5)[15]? = some (.if_icmp .gt 31) by decide +kernel)
theorem x5_16 : WP d 5 16 [l0, l1, l2, some (vI x), l4, l5] st h Q ↔ WP d 5 17 [l0, l1, l2, some (vI x), l4, l5] (vI x :: st) h Q := wp_iload (show (lcode 5)[16]? = some (.iload 3) by decide +kernel) rfl
theorem x5_17 : WP d 5 17 [l0, l1, l2, l3, l4, l5] (vI x :: st) h Q ↔ (nl l4 ∧ WP d 5 18 [l0, l1, l2, l3, l4, some (vI x)] st h Q) := wp_istore (show (lcode 5)[17]? = some (.istore 5) by decide +kernel) (Nat.le_of_ble_eq_true rfl)
theorem x5_18 : WP d 5 18 [some (Value.ref a), l1, l2, l3, l4, l5] st h Q ↔ WP d 5 19 [some (Value.ref a), l1, l2, l3, l4, l5] (Value.ref a :: st) h Q := wp_aload (show (lcode 5)[18]? = some (.aload 0) by decide +kernel) rfl
theorem x5_19 : WP d 5 19 [l0, some (Value.ref a), l2, l3, l4, l5] st h Q ↔ WP d 5 20 [l0, some (Value.ref a), l2, l3, l4, l5] (Value.ref a :: st) h Q := wp_aload (show (lcode 5)[19]? = some (.aload 1) by decide +kernel) rfl
theorem x5_20 : WP d 5 20 [l0, l1, some (vI x), l3, l4, l5] st h Q ↔ WP d 5 21 [l0, l1, some (vI x), l3, l4, l5] (vI x :: st) h Q := wp_iload (show (lcode 5)[20]? = some (.iload 2) by decide +kernel) rfl
theorem x5_21 : WP d 5 21 [l0, l1, l2, l3, l4, l5] (v2 :: v1 :: v :: st) h Q ↔ (sh st ∧ CALL d 6 [v, v1, v2] h (fun v h => WP d 5 22 [l0, l1, l2, l3, l4, l5] (v.toList ++ st) h Q)) := wp_call (n := 3) (show (lcode 5)[21]? = some (.invokestatic 6) by decide +kernel) (by decide +kernel) (by simp)
theorem x5_22 : WP d 5 22 [some (Value.ref a), l1, l2, l3, l4, l5] st h Q ↔ WP d 5 23 [some (Value.ref a), l1, l2, l3, l4, l5] (Value.ref a :: st) h Q := wp_aload (show (lcode 5)[22]? = some (.aload 0) by decide +kernel) rfl
theorem x5_23 : WP d 5 23 [l0, l1, l2, l3, l4, l5] (v :: st) h Q ↔ (sh st ∧ CALL d 8 [v] h (fun v h => WP d 5 24 [l0, l1, l2, l3, l4, l5] (v.toList ++ st) h Q)) := wp_call (n := 1) (show (lcode 5)[23]? = some (.invokestatic 8) by decide +kernel) (by decide +kernel) (by simp)
theorem x5_24 : WP d 5 24 [l0, l1, l2, l3, l4, l5] (vI x :: st) h Q ↔ (nl l2 ∧ WP d 5 25 [l0, l1, l2, some (vI x), l4, l5] st h Q) := wp_istore (show (lcode 5)[24]? = some (.istore 3) by decide +kernel) (Nat.le_of_ble_eq_true rfl)
theorem x5_25 : WP d 5 25 [l0, l1, l2, some (vI x), l4, l5] st h Q ↔ WP d 5 26 [l0, l1, l2, some (vI x), l4, l5] (vI x :: st) h Q := wp_iload (show (lcode 5)[25]? = some (.iload 3) by decide +kernel) rfl
theorem x5_26 : WP d 5 26 [l0, l1, l2, l3, l4, some (vI x)] st h Q ↔ WP d 5 27 [l0, l1, l2, l3, l4, some (vI x)] (vI x :: st) h Q := wp_iload (show (lcode 5)[26]? = some (.iload 5) by decide +kernel) rfl
theorem x5_27 : WP d 5 27 [l0, l1, l2, l3, l4, l5] (vI y :: vI x :: st) h Q ↔ ((¬ wr x = wr y → WP d 5 29 [l0, l1, l2, l3, l4, l5] st h Q) ∧ (¬ (¬ wr x = wr y) → WP d 5 28 [l0, l1, l2, l3, l4, l5] st h Q)) := wp_icmp_ne (show (lcode 5)[27]? = some (.if_icmp .ne 29) by decide +kernel)
theorem x5_28 : WP d 5 28 [l0, l1, l2, l3, l4, l5] st h Q ↔ WP d 5 31 [l0, l1, l2, l3, l4, l5] st h Q := wp_goto (show (lcode 5)[28]? = some (.goto 31) by decide +kernel)
theorem x5_29 : WP d 5 29 [l0, l1, l2, l3, some (vI x), l5] st h Q ↔ (nl l3 ∧ WP d 5 30 [l0, l1, l2, l3, some (vI (x + 1)), l5] st h Q) := wp_iinc (show (lcode 5)[29]? = some (.iinc 4 1) by decide +kernel) rfl (Nat.le_of_ble_eq_true rfl)
theorem x5_30 : WP d 5 30 [l0, l1, l2, l3, l4, l5] st h Q ↔ WP d 5 12 [l0, l1, l2, l3, l4, l5] st h Q := wp_goto (show (lcode 5)[30]? = some (.goto 12) by decide +kernel)
theorem x5_31 : WP d 5 31 [l0, l1, l2, l3, l4, l5] [] h Q ↔ Q none h := wp_return (show (lcode 5)[31]? = some (.return_) by decide +kernel)
-- 6: WakeOrder$Capital.setUpByDone
theorem x6_0 : WP d 6 0 [l0, l1, l2, l3, l4, l5, l6] st h Q ↔ WP d 6 1 [l0, l1, l2, l3, l4, l5, l6] (vI 0 :: st) h Q := wp_iconst (show (lcode 6)[0]? = some (.iconst 0) by decide +kernel)
theorem x6_1 : WP d 6 1 [l0, l1, l2, l3, l4, l5, l6] (vI x :: st) h Q ↔ (nl l2 ∧ WP d 6 2 [l0, l1, l2, some (vI x), l4, l5, l6] st h Q) := wp_istore (show (lcode 6)[1]? = some (.istore 3) by decide +kernel) (Nat.le_of_ble_eq_true rfl)
theorem x6_2 : WP d 6 2 [l0, l1, l2, l3, l4, l5, l6] st h Q ↔ WP d 6 3 [l0, l1, l2, l3, l4, l5, l6] (vI 0 :: st) h Q := wp_iconst (show (lcode 6)[2]? = some (.iconst 0) by decide +kernel)
theorem x6_3 : WP d 6 3 [l0, l1, l2, l3, l4, l5, l6] (vI x :: st) h Q ↔ (nl l3 ∧ WP d 6 4 [l0, l1, l2, l3, some (vI x), l5, l6] st h Q) := wp_istore (show (lcode 6)[3]? = some (.istore 4) by decide +kernel) (Nat.le_of_ble_eq_true rfl)
theorem x6_4 : WP d 6 4 [l0, l1, l2, l3, l4, l5, l6] st h Q ↔ WPC d 6 5 [l0, l1, l2, l3, l4, l5, l6] st h Q := wp_nop (show (lcode 6)[4]? = some (.nop) by decide +kernel)
theorem x6_5 : WP d 6 5 [l0, l1, l2, l3, some (vI x), l5, l6] st h Q ↔ WP d 6 6 [l0, l1, l2, l3, some (vI x), l5, l6] (vI x :: st) h Q := wp_iload (show (lcode 6)[5]? = some (.iload 4) by decide +kernel) rfl
theorem x6_6 : WP d 6 6 [l0, some (Value.ref a), l2, l3, l4, l5, l6] st h Q ↔ WP d 6 7 [l0, some (Value.ref a), l2, l3, l4, l5, l6] (Value.ref a :: st) h Q := wp_aload (show (lcode 6)[6]? = some (.aload 1) by decide +kernel) rfl
theorem x6_7 : WP d 6 7 [l0, l1, l2, l3, l4, l5, l6] (.ref a :: st) h Q ↔ gF (hRd h a) 6 1 (fun v => WP d 6 8 [l0, l1, l2, l3, l4, l5, l6] (v :: st) h Q) := wp_getfield (show (lcode 6)[7]? = some (.getfield 385) by decide +kernel)
theorem x6_8 : WP d 6 8 [l0, l1, l2, l3, l4, l5, l6] (vI y :: vI x :: st) h Q ↔ ((wr y ≤ wr x → WP d 6 55 [l0, l1, l2, l3, l4, l5, l6] st h Q) ∧ (¬ (wr y ≤ wr x) → WP d 6 9 [l0, l1, l2, l3, l4, l5, l6] st h Q)) := wp_icmp_ge (show (lcode 6)[8]? = some (.if_icmp .ge 55) by decide +kernel)
theorem x6_9 : WP d 6 9 [l0, some (Value.ref a), l2, l3, l4, l5, l6] st h Q ↔ WP d 6 10 [l0, some (Value.ref a), l2, l3, l4, l5, l6] (Value.ref a :: st) h Q := wp_aload (show (lcode 6)[9]? = some (.aload 1) by decide +kernel) rfl
theorem x6_10 : WP d 6 10 [l0, l1, l2, l3, some (vI x), l5, l6] st h Q ↔ WP d 6 11 [l0, l1, l2, l3, some (vI x), l5, l6] (vI x :: st) h Q := wp_iload (show (lcode 6)[10]? = some (.iload 4) by decide +kernel) rfl
theorem x6_11 : WP d 6 11 [l0, l1, l2, l3, l4, l5, l6] (v1 :: v :: st) h Q ↔ (sh st ∧ CALL d 44 [v, v1] h (fun v h => WP d 6 12 [l0, l1, l2, l3, l4, l5, l6] (v.toList ++ st) h Q)) := wp_call (n := 2) (show (lcode 6)[11]? = some (.invokestatic 44) by decide +kernel) (by decide +kernel) (by simp)
theorem x6_12 : WP d 6 12 [l0, l1, l2, l3, l4, l5, l6] (vI x :: st) h Q ↔ (nl l4 ∧ WP d 6 13 [l0, l1, l2, l3, l4, some (vI x), l6] st h Q) := wp_istore (show (lcode 6)[12]? = some (.istore 5) by decide +kernel) (Nat.le_of_ble_eq_true rfl)
theorem x6_13 : WP d 6 13 [some (Value.ref a), l1, l2, l3, l4, l5, l6] st h Q ↔ WP d 6 14 [some (Value.ref a), l1, l2, l3, l4, l5, l6] (Value.ref a :: st) h Q := wp_aload (show (lcode 6)[13]? = some (.aload 0) by decide +kernel) rfl
theorem x6_14 : WP d 6 14 [l0, l1, l2, l3, l4, l5, l6] (.ref a :: st) h Q ↔ gF (hRd h a) 1 2 (fun v => WP d 6 15 [l0, l1, l2, l3, l4, l5, l6] (v :: st) h Q) := wp_getfield (show (lcode 6)[14]? = some (.getfield 66) by decide +kernel)
theorem x6_15 : WP d 6 15 [l0, l1, l2, l3, l4, some (vI x), l6] st h Q ↔ WP d 6 16 [l0, l1, l2, l3, l4, some (vI x), l6] (vI x :: st) h Q := wp_iload (show (lcode 6)[15]? = some (.iload 5) by decide +kernel) rfl
theorem x6_16 : WP d 6 16 [l0, l1, l2, l3, l4, l5, l6] (v1 :: v :: st) h Q ↔ (sh st ∧ CALL d 106 [v, v1] h (fun v h => WP d 6 17 [l0, l1, l2, l3, l4, l5, l6] (v.toList ++ st) h Q)) := wp_call (n := 2) (show (lcode 6)[16]? = some (.invokestatic 106) by decide +kernel) (by decide +kernel) (by simp)
theorem x6_17 : WP d 6 17 [l0, l1, l2, l3, l4, l5, l6] (vI x :: st) h Q ↔ ((¬ wr x = 0 → WP d 6 19 [l0, l1, l2, l3, l4, l5, l6] st h Q) ∧ (¬ (¬ wr x = 0) → WP d 6 18 [l0, l1, l2, l3, l4, l5, l6] st h Q)) := wp_if_ne (show (lcode 6)[17]? = some (.ifCond .ne 19) by decide +kernel)
theorem x6_18 : WP d 6 18 [l0, l1, l2, l3, l4, l5, l6] st h Q ↔ WP d 6 53 [l0, l1, l2, l3, l4, l5, l6] st h Q := wp_goto (show (lcode 6)[18]? = some (.goto 53) by decide +kernel)
theorem x6_19 : WP d 6 19 [l0, l1, some (vI x), l3, l4, l5, l6] st h Q ↔ WP d 6 20 [l0, l1, some (vI x), l3, l4, l5, l6] (vI x :: st) h Q := wp_iload (show (lcode 6)[19]? = some (.iload 2) by decide +kernel) rfl
theorem x6_20 : WP d 6 20 [l0, l1, l2, l3, l4, some (vI x), l6] st h Q ↔ WP d 6 21 [l0, l1, l2, l3, l4, some (vI x), l6] (vI x :: st) h Q := wp_iload (show (lcode 6)[20]? = some (.iload 5) by decide +kernel) rfl
theorem x6_21 : WP d 6 21 [l0, l1, l2, l3, l4, l5, l6] (vI y :: vI x :: st) h Q ↔ WP d 6 22 [l0, l1, l2, l3, l4, l5, l6] (vI (zshr x y) :: st) h Q := wp_ishr (show (lcode 6)[21]? = some (.ishr) by decide +kernel)
theorem x6_22 : WP d 6 22 [l0, l1, l2, l3, l4, l5, l6] st h Q ↔ WP d 6 23 [l0, l1, l2, l3, l4, l5, l6] (vI 1 :: st) h Q := wp_iconst (show (lcode 6)[22]? = some (.iconst 1) by decide +kernel)
theorem x6_23 : WP d 6 23 [l0, l1, l2, l3, l4, l5, l6] (vI y :: vI x :: st) h Q ↔ WP d 6 24 [l0, l1, l2, l3, l4, l5, l6] (vI (zand x y) :: st) h Q := wp_iand (show (lcode 6)[23]? = some (.iand) by decide +kernel)
theorem x6_24 : WP d 6 24 [l0, l1, l2, l3, l4, l5, l6] (vI x :: st) h Q ↔ ((¬ wr x = 0 → WP d 6 27 [l0, l1, l2, l3, l4, l5, l6] st h Q) ∧ (¬ (¬ wr x = 0) → WP d 6 25 [l0, l1, l2, l3, l4, l5, l6] st h Q)) := wp_if_ne (show (lcode 6)[24]? = some (.ifCond .ne 27) by decide +kernel)
theorem x6_25 : WP d 6 25 [l0, l1, l2, l3, l4, l5, l6] st h Q ↔ WP d 6 26 [l0, l1, l2, l3, l4, l5, l6] (vI 1 :: st) h Q := wp_iconst (show (lcode 6)[25]? = some (.iconst 1) by decide +kernel)
theorem x6_26 : WP d 6 26 [l0, l1, l2, l3, l4, l5, l6] st h Q ↔ WP d 6 28 [l0, l1, l2, l3, l4, l5, l6] st h Q := wp_goto (show (lcode 6)[26]? = some (.goto 28) by decide +kernel)
theorem x6_27 : WP d 6 27 [l0, l1, l2, l3, l4, l5, l6] st h Q ↔ WP d 6 28 [l0, l1, l2, l3, l4, l5, l6] (vI 0 :: st) h Q := wp_iconst (show (lcode 6)[27]? = some (.iconst 0) by decide +kernel)
theorem x6_28 : WP d 6 28 [l0, l1, l2, l3, l4, l5, l6] (vI x :: st) h Q ↔ (nl l5 ∧ WP d 6 29 [l0, l1, l2, l3, l4, l5, some (vI x)] st h Q) := wp_istore (show (lcode 6)[28]? = some (.istore 6) by decide +kernel) (Nat.le_of_ble_eq_true rfl)
theorem x6_29 : WP d 6 29 [some (Value.ref a), l1, l2, l3, l4, l5, l6] st h Q ↔ WP d 6 30 [some (Value.ref a), l1, l2, l3, l4, l5, l6] (Value.ref a :: st) h Q := wp_aload (show (lcode 6)[29]? = some (.aload 0) by decide +kernel) rfl
theorem x6_30 : WP d 6 30 [l0, l1, l2, l3, l4, l5, l6] (.ref a :: st) h Q ↔ gF (hRd h a) 1 2 (fun v => WP d 6 31 [l0, l1, l2, l3, l4, l5, l6] (v :: st) h Q) := wp_getfield (show (lcode 6)[30]? = some (.getfield 66) by decide +kernel)
theorem x6_31 : WP d 6 31 [l0, l1, l2, l3, l4, some (vI x), l6] st h Q ↔ WP d 6 32 [l0, l1, l2, l3, l4, some (vI x), l6] (vI x :: st) h Q := wp_iload (show (lcode 6)[31]? = some (.iload 5) by decide +kernel) rfl
theorem x6_32 : WP d 6 32 [some (Value.ref a), l1, l2, l3, l4, l5, l6] st h Q ↔ WP d 6 33 [some (Value.ref a), l1, l2, l3, l4, l5, l6] (Value.ref a :: st) h Q := wp_aload (show (lcode 6)[32]? = some (.aload 0) by decide +kernel) rfl
theorem x6_33 : WP d 6 33 [l0, l1, l2, l3, l4, l5, some (vI x)] st h Q ↔ WP d 6 34 [l0, l1, l2, l3, l4, l5, some (vI x)] (vI x :: st) h Q := wp_iload (show (lcode 6)[33]? = some (.iload 6) by decide +kernel) rfl
theorem x6_34 : WP d 6 34 [l0, l1, l2, l3, l4, l5, l6] (vI x :: st) h Q ↔ ((wr x = 0 → WP d 6 41 [l0, l1, l2, l3, l4, l5, l6] st h Q) ∧ (¬ (wr x = 0) → WP d 6 35 [l0, l1, l2, l3, l4, l5, l6] st h Q)) := wp_if_eq (show (lcode 6)[34]? = some (.ifCond .eq 41) by decide +kernel)
theorem x6_35 : WP d 6 35 [some (Value.ref a), l1, l2, l3, l4, l5, l6] st h Q ↔ WP d 6 36 [some (Value.ref a), l1, l2, l3, l4, l5, l6] (Value.ref a :: st) h Q := wp_aload (show (lcode 6)[35]? = some (.aload 0) by decide +kernel) rfl
theorem x6_36 : WP d 6 36 [l0, l1, l2, l3, l4, some (vI x), l6] st h Q ↔ WP d 6 37 [l0, l1, l2, l3, l4, some (vI x), l6] (vI x :: st) h Q := wp_iload (show (lcode 6)[36]? = some (.iload 5) by decide +kernel) rfl
theorem x6_37 : WP d 6 37 [l0, l1, l2, l3, l4, l5, l6] (v1 :: v :: st) h Q ↔ (sh st ∧ CALL d 7 [v, v1] h (fun v h => WP d 6 38 [l0, l1, l2, l3, l4, l5, l6] (v.toList ++ st) h Q)) := wp_call (n := 2) (show (lcode 6)[37]? = some (.invokestatic 7) by decide +kernel) (by decide +kernel) (by simp)
theorem x6_38 : WP d 6 38 [l0, l1, l2, some (vI x), l4, l5, l6] st h Q ↔ WP d 6 39 [l0, l1, l2, some (vI x), l4, l5, l6] (vI x :: st) h Q := wp_iload (show (lcode 6)[38]? = some (.iload 3) by decide +kernel) rfl
theorem x6_39 : WP d 6 39 [l0, l1, l2, l3, l4, l5, l6] (v1 :: v :: st) h Q ↔ (sh st ∧ CALL d 108 [v, v1] h (fun v h => WP d 6 40 [l0, l1, l2, l3, l4, l5, l6] (v.toList ++ st) h Q)) := wp_call (n := 2) (show (lcode 6)[39]? = some (.invokestatic 108) by decide +kernel) (by decide +kernel) (by simp)
theorem x6_40 : WP d 6 40 [l0, l1, l2, l3, l4, l5, l6] st h Q ↔ WP d 6 44 [l0, l1, l2, l3, l4, l5, l6] st h Q := wp_goto (show (lcode 6)[40]? = some (.goto 44) by decide +kernel)
theorem x6_41 : WP d 6 41 [some (Value.ref a), l1, l2, l3, l4, l5, l6] st h Q ↔ WP d 6 42 [some (Value.ref a), l1, l2, l3, l4, l5, l6] (Value.ref a :: st) h Q := wp_aload (show (lcode 6)[41]? = some (.aload 0) by decide +kernel) rfl
theorem x6_42 : WP d 6 42 [l0, l1, l2, l3, l4, some (vI x), l6] st h Q ↔ WP d 6 43 [l0, l1, l2, l3, l4, some (vI x), l6] (vI x :: st) h Q := wp_iload (show (lcode 6)[42]? = some (.iload 5) by decide +kernel) rfl
theorem x6_43 : WP d 6 43 [l0, l1, l2, l3, l4, l5, l6] (v1 :: v :: st) h Q ↔ (sh st ∧ CALL d 7 [v, v1] h (fun v h => WP d 6 44 [l0, l1, l2, l3, l4, l5, l6] (v.toList ++ st) h Q)) := wp_call (n := 2) (show (lcode 6)[43]? = some (.invokestatic 7) by decide +kernel) (by decide +kernel) (by simp)
theorem x6_44 : WP d 6 44 [l0, l1, l2, l3, l4, l5, l6] (v1 :: v :: st) h Q ↔ (sh st ∧ CALL d 9 [v, v1] h (fun v h => WP d 6 45 [l0, l1, l2, l3, l4, l5, l6] (v.toList ++ st) h Q)) := wp_call (n := 2) (show (lcode 6)[44]? = some (.invokestatic 9) by decide +kernel) (by decide +kernel) (by simp)
theorem x6_45 : WP d 6 45 [l0, l1, l2, l3, l4, l5, l6] (vI y :: vI x :: .ref a :: st) h Q ↔ stA (hRd h a) a x (vI y) (fun c => WP d 6 46 [l0, l1, l2, l3, l4, l5, l6] st (hWr h a c) Q) := wp_iastore (show (lcode 6)[45]? = some (.iastore) by decide +kernel)
theorem x6_46 : WP d 6 46 [l0, l1, l2, l3, l4, l5, some (vI x)] st h Q ↔ WP d 6 47 [l0, l1, l2, l3, l4, l5, some (vI x)] (vI x :: st) h Q := wp_iload (show (lcode 6)[46]? = some (.iload 6) by decide +kernel) rfl
theorem x6_47 : WP d 6 47 [l0, l1, l2, l3, l4, l5, l6] (vI x :: st) h Q ↔ ((wr x = 0 → WP d 6 53 [l0, l1, l2, l3, l4, l5, l6] st h Q) ∧ (¬ (wr x = 0) → WP d 6 48 [l0, l1, l2, l3, l4, l5, l6] st h Q)) := wp_if_eq (show (lcode 6)[47]? = some (.ifCond .eq 53) by decide +kernel)
theorem x6_48 : WP d 6 48 [some (Value.ref a), l1, l2, l3, l4, l5, l6] st h Q ↔ WP d 6 49 [some (Value.ref a), l1, l2, l3, l4, l5, l6] (Value.ref a :: st) h Q := wp_aload (show (lcode 6)[48]? = some (.aload 0) by decide +kernel) rfl
theorem x6_49 : WP d 6 49 [l0, l1, l2, l3, l4, l5, l6] (.ref a :: st) h Q ↔ gF (hRd h a) 1 2 (fun v => WP d 6 50 [l0, l1, l2, l3, l4, l5, l6] (v :: st) h Q) := wp_getfield (show (lcode 6)[49]? = some (.getfield 66) by decide +kernel)
theorem x6_50 : WP d 6 50 [l0, l1, l2, l3, l4, some (vI x), l6] st h Q ↔ WP d 6 51 [l0, l1, l2, l3, l4, some (vI x), l6] (vI x :: st) h Q := wp_iload (show (lcode 6)[50]? = some (.iload 5) by decide +kernel) rfl
theorem x6_51 : WP d 6 51 [l0, l1, l2, l3, l4, l5, l6] (vI x :: .ref a :: st) h Q ↔ ldA (hRd h a) x (fun v => WP d 6 52 [l0, l1, l2, l3, l4, l5, l6] (v :: st) h Q) := wp_iaload (show (lcode 6)[51]? = some (.iaload) by decide +kernel)
theorem x6_52 : WP d 6 52 [l0, l1, l2, l3, l4, l5, l6] (vI x :: st) h Q ↔ (nl l2 ∧ WP d 6 53 [l0, l1, l2, some (vI x), l4, l5, l6] st h Q) := wp_istore (show (lcode 6)[52]? = some (.istore 3) by decide +kernel) (Nat.le_of_ble_eq_true rfl)
theorem x6_53 : WP d 6 53 [l0, l1, l2, l3, some (vI x), l5, l6] st h Q ↔ (nl l3 ∧ WP d 6 54 [l0, l1, l2, l3, some (vI (x + 1)), l5, l6] st h Q) := wp_iinc (show (lcode 6)[53]? = some (.iinc 4 1) by decide +kernel) rfl (Nat.le_of_ble_eq_true rfl)
theorem x6_54 : WP d 6 54 [l0, l1, l2, l3, l4, l5, l6] st h Q ↔ WP d 6 4 [l0, l1, l2, l3, l4, l5, l6] st h Q := wp_goto (show (lcode 6)[54]? = some (.goto 4) by decide +kernel)
theorem x6_55 : WP d 6 55 [l0, l1, l2, l3, l4, l5, l6] [] h Q ↔ Q none h := wp_return (show (lcode 6)[55]? = some (.return_) by decide +kernel)
-- 7: WakeOrder$Capital.wakesAt
theorem x7_0 : WP d 7 0 [some (Value.ref a), l1, l2, l3] st h Q ↔ WP d 7 1 [some (Value.ref a), l1, l2, l3] (Value.ref a :: st) h Q := wp_aload (show (lcode 7)[0]? = some (.aload 0) by decide +kernel) rfl
theorem x7_1 : WP d 7 1 [l0, l1, l2, l3] (.ref a :: st) h Q ↔ gF (hRd h a) 1 1 (fun v => WP d 7 2 [l0, l1, l2, l3] (v :: st) h Q) := wp_getfield (show (lcode 7)[1]? = some (.getfield 65) by decide +kernel)
theorem x7_2 : WP d 7 2 [l0, l1, l2, l3] (.ref a :: st) h Q ↔ gF (hRd h a) 7 1 (fun v => WP d 7 3 [l0, l1, l2, l3] (v :: st) h Q) := wp_getfield (show (lcode 7)[2]? = some (.getfield 449) by decide +kernel)
theorem x7_3 : WP d 7 3 [l0, some (vI x), l2, l3] st h Q ↔ WP d 7 4 [l0, some (vI x), l2, l3] (vI x :: st) h Q := wp_iload (show (lcode 7)[3]? = some (.iload 1) by decide +kernel) rfl
theorem x7_4 : WP d 7 4 [l0, l1, l2, l3] (v1 :: v :: st) h Q ↔ (sh st ∧ CALL d 107 [v, v1] h (fun v h => WP d 7 5 [l0, l1, l2, l3] (v.toList ++ st) h Q)) := wp_call (n := 2) (show (lcode 7)[4]? = some (.invokestatic 107) by decide +kernel) (by decide +kernel) (by simp)
theorem x7_5 : WP d 7 5 [l0, l1, l2, l3] (vI x :: st) h Q ↔ (nl l1 ∧ WP d 7 6 [l0, l1, some (vI x), l3] st h Q) := wp_istore (show (lcode 7)[5]? = some (.istore 2) by decide +kernel) (Nat.le_of_ble_eq_true rfl)
theorem x7_6 : WP d 7 6 [some (Value.ref a), l1, l2, l3] st h Q ↔ WP d 7 7 [some (Value.ref a), l1, l2, l3] (Value.ref a :: st) h Q := wp_aload (show (lcode 7)[6]? = some (.aload 0) by decide +kernel) rfl
theorem x7_7 : WP d 7 7 [l0, l1, l2, l3] (.ref a :: st) h Q ↔ gF (hRd h a) 1 0 (fun v => WP d 7 8 [l0, l1, l2, l3] (v :: st) h Q) := wp_getfield (show (lcode 7)[7]? = some (.getfield 64) by decide +kernel)
theorem x7_8 : WP d 7 8 [l0, l1, l2, l3] (.ref a :: st) h Q ↔ gF (hRd h a) 2 4 (fun v => WP d 7 9 [l0, l1, l2, l3] (v :: st) h Q) := wp_getfield (show (lcode 7)[8]? = some (.getfield 132) by decide +kernel)
theorem x7_9 : WP d 7 9 [l0, some (vI x), l2, l3] st h Q ↔ WP d 7 10 [l0, some (vI x), l2, l3] (vI x :: st) h Q := wp_iload (show (lcode 7)[9]? = some (.iload 1) by decide +kernel) rfl
theorem x7_10 : WP d 7 10 [l0, l1, l2, l3] (v1 :: v :: st) h Q ↔ (sh st ∧ CALL d 107 [v, v1] h (fun v h => WP d 7 11 [l0, l1, l2, l3] (v.toList ++ st) h Q)) := wp_call (n := 2) (show (lcode 7)[10]? = some (.invokestatic 107) by decide +kernel) (by decide +kernel) (by simp)
theorem x7_11 : WP d 7 11 [l0, l1, l2, l3] (vI x :: st) h Q ↔ (nl l2 ∧ WP d 7 12 [l0, l1, l2, some (vI x)] st h Q) := wp_istore (show (lcode 7)[11]? = some (.istore 3) by decide +kernel) (Nat.le_of_ble_eq_true rfl)
theorem x7_12 : WP d 7 12 [l0, l1, l2, some (vI x)] st h Q ↔ WP d 7 13 [l0, l1, l2, some (vI x)] (vI x :: st) h Q := wp_iload (show (lcode 7)[12]? = some (.iload 3) by decide +kernel) rfl
theorem x7_13 : WP d 7 13 [l0, l1, l2, l3] st h Q ↔ WP d 7 14 [l0, l1, l2, l3] (vI (-1) :: st) h Q := wp_iconst (show (lcode 7)[13]? = some (.iconst (-1)) by decide +kernel)
theorem x7_14 : WP d 7 14 [l0, l1, l2, l3] (vI y :: vI x :: st) h Q ↔ ((¬ wr x = wr y → WP d 7 17 [l0, l1, l2, l3] st h Q) ∧ (¬ (¬ wr x = wr y) → WP d 7 15 [l0, l1, l2, l3] st h Q)) := wp_icmp_ne (show (lcode 7)[14]? = some (.if_icmp .ne 17) by decide +kernel)
theorem x7_15 : WP d 7 15 [l0, l1, some (vI x), l3] st h Q ↔ WP d 7 16 [l0, l1, some (vI x), l3] (vI x :: st) h Q := wp_iload (show (lcode 7)[15]? = some (.iload 2) by decide +kernel) rfl
theorem x7_16 : WP d 7 16 [l0, l1, l2, l3] st h Q ↔ WP d 7 23 [l0, l1, l2, l3] st h Q := wp_goto (show (lcode 7)[16]? = some (.goto 23) by decide +kernel)
theorem x7_17 : WP d 7 17 [l0, l1, some (vI x), l3] st h Q ↔ WP d 7 18 [l0, l1, some (vI x), l3] (vI x :: st) h Q := wp_iload (show (lcode 7)[17]? = some (.iload 2) by decide +kernel) rfl
theorem x7_18 : WP d 7 18 [some (Value.ref a), l1, l2, l3] st h Q ↔ WP d 7 19 [some (Value.ref a), l1, l2, l3] (Value.ref a :: st) h Q := wp_aload (show (lcode 7)[18]? = some (.aload 0) by decide +kernel) rfl
theorem x7_19 : WP d 7 19 [l0, l1, l2, l3] (.ref a :: st) h Q ↔ gF (hRd h a) 1 3 (fun v => WP d 7 20 [l0, l1, l2, l3] (v :: st) h Q) := wp_getfield (show (lcode 7)[19]? = some (.getfield 67) by decide +kernel)
theorem x7_20 : WP d 7 20 [l0, l1, l2, some (vI x)] st h Q ↔ WP d 7 21 [l0, l1, l2, some (vI x)] (vI x :: st) h Q := wp_iload (show (lcode 7)[20]? = some (.iload 3) by decide +kernel) rfl
theorem x7_21 : WP d 7 21 [l0, l1, l2, l3] (v1 :: v :: st) h Q ↔ (sh st ∧ CALL d 107 [v, v1] h (fun v h => WP d 7 22 [l0, l1, l2, l3] (v.toList ++ st) h Q)) := wp_call (n := 2) (show (lcode 7)[21]? = some (.invokestatic 107) by decide +kernel) (by decide +kernel) (by simp)
theorem x7_22 : WP d 7 22 [l0, l1, l2, l3] (v1 :: v :: st) h Q ↔ (sh st ∧ CALL d 108 [v, v1] h (fun v h => WP d 7 23 [l0, l1, l2, l3] (v.toList ++ st) h Q)) := wp_call (n := 2) (show (lcode 7)[22]? = some (.invokestatic 108) by decide +kernel) (by decide +kernel) (by simp)
theorem x7_23 : WP d 7 23 [l0, l1, l2, l3] [vI x] h Q ↔ Q (some (vI x)) h := wp_ireturn (show (lcode 7)[23]? = some (.ireturn) by decide +kernel)
-- 8: WakeOrder$Capital.setDoneAndCount
theorem x8_0 : WP d 8 0 [l0, l1, l2, l3, l4] st h Q ↔ WP d 8 1 [l0, l1, l2, l3, l4] (vI 0 :: st) h Q := wp_iconst (show (lcode 8)[0]? = some (.iconst 0) by decide +kernel)
theorem x8_1 : WP d 8 1 [l0, l1, l2, l3, l4] (vI x :: st) h Q ↔ (nl l0 ∧ WP d 8 2 [l0, some (vI x), l2, l3, l4] st h Q) := wp_istore (show (lcode 8)[1]? = some (.istore 1) by decide +kernel) (Nat.le_of_ble_eq_true rfl)
theorem x8_2 : WP d 8 2 [some (Value.ref a), l1, l2, l3, l4] st h Q ↔ WP d 8 3 [some (Value.ref a), l1, l2, l3, l4] (Value.ref a :: st) h Q := wp_aload (show (lcode 8)[2]? = some (.aload 0) by decide +kernel) rfl
theorem x8_3 : WP d 8 3 [l0, l1, l2, l3, l4] (.ref a :: st) h Q ↔ gF (hRd h a) 1 2 (fun v => WP d 8 4 [l0, l1, l2, l3, l4] (v :: st) h Q) := wp_getfield (show (lcode 8)[3]? = some (.getfield 66) by decide +kernel)
theorem x8_4 : WP d 8 4 [l0, l1, l2, l3, l4] st h Q ↔ WP d 8 5 [l0, l1, l2, l3, l4] (vI 0 :: st) h Q := wp_iconst (show (lcode 8)[4]? = some (.iconst 0) by decide +kernel)
theorem x8_5 : WP d 8 5 [some (Value.ref a), l1, l2, l3, l4] st h Q ↔ WP d 8 6 [some (Value.ref a), l1, l2, l3, l4] (Value.ref a :: st) h Q := wp_aload (show (lcode 8)[5]? = some (.aload 0) by decide +kernel) rfl
theorem x8_6 : WP d 8 6 [l0, l1, l2, l3, l4] (.ref a :: st) h Q ↔ gF (hRd h a) 1 4 (fun v => WP d 8 7 [l0, l1, l2, l3, l4] (v :: st) h Q) := wp_getfield (show (lcode 8)[6]? = some (.getfield 68) by decide +kernel)
theorem x8_7 : WP d 8 7 [l0, l1, l2, l3, l4] st h Q ↔ WP d 8 8 [l0, l1, l2, l3, l4] (vI 0 :: st) h Q := wp_iconst (show (lcode 8)[7]? = some (.iconst 0) by decide +kernel)
theorem x8_8 : WP d 8 8 [l0, l1, l2, l3, l4] st h Q ↔ WP d 8 9 [l0, l1, l2, l3, l4] (vI 6 :: st) h Q := wp_iconst (show (lcode 8)[8]? = some (.iconst 6) by decide +kernel)
theorem x8_9 : WP d 8 9 [l0, l1, l2, l3, l4] (vI w :: vI y :: .ref b :: vI x :: .ref a :: st) h Q ↔ ((sd d ∧ sh st) ∧ aC (hRd h a) (hRd h b) a b x y w (fun c => WP d 8 10 [l0, l1, l2, l3, l4] st (hWr h b c) Q)) := wp_arraycopy (show (lcode 8)[9]? = some (.invokedynamic 0) by decide +kernel)
theorem x8_10 : WP d 8 10 [l0, l1, l2, l3, l4] st h Q ↔ WP d 8 11 [l0, l1, l2, l3, l4] (vI 0 :: st) h Q := wp_iconst (show (lcode 8)[10]? = some (.iconst 0) by decide +kernel)
theorem x8_11 : WP d 8 11 [l0, l1, l2, l3, l4] (vI x :: st) h Q ↔ (nl l1 ∧ WP d 8 12 [l0, l1, some (vI x), l3, l4] st h Q) := wp_istore (show (lcode 8)[11]? = some (.istore 2) by decide +kernel) (Nat.le_of_ble_eq_true rfl)
theorem x8_12 : WP d 8 12 [l0, l1, l2, l3, l4] st h Q ↔ WPC d 8 13 [l0, l1, l2, l3, l4] st h Q := wp_nop (show (lcode 8)[12]? = some (.nop) by decide +kernel)
theorem x8_13 : WP d 8 13 [l0, l1, some (vI x), l3, l4] st h Q ↔ WP d 8 14 [l0, l1, some (vI x), l3, l4] (vI x :: st) h Q := wp_iload (show (lcode 8)[13]? = some (.iload 2) by decide +kernel) rfl
theorem x8_14 : WP d 8 14 [l0, l1, l2, l3, l4] st h Q ↔ WP d 8 15 [l0, l1, l2, l3, l4] (vI 8 :: st) h Q := wp_iconst (show (lcode 8)[14]? = some (.iconst 8) by decide +kernel)
theorem x8_15 : WP d 8 15 [l0, l1, l2, l3, l4] (vI y :: vI x :: st) h Q ↔ ((wr y ≤ wr x → WP d 8 90 [l0, l1, l2, l3, l4] st h Q) ∧ (¬ (wr y ≤ wr x) → WP d 8 16 [l0, l1, l2, l3, l4] st h Q)) := wp_icmp_ge (show (lcode 8)[15]? = some (.if_icmp .ge 90) by decide +kernel)
theorem x8_16 : WP d 8 16 [l0, l1, some (vI x), l3, l4] st h Q ↔ WP d 8 17 [l0, l1, some (vI x), l3, l4] (vI x :: st) h Q := wp_iload (show (lcode 8)[16]? = some (.iload 2) by decide +kernel) rfl
theorem x8_17 : WP d 8 17 [some (Value.ref a), l1, l2, l3, l4] st h Q ↔ WP d 8 18 [some (Value.ref a), l1, l2, l3, l4] (Value.ref a :: st) h Q := wp_aload (show (lcode 8)[17]? = some (.aload 0) by decide +kernel) rfl
theorem x8_18 : WP d 8 18 [l0, l1, l2, l3, l4] (.ref a :: st) h Q ↔ gF (hRd h a) 1 0 (fun v => WP d 8 19 [l0, l1, l2, l3, l4] (v :: st) h Q) := wp_getfield (show (lcode 8)[18]? = some (.getfield 64) by decide +kernel)
theorem x8_19 : WP d 8 19 [l0, l1, l2, l3, l4] (.ref a :: st) h Q ↔ gF (hRd h a) 2 2 (fun v => WP d 8 20 [l0, l1, l2, l3, l4] (v :: st) h Q) := wp_getfield (show (lcode 8)[19]? = some (.getfield 130) by decide +kernel)
theorem x8_20 : WP d 8 20 [l0, l1, l2, l3, l4] (vI y :: vI x :: st) h Q ↔ ((wr y ≤ wr x → WP d 8 90 [l0, l1, l2, l3, l4] st h Q) ∧ (¬ (wr y ≤ wr x) → WP d 8 21 [l0, l1, l2, l3, l4] st h Q)) := wp_icmp_ge (show (lcode 8)[20]? = some (.if_icmp .ge 90) by decide +kernel)
theorem x8_21 : WP d 8 21 [some (Value.ref a), l1, l2, l3, l4] st h Q ↔ WP d 8 22 [some (Value.ref a), l1, l2, l3, l4] (Value.ref a :: st) h Q := wp_aload (show (lcode 8)[21]? = some (.aload 0) by decide +kernel) rfl
theorem x8_22 : WP d 8 22 [l0, l1, l2, l3, l4] (.ref a :: st) h Q ↔ gF (hRd h a) 1 1 (fun v => WP d 8 23 [l0, l1, l2, l3, l4] (v :: st) h Q) := wp_getfield (show (lcode 8)[22]? = some (.getfield 65) by decide +kernel)
theorem x8_23 : WP d 8 23 [l0, l1, l2, l3, l4] (.ref a :: st) h Q ↔ gF (hRd h a) 7 2 (fun v => WP d 8 24 [l0, l1, l2, l3, l4] (v :: st) h Q) := wp_getfield (show (lcode 8)[23]? = some (.getfield 450) by decide +kernel)
theorem x8_24 : WP d 8 24 [l0, l1, some (vI x), l3, l4] st h Q ↔ WP d 8 25 [l0, l1, some (vI x), l3, l4] (vI x :: st) h Q := wp_iload (show (lcode 8)[24]? = some (.iload 2) by decide +kernel) rfl
theorem x8_25 : WP d 8 25 [l0, l1, l2, l3, l4] (vI x :: .ref a :: st) h Q ↔ ldA (hRd h a) x (fun v => WP d 8 26 [l0, l1, l2, l3, l4] (v :: st) h Q) := wp_iaload (show (lcode 8)[25]? = some (.iaload) by decide +kernel)
theorem x8_26 : WP d 8 26 [l0, l1, l2, l3, l4] (vI x :: st) h Q ↔ (nl l2 ∧ WP d 8 27 [l0, l1, l2, some (vI x), l4] st h Q) := wp_istore (show (lcode 8)[26]? = some (.istore 3) by decide +kernel) (Nat.le_of_ble_eq_true rfl)
theorem x8_27 : WP d 8 27 [some (Value.ref a), l1, l2, l3, l4] st h Q ↔ WP d 8 28 [some (Value.ref a), l1, l2, l3, l4] (Value.ref a :: st) h Q := wp_aload (show (lcode 8)[27]? = some (.aload 0) by decide +kernel) rfl
theorem x8_28 : WP d 8 28 [l0, l1, l2, l3, l4] (.ref a :: st) h Q ↔ gF (hRd h a) 1 4 (fun v => WP d 8 29 [l0, l1, l2, l3, l4] (v :: st) h Q) := wp_getfield (show (lcode 8)[28]? = some (.getfield 68) by decide +kernel)
theorem x8_29 : WP d 8 29 [l0, l1, l2, some (vI x), l4] st h Q ↔ WP d 8 30 [l0, l1, l2, some (vI x), l4] (vI x :: st) h Q := wp_iload (show (lcode 8)[29]? = some (.iload 3) by decide +kernel) rfl
theorem x8_30 : WP d 8 30 [l0, l1, l2, l3, l4] (v1 :: v :: st) h Q ↔ (sh st ∧ CALL d 107 [v, v1] h (fun v h => WP d 8 31 [l0, l1, l2, l3, l4] (v.toList ++ st) h Q)) := wp_call (n := 2) (show (lcode 8)[30]? = some (.invokestatic 107) by decide +kernel) (by decide +kernel) (by simp)
theorem x8_31 : WP d 8 31 [l0, l1, l2, l3, l4] (vI x :: st) h Q ↔ (nl l3 ∧ WP d 8 32 [l0, l1, l2, l3, some (vI x)] st h Q) := wp_istore (show (lcode 8)[31]? = some (.istore 4) by decide +kernel) (Nat.le_of_ble_eq_true rfl)
theorem x8_32 : WP d 8 32 [some (Value.ref a), l1, l2, l3, l4] st h Q ↔ WP d 8 33 [some (Value.ref a), l1, l2, l3, l4] (Value.ref a :: st) h Q := wp_aload (show (lcode 8)[32]? = some (.aload 0) by decide +kernel) rfl
theorem x8_33 : WP d 8 33 [l0, l1, l2, l3, l4] (.ref a :: st) h Q ↔ gF (hRd h a) 1 0 (fun v => WP d 8 34 [l0, l1, l2, l3, l4] (v :: st) h Q) := wp_getfield (show (lcode 8)[33]? = some (.getfield 64) by decide +kernel)
theorem x8_34 : WP d 8 34 [l0, l1, l2, l3, l4] (.ref a :: st) h Q ↔ gF (hRd h a) 2 7 (fun v => WP d 8 35 [l0, l1, l2, l3, l4] (v :: st) h Q) := wp_getfield (show (lcode 8)[34]? = some (.getfield 135) by decide +kernel)
theorem x8_35 : WP d 8 35 [l0, l1, some (vI x), l3, l4] st h Q ↔ WP d 8 36 [l0, l1, some (vI x), l3, l4] (vI x :: st) h Q := wp_iload (show (lcode 8)[35]? = some (.iload 2) by decide +kernel) rfl
theorem x8_36 : WP d 8 36 [l0, l1, l2, l3, l4] (vI x :: .ref a :: st) h Q ↔ ldA (hRd h a) x (fun v => WP d 8 37 [l0, l1, l2, l3, l4] (v :: st) h Q) := wp_iaload (show (lcode 8)[36]? = some (.iaload) by decide +kernel)
theorem x8_37 : WP d 8 37 [l0, l1, l2, l3, l4] st h Q ↔ WP d 8 38 [l0, l1, l2, l3, l4] (vI (-1) :: st) h Q := wp_iconst (show (lcode 8)[37]? = some (.iconst (-1)) by decide +kernel)
theorem x8_38 : WP d 8 38 [l0, l1, l2, l3, l4] (vI y :: vI x :: st) h Q ↔ ((wr x = wr y → WP d 8 50 [l0, l1, l2, l3, l4] st h Q) ∧ (¬ (wr x = wr y) → WP d 8 39 [l0, l1, l2, l3, l4] st h Q)) := wp_icmp_eq (show (lcode 8)[38]? = some (.if_icmp .eq 50) by decide +kernel)
theorem x8_39 : WP d 8 39 [l0, l1, l2, l3, some (vI x)] st h Q ↔ WP d 8 40 [l0, l1, l2, l3, some (vI x)] (vI x :: st) h Q := wp_iload (show (lcode 8)[39]? = some (.iload 4) by decide +kernel) rfl
theorem x8_40 : WP d 8 40 [some (Value.ref a), l1, l2, l3, l4] st h Q ↔ WP d 8 41 [some (Value.ref a), l1, l2, l3, l4] (Value.ref a :: st) h Q := wp_aload (show (lcode 8)[40]? = some (.aload 0) by decide +kernel) rfl
theorem x8_41 : WP d 8 41 [l0, l1, l2, l3, l4] (.ref a :: st) h Q ↔ gF (hRd h a) 1 3 (fun v => WP d 8 42 [l0, l1, l2, l3, l4] (v :: st) h Q) := wp_getfield (show (lcode 8)[41]? = some (.getfield 67) by decide +kernel)
theorem x8_42 : WP d 8 42 [some (Value.ref a), l1, l2, l3, l4] st h Q ↔ WP d 8 43 [some (Value.ref a), l1, l2, l3, l4] (Value.ref a :: st) h Q := wp_aload (show (lcode 8)[42]? = some (.aload 0) by decide +kernel) rfl
theorem x8_43 : WP d 8 43 [l0, l1, l2, l3, l4] (.ref a :: st) h Q ↔ gF (hRd h a) 1 0 (fun v => WP d 8 44 [l0, l1, l2, l3, l4] (v :: st) h Q) := wp_getfield (show (lcode 8)[43]? = some (.getfield 64) by decide +kernel)
theorem x8_44 : WP d 8 44 [l0, l1, l2, l3, l4] (.ref a :: st) h Q ↔ gF (hRd h a) 2 7 (fun v => WP d 8 45 [l0, l1, l2, l3, l4] (v :: st) h Q) := wp_getfield (show (lcode 8)[44]? = some (.getfield 135) by decide +kernel)
theorem x8_45 : WP d 8 45 [l0, l1, some (vI x), l3, l4] st h Q ↔ WP d 8 46 [l0, l1, some (vI x), l3, l4] (vI x :: st) h Q := wp_iload (show (lcode 8)[45]? = some (.iload 2) by decide +kernel) rfl
theorem x8_46 : WP d 8 46 [l0, l1, l2, l3, l4] (vI x :: .ref a :: st) h Q ↔ ldA (hRd h a) x (fun v => WP d 8 47 [l0, l1, l2, l3, l4] (v :: st) h Q) := wp_iaload (show (lcode 8)[46]? = some (.iaload) by decide +kernel)
theorem x8_47 : WP d 8 47 [l0, l1, l2, l3, l4] (v1 :: v :: st) h Q ↔ (sh st ∧ CALL d 107 [v, v1] h (fun v h => WP d 8 48 [l0, l1, l2, l3, l4] (v.toList ++ st) h Q)) := wp_call (n := 2) (show (lcode 8)[47]? = some (.invokestatic 107) by decide +kernel) (by decide +kernel) (by simp)
theorem x8_48 : WP d 8 48 [l0, l1, l2, l3, l4] (v1 :: v :: st) h Q ↔ (sh st ∧ CALL d 108 [v, v1] h (fun v h => WP d 8 49 [l0, l1, l2, l3, l4] (v.toList ++ st) h Q)) := wp_call (n := 2) (show (lcode 8)[48]? = some (.invokestatic 108) by decide +kernel) (by decide +kernel) (by simp)
theorem x8_49 : WP d 8 49 [l0, l1, l2, l3, l4] (vI x :: st) h Q ↔ (nl l3 ∧ WP d 8 50 [l0, l1, l2, l3, some (vI x)] st h Q) := wp_istore (show (lcode 8)[49]? = some (.istore 4) by decide +kernel) (Nat.le_of_ble_eq_true rfl)
theorem x8_50 : WP d 8 50 [some (Value.ref a), l1, l2, l3, l4] st h Q ↔ WP d 8 51 [some (Value.ref a), l1, l2, l3, l4] (Value.ref a :: st) h Q := wp_aload (show (lcode 8)[50]? = some (.aload 0) by decide +kernel) rfl
theorem x8_51 : WP d 8 51 [l0, l1, l2, l3, l4] (.ref a :: st) h Q ↔ gF (hRd h a) 1 3 (fun v => WP d 8 52 [l0, l1, l2, l3, l4] (v :: st) h Q) := wp_getfield (show (lcode 8)[51]? = some (.getfield 67) by decide +kernel)
theorem x8_52 : WP d 8 52 [l0, l1, some (vI x), l3, l4] st h Q ↔ WP d 8 53 [l0, l1, some (vI x), l3, l4] (vI x :: st) h Q := wp_iload (show (lcode 8)[52]? = some (.iload 2) by decide +kernel) rfl
theorem x8_53 : WP d 8 53 [l0, l1, l2, l3, some (vI x)] st h Q ↔ WP d 8 54 [l0, l1, l2, l3, some (vI x)] (vI x :: st) h Q := wp_iload (show (lcode 8)[53]? = some (.iload 4) by decide +kernel) rfl
theorem x8_54 : WP d 8 54 [l0, l1, l2, l3, l4] st h Q ↔ WP d 8 55 [l0, l1, l2, l3, l4] (vI (-1) :: st) h Q := wp_iconst (show (lcode 8)[54]? = some (.iconst (-1)) by decide +kernel)
theorem x8_55 : WP d 8 55 [l0, l1, l2, l3, l4] (vI y :: vI x :: st) h Q ↔ ((¬ wr x = wr y → WP d 8 58 [l0, l1, l2, l3, l4] st h Q) ∧ (¬ (¬ wr x = wr y) → WP d 8 56 [l0, l1, l2, l3, l4] st h Q)) := wp_icmp_ne (show (lcode 8)[55]? = some (.if_icmp .ne 58) by decide +kernel)
theorem x8_56 : WP d 8 56 [l0, l1, l2, l3, l4] st h Q ↔ WP d 8 57 [l0, l1, l2, l3, l4] (vI (-1) :: st) h Q := wp_iconst (show (lcode 8)[56]? = some (.iconst (-1)) by decide +kernel)
theorem x8_57 : WP d 8 57 [l0, l1, l2, l3, l4] st h Q ↔ WP d 8 67 [l0, l1, l2, l3, l4] st h Q := wp_goto (show (lcode 8)[57]? = some (.goto 67) by decide +kernel)
theorem x8_58 : WP d 8 58 [some (Value.ref a), l1, l2, l3, l4] st h Q ↔ WP d 8 59 [some (Value.ref a), l1, l2, l3, l4] (Value.ref a :: st) h Q := wp_aload (show (lcode 8)[58]? = some (.aload 0) by decide +kernel) rfl
theorem x8_59 : WP d 8 59 [l0, l1, l2, l3, some (vI x)] st h Q ↔ WP d 8 60 [l0, l1, l2, l3, some (vI x)] (vI x :: st) h Q := wp_iload (show (lcode 8)[59]? = some (.iload 4) by decide +kernel) rfl
theorem x8_60 : WP d 8 60 [some (Value.ref a), l1, l2, l3, l4] st h Q ↔ WP d 8 61 [some (Value.ref a), l1, l2, l3, l4] (Value.ref a :: st) h Q := wp_aload (show (lcode 8)[60]? = some (.aload 0) by decide +kernel) rfl
theorem x8_61 : WP d 8 61 [l0, l1, l2, l3, l4] (.ref a :: st) h Q ↔ gF (hRd h a) 1 0 (fun v => WP d 8 62 [l0, l1, l2, l3, l4] (v :: st) h Q) := wp_getfield (show (lcode 8)[61]? = some (.getfield 64) by decide +kernel)
theorem x8_62 : WP d 8 62 [l0, l1, l2, l3, l4] (.ref a :: st) h Q ↔ gF (hRd h a) 2 6 (fun v => WP d 8 63 [l0, l1, l2, l3, l4] (v :: st) h Q) := wp_getfield (show (lcode 8)[62]? = some (.getfield 134) by decide +kernel)
theorem x8_63 : WP d 8 63 [l0, l1, some (vI x), l3, l4] st h Q ↔ WP d 8 64 [l0, l1, some (vI x), l3, l4] (vI x :: st) h Q := wp_iload (show (lcode 8)[63]? = some (.iload 2) by decide +kernel) rfl
theorem x8_64 : WP d 8 64 [l0, l1, l2, l3, l4] (vI x :: .ref a :: st) h Q ↔ ldA (hRd h a) x (fun v => WP d 8 65 [l0, l1, l2, l3, l4] (v :: st) h Q) := wp_iaload (show (lcode 8)[64]? = some (.iaload) by decide +kernel)
theorem x8_65 : WP d 8 65 [l0, l1, l2, l3, l4] (vI y :: vI x :: st) h Q ↔ WP d 8 66 [l0, l1, l2, l3, l4] (vI (x + y) :: st) h Q := wp_iadd (show (lcode 8)[65]? = some (.iadd) by decide +kernel)
theorem x8_66 : WP d 8 66 [l0, l1, l2, l3, l4] (v1 :: v :: st) h Q ↔ (sh st ∧ CALL d 9 [v, v1] h (fun v h => WP d 8 67 [l0, l1, l2, l3, l4] (v.toList ++ st) h Q)) := wp_call (n := 2) (show (lcode 8)[66]? = some (.invokestatic 9) by decide +kernel) (by decide +kernel) (by simp)
theorem x8_67 : WP d 8 67 [l0, l1, l2, l3, l4] (vI y :: vI x :: .ref a :: st) h Q ↔ stA (hRd h a) a x (vI y) (fun c => WP d 8 68 [l0, l1, l2, l3, l4] st (hWr h a c) Q) := wp_iastore (show (lcode 8)[67]? = some (.iastore) by decide +kernel)
theorem x8_68 : WP d 8 68 [some (Value.ref a), l1, l2, l3, l4] st h Q ↔ WP d 8 69 [some (Value.ref a), l1, l2, l3, l4] (Value.ref a :: st) h Q := wp_aload (show (lcode 8)[68]? = some (.aload 0) by decide +kernel) rfl
theorem x8_69 : WP d 8 69 [l0, l1, l2, l3, l4] (.ref a :: st) h Q ↔ gF (hRd h a) 1 4 (fun v => WP d 8 70 [l0, l1, l2, l3, l4] (v :: st) h Q) := wp_getfield (show (lcode 8)[69]? = some (.getfield 68) by decide +kernel)
theorem x8_70 : WP d 8 70 [l0, l1, l2, some (vI x), l4] st h Q ↔ WP d 8 71 [l0, l1, l2, some (vI x), l4] (vI x :: st) h Q := wp_iload (show (lcode 8)[70]? = some (.iload 3) by decide +kernel) rfl
theorem x8_71 : WP d 8 71 [l0, l1, l2, l3, l4] (v1 :: v :: st) h Q ↔ (sh st ∧ CALL d 106 [v, v1] h (fun v h => WP d 8 72 [l0, l1, l2, l3, l4] (v.toList ++ st) h Q)) := wp_call (n := 2) (show (lcode 8)[71]? = some (.invokestatic 106) by decide +kernel) (by decide +kernel) (by simp)
theorem x8_72 : WP d 8 72 [l0, l1, l2, l3, l4] (vI x :: st) h Q ↔ ((wr x = 0 → WP d 8 81 [l0, l1, l2, l3, l4] st h Q) ∧ (¬ (wr x = 0) → WP d 8 73 [l0, l1, l2, l3, l4] st h Q)) := wp_if_eq (show (lcode 8)[72]? = some (.ifCond .eq 81) by decide +kernel)
theorem x8_73 : WP d 8 73 [some (Value.ref a), l1, l2, l3, l4] st h Q ↔ WP d 8 74 [some (Value.ref a), l1, l2, l3, l4] (Value.ref a :: st) h Q := wp_aload (show (lcode 8)[73]? = some (.aload 0) by decide +kernel) rfl
theorem x8_74 : WP d 8 74 [l0, l1, l2, l3, l4] (.ref a :: st) h Q ↔ gF (hRd h a) 1 4 (fun v => WP d 8 75 [l0, l1, l2, l3, l4] (v :: st) h Q) := wp_getfield (show (lcode 8)[74]? = some (.getfield 68) by decide +kernel)
theorem x8_75 : WP d 8 75 [l0, l1, l2, some (vI x), l4] st h Q ↔ WP d 8 76 [l0, l1, l2, some (vI x), l4] (vI x :: st) h Q := wp_iload (show (lcode 8)[75]? = some (.iload 3) by decide +kernel) rfl
theorem x8_76 : WP d 8 76 [some (Value.ref a), l1, l2, l3, l4] st h Q ↔ WP d 8 77 [some (Value.ref a), l1, l2, l3, l4] (Value.ref a :: st) h Q := wp_aload (show (lcode 8)[76]? = some (.aload 0) by decide +kernel) rfl
theorem x8_77 : WP d 8 77 [l0, l1, l2, l3, l4] (.ref a :: st) h Q ↔ gF (hRd h a) 1 3 (fun v => WP d 8 78 [l0, l1, l2, l3, l4] (v :: st) h Q) := wp_getfield (show (lcode 8)[77]? = some (.getfield 67) by decide +kernel)
theorem x8_78 : WP d 8 78 [l0, l1, some (vI x), l3, l4] st h Q ↔ WP d 8 79 [l0, l1, some (vI x), l3, l4] (vI x :: st) h Q := wp_iload (show (lcode 8)[78]? = some (.iload 2) by decide +kernel) rfl
theorem x8_79 : WP d 8 79 [l0, l1, l2, l3, l4] (vI x :: .ref a :: st) h Q ↔ ldA (hRd h a) x (fun v => WP d 8 80 [l0, l1, l2, l3, l4] (v :: st) h Q) := wp_iaload (show (lcode 8)[79]? = some (.iaload) by decide +kernel)
theorem x8_80 : WP d 8 80 [l0, l1, l2, l3, l4] (vI y :: vI x :: .ref a :: st) h Q ↔ stA (hRd h a) a x (vI y) (fun c => WP d 8 81 [l0, l1, l2, l3, l4] st (hWr h a c) Q) := wp_iastore (show (lcode 8)[80]? = some (.iastore) by decide +kernel)
theorem x8_81 : WP d 8 81 [some (Value.ref a), l1, l2, l3, l4] st h Q ↔ WP d 8 82 [some (Value.ref a), l1, l2, l3, l4] (Value.ref a :: st) h Q := wp_aload (show (lcode 8)[81]? = some (.aload 0) by decide +kernel) rfl
theorem x8_82 : WP d 8 82 [l0, l1, l2, l3, l4] (.ref a :: st) h Q ↔ gF (hRd h a) 1 3 (fun v => WP d 8 83 [l0, l1, l2, l3, l4] (v :: st) h Q) := wp_getfield (show (lcode 8)[82]? = some (.getfield 67) by decide +kernel)
theorem x8_83 : WP d 8 83 [l0, l1, some (vI x), l3, l4] st h Q ↔ WP d 8 84 [l0, l1, some (vI x), l3, l4] (vI x :: st) h Q := wp_iload (show (lcode 8)[83]? = some (.iload 2) by decide +kernel) rfl
theorem x8_84 : WP d 8 84 [l0, l1, l2, l3, l4] (vI x :: .ref a :: st) h Q ↔ ldA (hRd h a) x (fun v => WP d 8 85 [l0, l1, l2, l3, l4] (v :: st) h Q) := wp_iaload (show (lcode 8)[84]? = some (.iaload) by decide +kernel)
theorem x8_85 : WP d 8 85 [l0, l1, l2, l3, l4] st h Q ↔ WP d 8 86 [l0, l1, l2, l3, l4] (vI (-1) :: st) h Q := wp_iconst (show (lcode 8)[85]? = some (.iconst (-1)) by decide +kernel)
theorem x8_86 : WP d 8 86 [l0, l1, l2, l3, l4] (vI y :: vI x :: st) h Q ↔ ((wr x = wr y → WP d 8 88 [l0, l1, l2, l3, l4] st h Q) ∧ (¬ (wr x = wr y) → WP d 8 87 [l0, l1, l2, l3, l4] st h Q)) := wp_icmp_eq (show (lcode 8)[86]? = some (.if_icmp .eq 88) by decide +kernel)
theorem x8_87 : WP d 8 87 [l0, some (vI x), l2, l3, l4] st h Q ↔ (nl l0 ∧ WP d 8 88 [l0, some (vI (x + 1)), l2, l3, l4] st h Q) := wp_iinc (show (lcode 8)[87]? = some (.iinc 1 1) by decide +kernel) rfl (Nat.le_of_ble_eq_true rfl)
theorem x8_88 : WP d 8 88 [l0, l1, some (vI x), l3, l4] st h Q ↔ (nl l1 ∧ WP d 8 89 [l0, l1, some (vI (x + 1)), l3, l4] st h Q) := wp_iinc (show (lcode 8)[88]? = some (.iinc 2 1) by decide +kernel) rfl (Nat.le_of_ble_eq_true rfl)
theorem x8_89 : WP d 8 89 [l0, l1, l2, l3, l4] st h Q ↔ WP d 8 12 [l0, l1, l2, l3, l4] st h Q := wp_goto (show (lcode 8)[89]? = some (.goto 12) by decide +kernel)
theorem x8_90 : WP d 8 90 [l0, some (vI x), l2, l3, l4] st h Q ↔ WP d 8 91 [l0, some (vI x), l2, l3, l4] (vI x :: st) h Q := wp_iload (show (lcode 8)[90]? = some (.iload 1) by decide +kernel) rfl
theorem x8_91 : WP d 8 91 [l0, l1, l2, l3, l4] [vI x] h Q ↔ Q (some (vI x)) h := wp_ireturn (show (lcode 8)[91]? = some (.ireturn) by decide +kernel)
-- 9: WakeOrder$Capital.inMorning
theorem x9_0 : WP d 9 0 [l0, some (vI x)] st h Q ↔ WP d 9 1 [l0, some (vI x)] (vI x :: st) h Q := wp_iload (show (lcode 9)[0]? = some (.iload 1) by decide +kernel) rfl
theorem x9_1 : WP d 9 1 [some (Value.ref a), l1] st h Q ↔ WP d 9 2 [some (Value.ref a), l1] (Value.ref a :: st) h Q := wp_aload (show (lcode 9)[1]? = some (.aload 0) by decide +kernel) rfl
theorem x9_2 : WP d 9 2 [l0, l1] (.ref a :: st) h Q ↔ gF (hRd h a) 1 0 (fun v => WP d 9 3 [l0, l1] (v :: st) h Q) := wp_getfield (show (lcode 9)[2]? = some (.getfield 64) by decide +kernel)
theorem x9_3 : WP d 9 3 [l0, l1] (.ref a :: st) h Q ↔ gF (hRd h a) 2 0 (fun v => WP d 9 4 [l0, l1] (v :: st) h Q) := wp_getfield (show (lcode 9)[3]? = some (.getfield 128) by decide +kernel)
theorem x9_4 : WP d 9 4 [l0, l1] (vI y :: vI x :: st) h Q ↔ ((wr y ≤ wr x → WP d 9 7 [l0, l1] st h Q) ∧ (¬ (wr y ≤ wr x) → WP d 9 5 [l0, l1] st h Q)) := wp_icmp_ge (show (lcode 9)[4]? = some (.if_icmp .ge 7) by decide +kernel)
theorem x9_5 : WP d 9 5 [l0, some (vI x)] st h Q ↔ WP d 9 6 [l0, some (vI x)] (vI x :: st) h Q := wp_iload (show (lcode 9)[5]? = some (.iload 1) by decide +kernel) rfl
theorem x9_6 : WP d 9 6 [l0, l1] st h Q ↔ WP d 9 8 [l0, l1] st h Q := wp_goto (show (lcode 9)[6]? = some (.goto 8) by decide +kernel)
theorem x9_7 : WP d 9 7 [l0, l1] st h Q ↔ WP d 9 8 [l0, l1] (vI (-1) :: st) h Q := wp_iconst (show (lcode 9)[7]? = some (.iconst (-1)) by decide +kernel)
theorem x9_8 : WP d 9 8 [l0, l1] [vI x] h Q ↔ Q (some (vI x)) h := wp_ireturn (show (lcode 9)[8]? = some (.ireturn) by decide +kernel)
-- 10: WakeOrder$Capital.orMorningsEnd
theorem x10_0 : WP d 10 0 [l0, some (vI x)] st h Q ↔ WP d 10 1 [l0, some (vI x)] (vI x :: st) h Q := wp_iload (show (lcode 10)[0]? = some (.iload 1) by decide +kernel) rfl
theorem x10_1 : WP d 10 1 [l0, l1] st h Q ↔ WP d 10 2 [l0, l1] (vI (-1) :: st) h Q := wp_iconst (show (lcode 10)[1]? = some (.iconst (-1)) by decide +kernel)
theorem x10_2 : WP d 10 2 [l0, l1] (vI y :: vI x :: st) h Q ↔ ((¬ wr x = wr y → WP d 10 7 [l0, l1] st h Q) ∧ (¬ (¬ wr x = wr y) → WP d 10 3 [l0, l1] st h Q)) := wp_icmp_ne (show (lcode 10)[2]? = some (.if_icmp .ne 7) by decide +kernel)
theorem x10_3 : WP d 10 3 [some (Value.ref a), l1] st h Q ↔ WP d 10 4 [some (Value.ref a), l1] (Value.ref a :: st) h Q := wp_aload (show (lcode 10)[3]? = some (.aload 0) by decide +kernel) rfl
theorem x10_4 : WP d 10 4 [l0, l1] (.ref a :: st) h Q ↔ gF (hRd h a) 1 0 (fun v => WP d 10 5 [l0, l1] (v :: st) h Q) := wp_getfield (show (lcode 10)[4]? = some (.getfield 64) by decide +kernel)
theorem x10_5 : WP d 10 5 [l0, l1] (.ref a :: st) h Q ↔ gF (hRd h a) 2 0 (fun v => WP d 10 6 [l0, l1] (v :: st) h Q) := wp_getfield (show (lcode 10)[5]? = some (.getfield 128) by decide +kernel)
theorem x10_6 : WP d 10 6 [l0, l1] st h Q ↔ WP d 10 8 [l0, l1] st h Q := wp_goto (show (lcode 10)[6]? = some (.goto 8) by decide +kernel)
theorem x10_7 : WP d 10 7 [l0, some (vI x)] st h Q ↔ WP d 10 8 [l0, some (vI x)] (vI x :: st) h Q := wp_iload (show (lcode 10)[7]? = some (.iload 1) by decide +kernel) rfl
theorem x10_8 : WP d 10 8 [l0, l1] [vI x] h Q ↔ Q (some (vI x)) h := wp_ireturn (show (lcode 10)[8]? = some (.ireturn) by decide +kernel)
-- 11: WakeOrder$Capital.stuckIn
theorem x11_0 : WP d 11 0 [l0, l1, l2, l3, l4] st h Q ↔ WP d 11 1 [l0, l1, l2, l3, l4] (vI 0 :: st) h Q := wp_iconst (show (lcode 11)[0]? = some (.iconst 0) by decide +kernel)
theorem x11_1 : WP d 11 1 [l0, l1, l2, l3, l4] (vI x :: st) h Q ↔ (nl l1 ∧ WP d 11 2 [l0, l1, some (vI x), l3, l4] st h Q) := wp_istore (show (lcode 11)[1]? = some (.istore 2) by decide +kernel) (Nat.le_of_ble_eq_true rfl)
theorem x11_2 : WP d 11 2 [l0, l1, l2, l3, l4] st h Q ↔ WP d 11 3 [l0, l1, l2, l3, l4] (vI 0 :: st) h Q := wp_iconst (show (lcode 11)[2]? = some (.iconst 0) by decide +kernel)
theorem x11_3 : WP d 11 3 [l0, l1, l2, l3, l4] (vI x :: st) h Q ↔ (nl l2 ∧ WP d 11 4 [l0, l1, l2, some (vI x), l4] st h Q) := wp_istore (show (lcode 11)[3]? = some (.istore 3) by decide +kernel) (Nat.le_of_ble_eq_true rfl)
theorem x11_4 : WP d 11 4 [l0, l1, l2, l3, l4] st h Q ↔ WPC d 11 5 [l0, l1, l2, l3, l4] st h Q := wp_nop (show (lcode 11)[4]? = some (.nop) by decide +kernel)
theorem x11_5 : WP d 11 5 [l0, l1, l2, some (vI x), l4] st h Q ↔ WP d 11 6 [l0, l1, l2, some (vI x), l4] (vI x :: st) h Q := wp_iload (show (lcode 11)[5]? = some (.iload 3) by decide +kernel) rfl
theorem x11_6 : WP d 11 6 [l0, some (Value.ref a), l2, l3, l4] st h Q ↔ WP d 11 7 [l0, some (Value.ref a), l2, l3, l4] (Value.ref a :: st) h Q := wp_aload (show (lcode 11)[6]? = some (.aload 1) by decide +kernel) rfl
theorem x11_7 : WP d 11 7 [l0, l1, l2, l3, l4] (.ref a :: st) h Q ↔ gF (hRd h a) 6 1 (fun v => WP d 11 8 [l0, l1, l2, l3, l4] (v :: st) h Q) := wp_getfield (show (lcode 11)[7]? = some (.getfield 385) by decide +kernel)
theorem x11_8 : WP d 11 8 [l0, l1, l2, l3, l4] (vI y :: vI x :: st) h Q ↔ ((wr y ≤ wr x → WP d 11 27 [l0, l1, l2, l3, l4] st h Q) ∧ (¬ (wr y ≤ wr x) → WP d 11 9 [l0, l1, l2, l3, l4] st h Q)) := wp_icmp_ge (show (lcode 11)[8]? = some (.if_icmp .ge 27) by decide +kernel)
theorem x11_9 : WP d 11 9 [l0, some (Value.ref a), l2, l3, l4] st h Q ↔ WP d 11 10 [l0, some (Value.ref a), l2, l3, l4] (Value.ref a :: st) h Q := wp_aload (show (lcode 11)[9]? = some (.aload 1) by decide +kernel) rfl
theorem x11_10 : WP d 11 10 [l0, l1, l2, some (vI x), l4] st h Q ↔ WP d 11 11 [l0, l1, l2, some (vI x), l4] (vI x :: st) h Q := wp_iload (show (lcode 11)[10]? = some (.iload 3) by decide +kernel) rfl
theorem x11_11 : WP d 11 11 [l0, l1, l2, l3, l4] (v1 :: v :: st) h Q ↔ (sh st ∧ CALL d 44 [v, v1] h (fun v h => WP d 11 12 [l0, l1, l2, l3, l4] (v.toList ++ st) h Q)) := wp_call (n := 2) (show (lcode 11)[11]? = some (.invokestatic 44) by decide +kernel) (by decide +kernel) (by simp)
theorem x11_12 : WP d 11 12 [l0, l1, l2, l3, l4] (vI x :: st) h Q ↔ (nl l3 ∧ WP d 11 13 [l0, l1, l2, l3, some (vI x)] st h Q) := wp_istore (show (lcode 11)[12]? = some (.istore 4) by decide +kernel) (Nat.le_of_ble_eq_true rfl)
theorem x11_13 : WP d 11 13 [some (Value.ref a), l1, l2, l3, l4] st h Q ↔ WP d 11 14 [some (Value.ref a), l1, l2, l3, l4] (Value.ref a :: st) h Q := wp_aload (show (lcode 11)[13]? = some (.aload 0) by decide +kernel) rfl
theorem x11_14 : WP d 11 14 [l0, l1, l2, l3, l4] (.ref a :: st) h Q ↔ gF (hRd h a) 1 2 (fun v => WP d 11 15 [l0, l1, l2, l3, l4] (v :: st) h Q) := wp_getfield (show (lcode 11)[14]? = some (.getfield 66) by decide +kernel)
theorem x11_15 : WP d 11 15 [l0, l1, l2, l3, some (vI x)] st h Q ↔ WP d 11 16 [l0, l1, l2, l3, some (vI x)] (vI x :: st) h Q := wp_iload (show (lcode 11)[15]? = some (.iload 4) by decide +kernel) rfl
theorem x11_16 : WP d 11 16 [l0, l1, l2, l3, l4] (v1 :: v :: st) h Q ↔ (sh st ∧ CALL d 107 [v, v1] h (fun v h => WP d 11 17 [l0, l1, l2, l3, l4] (v.toList ++ st) h Q)) := wp_call (n := 2) (show (lcode 11)[16]? = some (.invokestatic 107) by decide +kernel) (by decide +kernel) (by simp)
theorem x11_17 : WP d 11 17 [l0, l1, l2, l3, l4] st h Q ↔ WP d 11 18 [l0, l1, l2, l3, l4] (vI (-1) :: st) h Q := wp_iconst (show (lcode 11)[17]? = some (.iconst (-1)) by decide +kernel)
theorem x11_18 : WP d 11 18 [l0, l1, l2, l3, l4] (vI y :: vI x :: st) h Q ↔ ((¬ wr x = wr y → WP d 11 25 [l0, l1, l2, l3, l4] st h Q) ∧ (¬ (¬ wr x = wr y) → WP d 11 19 [l0, l1, l2, l3, l4] st h Q)) := wp_icmp_ne (show (lcode 11)[18]? = some (.if_icmp .ne 25) by decide +kernel)
theorem x11_19 : WP d 11 19 [l0, l1, some (vI x), l3, l4] st h Q ↔ WP d 11 20 [l0, l1, some (vI x), l3, l4] (vI x :: st) h Q := wp_iload (show (lcode 11)[19]? = some (.iload 2) by decide +kernel) rfl
theorem x11_20 : WP d 11 20 [l0, l1, l2, l3, l4] st h Q ↔ WP d 11 21 [l0, l1, l2, l3, l4] (vI 1 :: st) h Q := wp_iconst (show (lcode 11)[20]? = some (.iconst 1) by decide +kernel)
theorem x11_21 : WP d 11 21 [l0, l1, l2, l3, some (vI x)] st h Q ↔ WP d 11 22 [l0, l1, l2, l3, some (vI x)] (vI x :: st) h Q := wp_iload (show (lcode 11)[21]? = some (.iload 4) by decide +kernel) rfl
theorem x11_22 : WP d 11 22 [l0, l1, l2, l3, l4] (vI y :: vI x :: st) h Q ↔ WP d 11 23 [l0, l1, l2, l3, l4] (vI (zshl x y) :: st) h Q := wp_ishl (show (lcode 11)[22]? = some (.ishl) by decide +kernel)
theorem x11_23 : WP d 11 23 [l0, l1, l2, l3, l4] (vI y :: vI x :: st) h Q ↔ WP d 11 24 [l0, l1, l2, l3, l4] (vI (zor x y) :: st) h Q := wp_ior (show (lcode 11)[23]? = some (.ior) by decide +kernel)
theorem x11_24 : WP d 11 24 [l0, l1, l2, l3, l4] (vI x :: st) h Q ↔ (nl l1 ∧ WP d 11 25 [l0, l1, some (vI x), l3, l4] st h Q) := wp_istore (show (lcode 11)[24]? = some (.istore 2) by decide +kernel) (Nat.le_of_ble_eq_true rfl)
theorem x11_25 : WP d 11 25 [l0, l1, l2, some (vI x), l4] st h Q ↔ (nl l2 ∧ WP d 11 26 [l0, l1, l2, some (vI (x + 1)), l4] st h Q) := wp_iinc (show (lcode 11)[25]? = some (.iinc 3 1) by decide +kernel) rfl (Nat.le_of_ble_eq_true rfl)
theorem x11_26 : WP d 11 26 [l0, l1, l2, l3, l4] st h Q ↔ WP d 11 4 [l0, l1, l2, l3, l4] st h Q := wp_goto (show (lcode 11)[26]? = some (.goto 4) by decide +kernel)
theorem x11_27 : WP d 11 27 [l0, l1, some (vI x), l3, l4] st h Q ↔ WP d 11 28 [l0, l1, some (vI x), l3, l4] (vI x :: st) h Q := wp_iload (show (lcode 11)[27]? = some (.iload 2) by decide +kernel) rfl
theorem x11_28 : WP d 11 28 [l0, l1, l2, l3, l4] [vI x] h Q ↔ Q (some (vI x)) h := wp_ireturn (show (lcode 11)[28]? = some (.ireturn) by decide +kernel)
-- 12: WakeOrder$Capital.undoneJobs
theorem x12_0 : WP d 12 0 [l0, l1, l2] st h Q ↔ WP d 12 1 [l0, l1, l2] (vI 0 :: st) h Q := wp_iconst (show (lcode 12)[0]? = some (.iconst 0) by decide +kernel)
theorem x12_1 : WP d 12 1 [l0, l1, l2] (vI x :: st) h Q ↔ (nl l0 ∧ WP d 12 2 [l0, some (vI x), l2] st h Q) := wp_istore (show (lcode 12)[1]? = some (.istore 1) by decide +kernel) (Nat.le_of_ble_eq_true rfl)
theorem x12_2 : WP d 12 2 [l0, l1, l2] st h Q ↔ WP d 12 3 [l0, l1, l2] (vI 0 :: st) h Q := wp_iconst (show (lcode 12)[2]? = some (.iconst 0) by decide +kernel)
theorem x12_3 : WP d 12 3 [l0, l1, l2] (vI x :: st) h Q ↔ (nl l1 ∧ WP d 12 4 [l0, l1, some (vI x)] st h Q) := wp_istore (show (lcode 12)[3]? = some (.istore 2) by decide +kernel) (Nat.le_of_ble_eq_true rfl)
theorem x12_4 : WP d 12 4 [l0, l1, l2] st h Q ↔ WPC d 12 5 [l0, l1, l2] st h Q := wp_nop (show (lcode 12)[4]? = some (.nop) by decide +kernel)
theorem x12_5 : WP d 12 5 [l0, l1, some (vI x)] st h Q ↔ WP d 12 6 [l0, l1, some (vI x)] (vI x :: st) h Q := wp_iload (show (lcode 12)[5]? = some (.iload 2) by decide +kernel) rfl
theorem x12_6 : WP d 12 6 [l0, l1, l2] st h Q ↔ WP d 12 7 [l0, l1, l2] (vI 8 :: st) h Q := wp_iconst (show (lcode 12)[6]? = some (.iconst 8) by decide +kernel)
theorem x12_7 : WP d 12 7 [l0, l1, l2] (vI y :: vI x :: st) h Q ↔ ((wr y ≤ wr x → WP d 12 27 [l0, l1, l2] st h Q) ∧ (¬ (wr y ≤ wr x) → WP d 12 8 [l0, l1, l2] st h Q)) := wp_icmp_ge (show (lcode 12)[7]? = some (.if_icmp .ge 27) by decide +kernel)
theorem x12_8 : WP d 12 8 [l0, l1, some (vI x)] st h Q ↔ WP d 12 9 [l0, l1, some (vI x)] (vI x :: st) h Q := wp_iload (show (lcode 12)[8]? = some (.iload 2) by decide +kernel) rfl
theorem x12_9 : WP d 12 9 [some (Value.ref a), l1, l2] st h Q ↔ WP d 12 10 [some (Value.ref a), l1, l2] (Value.ref a :: st) h Q := wp_aload (show (lcode 12)[9]? = some (.aload 0) by decide +kernel) rfl
theorem x12_10 : WP d 12 10 [l0, l1, l2] (.ref a :: st) h Q ↔ gF (hRd h a) 1 0 (fun v => WP d 12 11 [l0, l1, l2] (v :: st) h Q) := wp_getfield (show (lcode 12)[10]? = some (.getfield 64) by decide +kernel)
theorem x12_11 : WP d 12 11 [l0, l1, l2] (.ref a :: st) h Q ↔ gF (hRd h a) 2 2 (fun v => WP d 12 12 [l0, l1, l2] (v :: st) h Q) := wp_getfield (show (lcode 12)[11]? = some (.getfield 130) by decide +kernel)
theorem x12_12 : WP d 12 12 [l0, l1, l2] (vI y :: vI x :: st) h Q ↔ ((wr y ≤ wr x → WP d 12 27 [l0, l1, l2] st h Q) ∧ (¬ (wr y ≤ wr x) → WP d 12 13 [l0, l1, l2] st h Q)) := wp_icmp_ge (show (lcode 12)[12]? = some (.if_icmp .ge 27) by decide +kernel)
theorem x12_13 : WP d 12 13 [some (Value.ref a), l1, l2] st h Q ↔ WP d 12 14 [some (Value.ref a), l1, l2] (Value.ref a :: st) h Q := wp_aload (show (lcode 12)[13]? = some (.aload 0) by decide +kernel) rfl
theorem x12_14 : WP d 12 14 [l0, l1, l2] (.ref a :: st) h Q ↔ gF (hRd h a) 1 3 (fun v => WP d 12 15 [l0, l1, l2] (v :: st) h Q) := wp_getfield (show (lcode 12)[14]? = some (.getfield 67) by decide +kernel)
theorem x12_15 : WP d 12 15 [l0, l1, some (vI x)] st h Q ↔ WP d 12 16 [l0, l1, some (vI x)] (vI x :: st) h Q := wp_iload (show (lcode 12)[15]? = some (.iload 2) by decide +kernel) rfl
theorem x12_16 : WP d 12 16 [l0, l1, l2] (vI x :: .ref a :: st) h Q ↔ ldA (hRd h a) x (fun v => WP d 12 17 [l0, l1, l2] (v :: st) h Q) := wp_iaload (show (lcode 12)[16]? = some (.iaload) by decide +kernel)
theorem x12_17 : WP d 12 17 [l0, l1, l2] st h Q ↔ WP d 12 18 [l0, l1, l2] (vI (-1) :: st) h Q := wp_iconst (show (lcode 12)[17]? = some (.iconst (-1)) by decide +kernel)
theorem x12_18 : WP d 12 18 [l0, l1, l2] (vI y :: vI x :: st) h Q ↔ ((¬ wr x = wr y → WP d 12 25 [l0, l1, l2] st h Q) ∧ (¬ (¬ wr x = wr y) → WP d 12 19 [l0, l1, l2] st h Q)) := wp_icmp_ne (show (lcode 12)[18]? = some (.if_icmp .ne 25) by decide +kernel)
theorem x12_19 : WP d 12 19 [l0, some (vI x), l2] st h Q ↔ WP d 12 20 [l0, some (vI x), l2] (vI x :: st) h Q := wp_iload (show (lcode 12)[19]? = some (.iload 1) by decide +kernel) rfl
theorem x12_20 : WP d 12 20 [l0, l1, l2] st h Q ↔ WP d 12 21 [l0, l1, l2] (vI 1 :: st) h Q := wp_iconst (show (lcode 12)[20]? = some (.iconst 1) by decide +kernel)
theorem x12_21 : WP d 12 21 [l0, l1, some (vI x)] st h Q ↔ WP d 12 22 [l0, l1, some (vI x)] (vI x :: st) h Q := wp_iload (show (lcode 12)[21]? = some (.iload 2) by decide +kernel) rfl
theorem x12_22 : WP d 12 22 [l0, l1, l2] (vI y :: vI x :: st) h Q ↔ WP d 12 23 [l0, l1, l2] (vI (zshl x y) :: st) h Q := wp_ishl (show (lcode 12)[22]? = some (.ishl) by decide +kernel)
theorem x12_23 : WP d 12 23 [l0, l1, l2] (vI y :: vI x :: st) h Q ↔ WP d 12 24 [l0, l1, l2] (vI (zor x y) :: st) h Q := wp_ior (show (lcode 12)[23]? = some (.ior) by decide +kernel)
theorem x12_24 : WP d 12 24 [l0, l1, l2] (vI x :: st) h Q ↔ (nl l0 ∧ WP d 12 25 [l0, some (vI x), l2] st h Q) := wp_istore (show (lcode 12)[24]? = some (.istore 1) by decide +kernel) (Nat.le_of_ble_eq_true rfl)
theorem x12_25 : WP d 12 25 [l0, l1, some (vI x)] st h Q ↔ (nl l1 ∧ WP d 12 26 [l0, l1, some (vI (x + 1))] st h Q) := wp_iinc (show (lcode 12)[25]? = some (.iinc 2 1) by decide +kernel) rfl (Nat.le_of_ble_eq_true rfl)
theorem x12_26 : WP d 12 26 [l0, l1, l2] st h Q ↔ WP d 12 4 [l0, l1, l2] st h Q := wp_goto (show (lcode 12)[26]? = some (.goto 4) by decide +kernel)
theorem x12_27 : WP d 12 27 [l0, some (vI x), l2] st h Q ↔ WP d 12 28 [l0, some (vI x), l2] (vI x :: st) h Q := wp_iload (show (lcode 12)[27]? = some (.iload 1) by decide +kernel) rfl
theorem x12_28 : WP d 12 28 [l0, l1, l2] [vI x] h Q ↔ Q (some (vI x)) h := wp_ireturn (show (lcode 12)[28]? = some (.ireturn) by decide +kernel)
-- 13: WakeOrder$Capital.isEarlier
theorem x13_0 : WP d 13 0 [some (Value.ref a), l1, l2, l3, l4] st h Q ↔ WP d 13 1 [some (Value.ref a), l1, l2, l3, l4] (Value.ref a :: st) h Q := wp_aload (show (lcode 13)[0]? = some (.aload 0) by decide +kernel) rfl
theorem x13_1 : WP d 13 1 [l0, l1, l2, l3, l4] (.ref a :: st) h Q ↔ gF (hRd h a) 1 2 (fun v => WP d 13 2 [l0, l1, l2, l3, l4] (v :: st) h Q) := wp_getfield (show (lcode 13)[1]? = some (.getfield 66) by decide +kernel)
theorem x13_2 : WP d 13 2 [l0, some (vI x), l2, l3, l4] st h Q ↔ WP d 13 3 [l0, some (vI x), l2, l3, l4] (vI x :: st) h Q := wp_iload (show (lcode 13)[2]? = some (.iload 1) by decide +kernel) rfl
theorem x13_3 : WP d 13 3 [l0, l1, l2, l3, l4] (v1 :: v :: st) h Q ↔ (sh st ∧ CALL d 107 [v, v1] h (fun v h => WP d 13 4 [l0, l1, l2, l3, l4] (v.toList ++ st) h Q)) := wp_call (n := 2) (show (lcode 13)[3]? = some (.invokestatic 107) by decide +kernel) (by decide +kernel) (by simp)
theorem x13_4 : WP d 13 4 [l0, l1, l2, l3, l4] (vI x :: st) h Q ↔ (nl l2 ∧ WP d 13 5 [l0, l1, l2, some (vI x), l4] st h Q) := wp_istore (show (lcode 13)[4]? = some (.istore 3) by decide +kernel) (Nat.le_of_ble_eq_true rfl)
theorem x13_5 : WP d 13 5 [some (Value.ref a), l1, l2, l3, l4] st h Q ↔ WP d 13 6 [some (Value.ref a), l1, l2, l3, l4] (Value.ref a :: st) h Q := wp_aload (show (lcode 13)[5]? = some (.aload 0) by decide +kernel) rfl
theorem x13_6 : WP d 13 6 [l0, l1, l2, l3, l4] (.ref a :: st) h Q ↔ gF (hRd h a) 1 2 (fun v => WP d 13 7 [l0, l1, l2, l3, l4] (v :: st) h Q) := wp_getfield (show (lcode 13)[6]? = some (.getfield 66) by decide +kernel)
theorem x13_7 : WP d 13 7 [l0, l1, some (vI x), l3, l4] st h Q ↔ WP d 13 8 [l0, l1, some (vI x), l3, l4] (vI x :: st) h Q := wp_iload (show (lcode 13)[7]? = some (.iload 2) by decide +kernel) rfl
theorem x13_8 : WP d 13 8 [l0, l1, l2, l3, l4] (v1 :: v :: st) h Q ↔ (sh st ∧ CALL d 107 [v, v1] h (fun v h => WP d 13 9 [l0, l1, l2, l3, l4] (v.toList ++ st) h Q)) := wp_call (n := 2) (show (lcode 13)[8]? = some (.invokestatic 107) by decide +kernel) (by decide +kernel) (by simp)
theorem x13_9 : WP d 13 9 [l0, l1, l2, l3, l4] (vI x :: st) h Q ↔ (nl l3 ∧ WP d 13 10 [l0, l1, l2, l3, some (vI x)] st h Q) := wp_istore (show (lcode 13)[9]? = some (.istore 4) by decide +kernel) (Nat.le_of_ble_eq_true rfl)
theorem x13_10 : WP d 13 10 [l0, l1, l2, some (vI x), l4] st h Q ↔ WP d 13 11 [l0, l1, l2, some (vI x), l4] (vI x :: st) h Q := wp_iload (show (lcode 13)[10]? = some (.iload 3) by decide +kernel) rfl
theorem x13_11 : WP d 13 11 [l0, l1, l2, l3, l4] st h Q ↔ WP d 13 12 [l0, l1, l2, l3, l4] (vI (-1) :: st) h Q := wp_iconst (show (lcode 13)[11]? = some (.iconst (-1)) by decide +kernel)
theorem x13_12 : WP d 13 12 [l0, l1, l2, l3, l4] (vI y :: vI x :: st) h Q ↔ ((wr x = wr y → WP d 13 21 [l0, l1, l2, l3, l4] st h Q) ∧ (¬ (wr x = wr y) → WP d 13 13 [l0, l1, l2, l3, l4] st h Q)) := wp_icmp_eq (show (lcode 13)[12]? = some (.if_icmp .eq 21) by decide +kernel)
theorem x13_13 : WP d 13 13 [l0, l1, l2, l3, some (vI x)] st h Q ↔ WP d 13 14 [l0, l1, l2, l3, some (vI x)] (vI x :: st) h Q := wp_iload (show (lcode 13)[13]? = some (.iload 4) by decide +kernel) rfl
theorem x13_14 : WP d 13 14 [l0, l1, l2, l3, l4] st h Q ↔ WP d 13 15 [l0, l1, l2, l3, l4] (vI (-1) :: st) h Q := wp_iconst (show (lcode 13)[14]? = some (.iconst (-1)) by decide +kernel)
theorem x13_15 : WP d 13 15 [l0, l1, l2, l3, l4] (vI y :: vI x :: st) h Q ↔ ((wr x = wr y → WP d 13 19 [l0, l1, l2, l3, l4] st h Q) ∧ (¬ (wr x = wr y) → WP d 13 16 [l0, l1, l2, l3, l4] st h Q)) := wp_icmp_eq (show (lcode 13)[15]? = some (.if_icmp .eq 19) by decide +kernel)
theorem x13_16 : WP d 13 16 [l0, l1, l2, some (vI x), l4] st h Q ↔ WP d 13 17 [l0, l1, l2, some (vI x), l4] (vI x :: st) h Q := wp_iload (show (lcode 13)[16]? = some (.iload 3) by decide +kernel) rfl
theorem x13_17 : WP d 13 17 [l0, l1, l2, l3, some (vI x)] st h Q ↔ WP d 13 18 [l0, l1, l2, l3, some (vI x)] (vI x :: st) h Q := wp_iload (show (lcode 13)[17]? = some (.iload 4) by decide +kernel) rfl
theorem x13_18 : WP d 13 18 [l0, l1, l2, l3, l4] (vI y :: vI x :: st) h Q ↔ ((wr y ≤ wr x → WP d 13 21 [l0, l1, l2, l3, l4] st h Q) ∧ (¬ (wr y ≤ wr x) → WP d 13 19 [l0, l1, l2, l3, l4] st h Q)) := wp_icmp_ge (show (lcode 13)[18]? = some (.if_icmp .ge 21) by decide +kernel)
theorem x13_19 : WP d 13 19 [l0, l1, l2, l3, l4] st h Q ↔ WP d 13 20 [l0, l1, l2, l3, l4] (vI 1 :: st) h Q := wp_iconst (show (lcode 13)[19]? = some (.iconst 1) by decide +kernel)
theorem x13_20 : WP d 13 20 [l0, l1, l2, l3, l4] st h Q ↔ WP d 13 22 [l0, l1, l2, l3, l4] st h Q := wp_goto (show (lcode 13)[20]? = some (.goto 22) by decide +kernel)
theorem x13_21 : WP d 13 21 [l0, l1, l2, l3, l4] st h Q ↔ WP d 13 22 [l0, l1, l2, l3, l4] (vI 0 :: st) h Q := wp_iconst (show (lcode 13)[21]? = some (.iconst 0) by decide +kernel)
theorem x13_22 : WP d 13 22 [l0, l1, l2, l3, l4] [vI x] h Q ↔ ((Int32.ofInt x = 0 ∨ Int32.ofInt x = 1) ∧ Q (some (vI x)) h) := wp_areturn (show (lcode 13)[22]? = some (.areturn) by decide +kernel)
-- 14: WakeOrder$Capital.allDoneBy
theorem x14_0 : WP d 14 0 [l0, l1, l2, l3] st h Q ↔ WP d 14 1 [l0, l1, l2, l3] (vI 0 :: st) h Q := wp_iconst (show (lcode 14)[0]? = some (.iconst 0) by decide +kernel)
theorem x14_1 : WP d 14 1 [l0, l1, l2, l3] (vI x :: st) h Q ↔ (nl l2 ∧ WP d 14 2 [l0, l1, l2, some (vI x)] st h Q) := wp_istore (show (lcode 14)[1]? = some (.istore 3) by decide +kernel) (Nat.le_of_ble_eq_true rfl)
theorem x14_2 : WP d 14 2 [l0, l1, l2, l3] st h Q ↔ WPC d 14 3 [l0, l1, l2, l3] st h Q := wp_nop (show (lcode 14)[2]? = some (.nop) by decide +kernel)
theorem x14_3 : WP d 14 3 [l0, l1, l2, some (vI x)] st h Q ↔ WP d 14 4 [l0, l1, l2, some (vI x)] (vI x :: st) h Q := wp_iload (show (lcode 14)[3]? = some (.iload 3) by decide +kernel) rfl
theorem x14_4 : WP d 14 4 [some (Value.ref a), l1, l2, l3] st h Q ↔ WP d 14 5 [some (Value.ref a), l1, l2, l3] (Value.ref a :: st) h Q := wp_aload (show (lcode 14)[4]? = some (.aload 0) by decide +kernel) rfl
theorem x14_5 : WP d 14 5 [l0, l1, l2, l3] (.ref a :: st) h Q ↔ gF (hRd h a) 1 3 (fun v => WP d 14 6 [l0, l1, l2, l3] (v :: st) h Q) := wp_getfield (show (lcode 14)[5]? = some (.getfield 67) by decide +kernel)
theorem x14_6 : WP d 14 6 [l0, l1, l2, l3] (.ref a :: st) h Q ↔ aL (hRd h a) (fun v => WP d 14 7 [l0, l1, l2, l3] (v :: st) h Q) := wp_arraylength (show (lcode 14)[6]? = some (.arraylength) by decide +kernel)
theorem x14_7 : WP d 14 7 [l0, l1, l2, l3] (vI y :: vI x :: st) h Q ↔ ((wr y ≤ wr x → WP d 14 31 [l0, l1, l2, l3] st h Q) ∧ (¬ (wr y ≤ wr x) → WP d 14 8 [l0, l1, l2, l3] st h Q)) := wp_icmp_ge (show (lcode 14)[7]? = some (.if_icmp .ge 31) by decide +kernel)
theorem x14_8 : WP d 14 8 [l0, some (vI x), l2, l3] st h Q ↔ WP d 14 9 [l0, some (vI x), l2, l3] (vI x :: st) h Q := wp_iload (show (lcode 14)[8]? = some (.iload 1) by decide +kernel) rfl
theorem x14_9 : WP d 14 9 [l0, l1, l2, some (vI x)] st h Q ↔ WP d 14 10 [l0, l1, l2, some (vI x)] (vI x :: st) h Q := wp_iload (show (lcode 14)[9]? = some (.iload 3) by decide +kernel) rfl
theorem x14_10 : WP d 14 10 [l0, l1, l2, l3] (vI y :: vI x :: st) h Q ↔ WP d 14 11 [l0, l1, l2, l3] (vI (zshr x y) :: st) h Q := wp_ishr (show (lcode 14)[10]? = some (.ishr) by decide +kernel)
theorem x14_11 : WP d 14 11 [l0, l1, l2, l3] st h Q ↔ WP d 14 12 [l0, l1, l2, l3] (vI 1 :: st) h Q := wp_iconst (show (lcode 14)[11]? = some (.iconst 1) by decide +kernel)
theorem x14_12 : WP d 14 12 [l0, l1, l2, l3] (vI y :: vI x :: st) h Q ↔ WP d 14 13 [l0, l1, l2, l3] (vI (zand x y) :: st) h Q := wp_iand (show (lcode 14)[12]? = some (.iand) by decide +kernel)
theorem x14_13 : WP d 14 13 [l0, l1, l2, l3] st h Q ↔ WP d 14 14 [l0, l1, l2, l3] (vI 1 :: st) h Q := wp_iconst (show (lcode 14)[13]? = some (.iconst 1) by decide +kernel)
theorem x14_14 : WP d 14 14 [l0, l1, l2, l3] (vI y :: vI x :: st) h Q ↔ ((¬ wr x = wr y → WP d 14 29 [l0, l1, l2, l3] st h Q) ∧ (¬ (¬ wr x = wr y) → WP d 14 15 [l0, l1, l2, l3] st h Q)) := wp_icmp_ne (show (lcode 14)[14]? = some (.if_icmp .ne 29) by decide +kernel)
theorem x14_15 : WP d 14 15 [some (Value.ref a), l1, l2, l3] st h Q ↔ WP d 14 16 [some (Value.ref a), l1, l2, l3] (Value.ref a :: st) h Q := wp_aload (show (lcode 14)[15]? = some (.aload 0) by decide +kernel) rfl
theorem x14_16 : WP d 14 16 [l0, l1, l2, l3] (.ref a :: st) h Q ↔ gF (hRd h a) 1 3 (fun v => WP d 14 17 [l0, l1, l2, l3] (v :: st) h Q) := wp_getfield (show (lcode 14)[16]? = some (.getfield 67) by decide +kernel)
theorem x14_17 : WP d 14 17 [l0, l1, l2, some (vI x)] st h Q ↔ WP d 14 18 [l0, l1, l2, some (vI x)] (vI x :: st) h Q := wp_iload (show (lcode 14)[17]? = some (.iload 3) by decide +kernel) rfl
theorem x14_18 : WP d 14 18 [l0, l1, l2, l3] (vI x :: .ref a :: st) h Q ↔ ldA (hRd h a) x (fun v => WP d 14 19 [l0, l1, l2, l3] (v :: st) h Q) := wp_iaload (show (lcode 14)[18]? = some (.iaload) by decide +kernel)
theorem x14_19 : WP d 14 19 [l0, l1, l2, l3] st h Q ↔ WP d 14 20 [l0, l1, l2, l3] (vI (-1) :: st) h Q := wp_iconst (show (lcode 14)[19]? = some (.iconst (-1)) by decide +kernel)
theorem x14_20 : WP d 14 20 [l0, l1, l2, l3] (vI y :: vI x :: st) h Q ↔ ((wr x = wr y → WP d 14 27 [l0, l1, l2, l3] st h Q) ∧ (¬ (wr x = wr y) → WP d 14 21 [l0, l1, l2, l3] st h Q)) := wp_icmp_eq (show (lcode 14)[20]? = some (.if_icmp .eq 27) by decide +kernel)
theorem x14_21 : WP d 14 21 [some (Value.ref a), l1, l2, l3] st h Q ↔ WP d 14 22 [some (Value.ref a), l1, l2, l3] (Value.ref a :: st) h Q := wp_aload (show (lcode 14)[21]? = some (.aload 0) by decide +kernel) rfl
theorem x14_22 : WP d 14 22 [l0, l1, l2, l3] (.ref a :: st) h Q ↔ gF (hRd h a) 1 3 (fun v => WP d 14 23 [l0, l1, l2, l3] (v :: st) h Q) := wp_getfield (show (lcode 14)[22]? = some (.getfield 67) by decide +kernel)
theorem x14_23 : WP d 14 23 [l0, l1, l2, some (vI x)] st h Q ↔ WP d 14 24 [l0, l1, l2, some (vI x)] (vI x :: st) h Q := wp_iload (show (lcode 14)[23]? = some (.iload 3) by decide +kernel) rfl
theorem x14_24 : WP d 14 24 [l0, l1, l2, l3] (vI x :: .ref a :: st) h Q ↔ ldA (hRd h a) x (fun v => WP d 14 25 [l0, l1, l2, l3] (v :: st) h Q) := wp_iaload (show (lcode 14)[24]? = some (.iaload) by decide +kernel)
theorem x14_25 : WP d 14 25 [l0, l1, some (vI x), l3] st h Q ↔ WP d 14 26 [l0, l1, some (vI x), l3] (vI x :: st) h Q := wp_iload (show (lcode 14)[25]? = some (.iload 2) by decide +kernel) rfl
theorem x14_26 : WP d 14 26 [l0, l1, l2, l3] (vI y :: vI x :: st) h Q ↔ ((wr x ≤ wr y → WP d 14 29 [l0, l1, l2, l3] st h Q) ∧ (¬ (wr x ≤ wr y) → WP d 14 27 [l0, l1, l2, l3] st h Q)) := wp_icmp_le (show (lcode 14)[26]? = some (.if_icmp .le 29) by decide +kernel)
theorem x14_27 : WP d 14 27 [l0, l1, l2, l3] st h Q ↔ WP d 14 28 [l0, l1, l2, l3] (vI 0 :: st) h Q := wp_iconst (show (lcode 14)[27]? = some (.iconst 0) by decide +kernel)
theorem x14_28 : WP d 14 28 [l0, l1, l2, l3] [vI x] h Q ↔ ((Int32.ofInt x = 0 ∨ Int32.ofInt x = 1) ∧ Q (some (vI x)) h) := wp_areturn (show (lcode 14)[28]? = some (.areturn) by decide +kernel)
theorem x14_29 : WP d 14 29 [l0, l1, l2, some (vI x)] st h Q ↔ (nl l2 ∧ WP d 14 30 [l0, l1, l2, some (vI (x + 1))] st h Q) := wp_iinc (show (lcode 14)[29]? = some (.iinc 3 1) by decide +kernel) rfl (Nat.le_of_ble_eq_true rfl)
theorem x14_30 : WP d 14 30 [l0, l1, l2, l3] st h Q ↔ WP d 14 2 [l0, l1, l2, l3] st h Q := wp_goto (show (lcode 14)[30]? = some (.goto 2) by decide +kernel)
theorem x14_31 : WP d 14 31 [l0, l1, l2, l3] st h Q ↔ WP d 14 32 [l0, l1, l2, l3] (vI 1 :: st) h Q := wp_iconst (show (lcode 14)[31]? = some (.iconst 1) by decide +kernel)
theorem x14_32 : WP d 14 32 [l0, l1, l2, l3] [vI x] h Q ↔ ((Int32.ofInt x = 0 ∨ Int32.ofInt x = 1) ∧ Q (some (vI x)) h) := wp_areturn (show (lcode 14)[32]? = some (.areturn) by decide +kernel)
-- 15: WakeOrder$Capital.sumOfUpBut
theorem x15_0 : WP d 15 0 [l0, l1, l2, l3, l4, l5] st h Q ↔ WP d 15 1 [l0, l1, l2, l3, l4, l5] (vI 0 :: st) h Q := wp_iconst (show (lcode 15)[0]? = some (.iconst 0) by decide +kernel)
theorem x15_1 : WP d 15 1 [l0, l1, l2, l3, l4, l5] (vI x :: st) h Q ↔ (nl l2 ∧ WP d 15 2 [l0, l1, l2, some (vI x), l4, l5] st h Q) := wp_istore (show (lcode 15)[1]? = some (.istore 3) by decide +kernel) (Nat.le_of_ble_eq_true rfl)
theorem x15_2 : WP d 15 2 [l0, l1, l2, l3, l4, l5] st h Q ↔ WP d 15 3 [l0, l1, l2, l3, l4, l5] (vI 0 :: st) h Q := wp_iconst (show (lcode 15)[2]? = some (.iconst 0) by decide +kernel)
theorem x15_3 : WP d 15 3 [l0, l1, l2, l3, l4, l5] (vI x :: st) h Q ↔ (nl l3 ∧ WP d 15 4 [l0, l1, l2, l3, some (vI x), l5] st h Q) := wp_istore (show (lcode 15)[3]? = some (.istore 4) by decide +kernel) (Nat.le_of_ble_eq_true rfl)
theorem x15_4 : WP d 15 4 [l0, l1, l2, l3, l4, l5] st h Q ↔ WPC d 15 5 [l0, l1, l2, l3, l4, l5] st h Q := wp_nop (show (lcode 15)[4]? = some (.nop) by decide +kernel)
theorem x15_5 : WP d 15 5 [l0, l1, l2, l3, some (vI x), l5] st h Q ↔ WP d 15 6 [l0, l1, l2, l3, some (vI x), l5] (vI x :: st) h Q := wp_iload (show (lcode 15)[5]? = some (.iload 4) by decide +kernel) rfl
theorem x15_6 : WP d 15 6 [l0, some (Value.ref a), l2, l3, l4, l5] st h Q ↔ WP d 15 7 [l0, some (Value.ref a), l2, l3, l4, l5] (Value.ref a :: st) h Q := wp_aload (show (lcode 15)[6]? = some (.aload 1) by decide +kernel) rfl
theorem x15_7 : WP d 15 7 [l0, l1, l2, l3, l4, l5] (.ref a :: st) h Q ↔ gF (hRd h a) 6 1 (fun v => WP d 15 8 [l0, l1, l2, l3, l4, l5] (v :: st) h Q) := wp_getfield (show (lcode 15)[7]? = some (.getfield 385) by decide +kernel)
theorem x15_8 : WP d 15 8 [l0, l1, l2, l3, l4, l5] (vI y :: vI x :: st) h Q ↔ ((wr y ≤ wr x → WP d 15 27 [l0, l1, l2, l3, l4, l5] st h Q) ∧ (¬ (wr y ≤ wr x) → WP d 15 9 [l0, l1, l2, l3, l4, l5] st h Q)) := wp_icmp_ge (show (lcode 15)[8]? = some (.if_icmp .ge 27) by decide +kernel)
theorem x15_9 : WP d 15 9 [l0, some (Value.ref a), l2, l3, l4, l5] st h Q ↔ WP d 15 10 [l0, some (Value.ref a), l2, l3, l4, l5] (Value.ref a :: st) h Q := wp_aload (show (lcode 15)[9]? = some (.aload 1) by decide +kernel) rfl
theorem x15_10 : WP d 15 10 [l0, l1, l2, l3, some (vI x), l5] st h Q ↔ WP d 15 11 [l0, l1, l2, l3, some (vI x), l5] (vI x :: st) h Q := wp_iload (show (lcode 15)[10]? = some (.iload 4) by decide +kernel) rfl
theorem x15_11 : WP d 15 11 [l0, l1, l2, l3, l4, l5] (v1 :: v :: st) h Q ↔ (sh st ∧ CALL d 44 [v, v1] h (fun v h => WP d 15 12 [l0, l1, l2, l3, l4, l5] (v.toList ++ st) h Q)) := wp_call (n := 2) (show (lcode 15)[11]? = some (.invokestatic 44) by decide +kernel) (by decide +kernel) (by simp)
theorem x15_12 : WP d 15 12 [l0, l1, l2, l3, l4, l5] (vI x :: st) h Q ↔ (nl l4 ∧ WP d 15 13 [l0, l1, l2, l3, l4, some (vI x)] st h Q) := wp_istore (show (lcode 15)[12]? = some (.istore 5) by decide +kernel) (Nat.le_of_ble_eq_true rfl)
theorem x15_13 : WP d 15 13 [l0, l1, l2, l3, l4, some (vI x)] st h Q ↔ WP d 15 14 [l0, l1, l2, l3, l4, some (vI x)] (vI x :: st) h Q := wp_iload (show (lcode 15)[13]? = some (.iload 5) by decide +kernel) rfl
theorem x15_14 : WP d 15 14 [l0, l1, some (vI x), l3, l4, l5] st h Q ↔ WP d 15 15 [l0, l1, some (vI x), l3, l4, l5] (vI x :: st) h Q := wp_iload (show (lcode 15)[14]? = some (.iload 2) by decide +kernel) rfl
theorem x15_15 : WP d 15 15 [l0, l1, l2, l3, l4, l5] (vI y :: vI x :: st) h Q ↔ ((wr x = wr y → WP d 15 25 [l0, l1, l2, l3, l4, l5] st h Q) ∧ (¬ (wr x = wr y) → WP d 15 16 [l0, l1, l2, l3, l4, l5] st h Q)) := wp_icmp_eq (show (lcode 15)[15]? = some (.if_icmp .eq 25) by decide +kernel)
theorem x15_16 : WP d 15 16 [l0, l1, l2, some (vI x), l4, l5] st h Q ↔ WP d 15 17 [l0, l1, l2, some (vI x), l4, l5] (vI x :: st) h Q := wp_iload (show (lcode 15)[16]? = some (.iload 3) by decide +kernel) rfl
theorem x15_17 : WP d 15 17 [some (Value.ref a), l1, l2, l3, l4, l5] st h Q ↔ WP d 15 18 [some (Value.ref a), l1, l2, l3, l4, l5] (Value.ref a :: st) h Q := wp_aload (show (lcode 15)[17]? = some (.aload 0) by decide +kernel) rfl
theorem x15_18 : WP d 15 18 [some (Value.ref a), l1, l2, l3, l4, l5] st h Q ↔ WP d 15 19 [some (Value.ref a), l1, l2, l3, l4, l5] (Value.ref a :: st) h Q := wp_aload (show (lcode 15)[18]? = some (.aload 0) by decide +kernel) rfl
theorem x15_19 : WP d 15 19 [l0, l1, l2, l3, l4, l5] (.ref a :: st) h Q ↔ gF (hRd h a) 1 2 (fun v => WP d 15 20 [l0, l1, l2, l3, l4, l5] (v :: st) h Q) := wp_getfield (show (lcode 15)[19]? = some (.getfield 66) by decide +kernel)
theorem x15_20 : WP d 15 20 [l0, l1, l2, l3, l4, some (vI x)] st h Q ↔ WP d 15 21 [l0, l1, l2, l3, l4, some (vI x)] (vI x :: st) h Q := wp_iload (show (lcode 15)[20]? = some (.iload 5) by decide +kernel) rfl
theorem x15_21 : WP d 15 21 [l0, l1, l2, l3, l4, l5] (v1 :: v :: st) h Q ↔ (sh st ∧ CALL d 107 [v, v1] h (fun v h => WP d 15 22 [l0, l1, l2, l3, l4, l5] (v.toList ++ st) h Q)) := wp_call (n := 2) (show (lcode 15)[21]? = some (.invokestatic 107) by decide +kernel) (by decide +kernel) (by simp)
theorem x15_22 : WP d 15 22 [l0, l1, l2, l3, l4, l5] (v1 :: v :: st) h Q ↔ (sh st ∧ CALL d 10 [v, v1] h (fun v h => WP d 15 23 [l0, l1, l2, l3, l4, l5] (v.toList ++ st) h Q)) := wp_call (n := 2) (show (lcode 15)[22]? = some (.invokestatic 10) by decide +kernel) (by decide +kernel) (by simp)
theorem x15_23 : WP d 15 23 [l0, l1, l2, l3, l4, l5] (vI y :: vI x :: st) h Q ↔ WP d 15 24 [l0, l1, l2, l3, l4, l5] (vI (x + y) :: st) h Q := wp_iadd (show (lcode 15)[23]? = some (.iadd) by decide +kernel)
theorem x15_24 : WP d 15 24 [l0, l1, l2, l3, l4, l5] (vI x :: st) h Q ↔ (nl l2 ∧ WP d 15 25 [l0, l1, l2, some (vI x), l4, l5] st h Q) := wp_istore (show (lcode 15)[24]? = some (.istore 3) by decide +kernel) (Nat.le_of_ble_eq_true rfl)
theorem x15_25 : WP d 15 25 [l0, l1, l2, l3, some (vI x), l5] st h Q ↔ (nl l3 ∧ WP d 15 26 [l0, l1, l2, l3, some (vI (x + 1)), l5] st h Q) := wp_iinc (show (lcode 15)[25]? = some (.iinc 4 1) by decide +kernel) rfl (Nat.le_of_ble_eq_true rfl)
theorem x15_26 : WP d 15 26 [l0, l1, l2, l3, l4, l5] st h Q ↔ WP d 15 4 [l0, l1, l2, l3, l4, l5] st h Q := wp_goto (show (lcode 15)[26]? = some (.goto 4) by decide +kernel)
theorem x15_27 : WP d 15 27 [l0, l1, l2, some (vI x), l4, l5] st h Q ↔ WP d 15 28 [l0, l1, l2, some (vI x), l4, l5] (vI x :: st) h Q := wp_iload (show (lcode 15)[27]? = some (.iload 3) by decide +kernel) rfl
theorem x15_28 : WP d 15 28 [l0, l1, l2, l3, l4, l5] [vI x] h Q ↔ Q (some (vI x)) h := wp_ireturn (show (lcode 15)[28]? = some (.ireturn) by decide +kernel)
-- 16: WakeOrder$City.<init>
theorem x16_0 : WP d 16 0 [some (Value.ref a)] st h Q ↔ WP d 16 1 [some (Value.ref a)] (Value.ref a :: st) h Q := wp_aload (show (lcode 16)[0]? = some (.aload 0) by decide +kernel) rfl
theorem x16_1 : WP d 16 1 [l0] (.ref a :: st) h Q ↔ ((sd d ∧ sh st) ∧ WP d 16 2 [l0] st h Q) := wp_pop (show (lcode 16)[1]? = some (.pop) by decide +kernel)
theorem x16_2 : WP d 16 2 [some (Value.ref a)] st h Q ↔ WP d 16 3 [some (Value.ref a)] (Value.ref a :: st) h Q := wp_aload (show (lcode 16)[2]? = some (.aload 0) by decide +kernel) rfl
theorem x16_3 : WP d 16 3 [l0] st h Q ↔ WP d 16 4 [l0] (vI 6 :: st) h Q := wp_iconst (show (lcode 16)[3]? = some (.iconst 6) by decide +kernel)
theorem x16_5 : WP d 16 5 [l0] (Value.ref b :: .ref a :: st) h Q ↔ pF (hRd h a) 2 3 (Value.ref b) (fun c => WP d 16 6 [l0] st (hWr h a c) Q) := wp_putstatic (show (lcode 16)[5]? = some (.putstatic 131) by decide +kernel)
theorem x16_6 : WP d 16 6 [some (Value.ref a)] st h Q ↔ WP d 16 7 [some (Value.ref a)] (Value.ref a :: st) h Q := wp_aload (show (lcode 16)[6]? = some (.aload 0) by decide +kernel) rfl
theorem x16_7 : WP d 16 7 [l0] st h Q ↔ WP d 16 8 [l0] (vI 6 :: st) h Q := wp_iconst (show (lcode 16)[7]? = some (.iconst 6) by decide +kernel)
theorem x16_9 : WP d 16 9 [l0] (Value.ref b :: .ref a :: st) h Q ↔ pF (hRd h a) 2 4 (Value.ref b) (fun c => WP d 16 10 [l0] st (hWr h a c) Q) := wp_putstatic (show (lcode 16)[9]? = some (.putstatic 132) by decide +kernel)
theorem x16_10 : WP d 16 10 [some (Value.ref a)] st h Q ↔ WP d 16 11 [some (Value.ref a)] (Value.ref a :: st) h Q := wp_aload (show (lcode 16)[10]? = some (.aload 0) by decide +kernel) rfl
theorem x16_11 : WP d 16 11 [l0] st h Q ↔ WP d 16 12 [l0] (vI 8 :: st) h Q := wp_iconst (show (lcode 16)[11]? = some (.iconst 8) by decide +kernel)
theorem x16_13 : WP d 16 13 [l0] (Value.ref b :: .ref a :: st) h Q ↔ pF (hRd h a) 2 5 (Value.ref b) (fun c => WP d 16 14 [l0] st (hWr h a c) Q) := wp_putstatic (show (lcode 16)[13]? = some (.putstatic 133) by decide +kernel)
theorem x16_14 : WP d 16 14 [some (Value.ref a)] st h Q ↔ WP d 16 15 [some (Value.ref a)] (Value.ref a :: st) h Q := wp_aload (show (lcode 16)[14]? = some (.aload 0) by decide +kernel) rfl
theorem x16_15 : WP d 16 15 [l0] st h Q ↔ WP d 16 16 [l0] (vI 8 :: st) h Q := wp_iconst (show (lcode 16)[15]? = some (.iconst 8) by decide +kernel)
theorem x16_17 : WP d 16 17 [l0] (Value.ref b :: .ref a :: st) h Q ↔ pF (hRd h a) 2 6 (Value.ref b) (fun c => WP d 16 18 [l0] st (hWr h a c) Q) := wp_putstatic (show (lcode 16)[17]? = some (.putstatic 134) by decide +kernel)
theorem x16_18 : WP d 16 18 [some (Value.ref a)] st h Q ↔ WP d 16 19 [some (Value.ref a)] (Value.ref a :: st) h Q := wp_aload (show (lcode 16)[18]? = some (.aload 0) by decide +kernel) rfl
theorem x16_19 : WP d 16 19 [l0] st h Q ↔ WP d 16 20 [l0] (vI 8 :: st) h Q := wp_iconst (show (lcode 16)[19]? = some (.iconst 8) by decide +kernel)
theorem x16_21 : WP d 16 21 [l0] (Value.ref b :: .ref a :: st) h Q ↔ pF (hRd h a) 2 7 (Value.ref b) (fun c => WP d 16 22 [l0] st (hWr h a c) Q) := wp_putstatic (show (lcode 16)[21]? = some (.putstatic 135) by decide +kernel)
theorem x16_22 : WP d 16 22 [l0] [] h Q ↔ Q none h := wp_return (show (lcode 16)[22]? = some (.return_) by decide +kernel)
-- 17: WakeOrder$City.clear
theorem x17_0 : WP d 17 0 [some (Value.ref a)] st h Q ↔ WP d 17 1 [some (Value.ref a)] (Value.ref a :: st) h Q := wp_aload (show (lcode 17)[0]? = some (.aload 0) by decide +kernel) rfl
theorem x17_1 : WP d 17 1 [l0] st h Q ↔ WP d 17 2 [l0] (vI 0 :: st) h Q := wp_iconst (show (lcode 17)[1]? = some (.iconst 0) by decide +kernel)
theorem x17_2 : WP d 17 2 [l0] (vI x :: .ref a :: st) h Q ↔ pF (hRd h a) 2 0 (vI x) (fun c => WP d 17 3 [l0] st (hWr h a c) Q) := wp_putfield (show (lcode 17)[2]? = some (.putfield 128) by decide +kernel)
theorem x17_3 : WP d 17 3 [some (Value.ref a)] st h Q ↔ WP d 17 4 [some (Value.ref a)] (Value.ref a :: st) h Q := wp_aload (show (lcode 17)[3]? = some (.aload 0) by decide +kernel) rfl
theorem x17_4 : WP d 17 4 [l0] st h Q ↔ WP d 17 5 [l0] (vI 0 :: st) h Q := wp_iconst (show (lcode 17)[4]? = some (.iconst 0) by decide +kernel)
theorem x17_5 : WP d 17 5 [l0] (vI x :: .ref a :: st) h Q ↔ pF (hRd h a) 2 1 (vI x) (fun c => WP d 17 6 [l0] st (hWr h a c) Q) := wp_putfield (show (lcode 17)[5]? = some (.putfield 129) by decide +kernel)
theorem x17_6 : WP d 17 6 [some (Value.ref a)] st h Q ↔ WP d 17 7 [some (Value.ref a)] (Value.ref a :: st) h Q := wp_aload (show (lcode 17)[6]? = some (.aload 0) by decide +kernel) rfl
theorem x17_7 : WP d 17 7 [l0] st h Q ↔ WP d 17 8 [l0] (vI 0 :: st) h Q := wp_iconst (show (lcode 17)[7]? = some (.iconst 0) by decide +kernel)
theorem x17_8 : WP d 17 8 [l0] (vI x :: .ref a :: st) h Q ↔ pF (hRd h a) 2 2 (vI x) (fun c => WP d 17 9 [l0] st (hWr h a c) Q) := wp_putfield (show (lcode 17)[8]? = some (.putfield 130) by decide +kernel)
theorem x17_9 : WP d 17 9 [l0] [] h Q ↔ Q none h := wp_return (show (lcode 17)[9]? = some (.return_) by decide +kernel)
-- 18: WakeOrder$City.become
theorem x18_0 : WP d 18 0 [some (Value.ref a), l1] st h Q ↔ WP d 18 1 [some (Value.ref a), l1] (Value.ref a :: st) h Q := wp_aload (show (lcode 18)[0]? = some (.aload 0) by decide +kernel) rfl
theorem x18_1 : WP d 18 1 [l0, some (Value.ref a)] st h Q ↔ WP d 18 2 [l0, some (Value.ref a)] (Value.ref a :: st) h Q := wp_aload (show (lcode 18)[1]? = some (.aload 1) by decide +kernel) rfl
theorem x18_2 : WP d 18 2 [l0, l1] (.ref a :: st) h Q ↔ gF (hRd h a) 2 0 (fun v => WP d 18 3 [l0, l1] (v :: st) h Q) := wp_getfield (show (lcode 18)[2]? = some (.getfield 128) by decide +kernel)
theorem x18_3 : WP d 18 3 [l0, l1] (vI x :: .ref a :: st) h Q ↔ pF (hRd h a) 2 0 (vI x) (fun c => WP d 18 4 [l0, l1] st (hWr h a c) Q) := wp_putfield (show (lcode 18)[3]? = some (.putfield 128) by decide +kernel)
theorem x18_4 : WP d 18 4 [some (Value.ref a), l1] st h Q ↔ WP d 18 5 [some (Value.ref a), l1] (Value.ref a :: st) h Q := wp_aload (show (lcode 18)[4]? = some (.aload 0) by decide +kernel) rfl
theorem x18_5 : WP d 18 5 [l0, some (Value.ref a)] st h Q ↔ WP d 18 6 [l0, some (Value.ref a)] (Value.ref a :: st) h Q := wp_aload (show (lcode 18)[5]? = some (.aload 1) by decide +kernel) rfl
theorem x18_6 : WP d 18 6 [l0, l1] (.ref a :: st) h Q ↔ gF (hRd h a) 2 1 (fun v => WP d 18 7 [l0, l1] (v :: st) h Q) := wp_getfield (show (lcode 18)[6]? = some (.getfield 129) by decide +kernel)
theorem x18_7 : WP d 18 7 [l0, l1] (vI x :: .ref a :: st) h Q ↔ pF (hRd h a) 2 1 (vI x) (fun c => WP d 18 8 [l0, l1] st (hWr h a c) Q) := wp_putfield (show (lcode 18)[7]? = some (.putfield 129) by decide +kernel)
theorem x18_8 : WP d 18 8 [some (Value.ref a), l1] st h Q ↔ WP d 18 9 [some (Value.ref a), l1] (Value.ref a :: st) h Q := wp_aload (show (lcode 18)[8]? = some (.aload 0) by decide +kernel) rfl
theorem x18_9 : WP d 18 9 [l0, some (Value.ref a)] st h Q ↔ WP d 18 10 [l0, some (Value.ref a)] (Value.ref a :: st) h Q := wp_aload (show (lcode 18)[9]? = some (.aload 1) by decide +kernel) rfl
theorem x18_10 : WP d 18 10 [l0, l1] (.ref a :: st) h Q ↔ gF (hRd h a) 2 2 (fun v => WP d 18 11 [l0, l1] (v :: st) h Q) := wp_getfield (show (lcode 18)[10]? = some (.getfield 130) by decide +kernel)
theorem x18_11 : WP d 18 11 [l0, l1] (vI x :: .ref a :: st) h Q ↔ pF (hRd h a) 2 2 (vI x) (fun c => WP d 18 12 [l0, l1] st (hWr h a c) Q) := wp_putfield (show (lcode 18)[11]? = some (.putfield 130) by decide +kernel)
theorem x18_12 : WP d 18 12 [l0, some (Value.ref a)] st h Q ↔ WP d 18 13 [l0, some (Value.ref a)] (Value.ref a :: st) h Q := wp_aload (show (lcode 18)[12]? = some (.aload 1) by decide +kernel) rfl
theorem x18_13 : WP d 18 13 [l0, l1] (.ref a :: st) h Q ↔ gF (hRd h a) 2 3 (fun v => WP d 18 14 [l0, l1] (v :: st) h Q) := wp_getfield (show (lcode 18)[13]? = some (.getfield 131) by decide +kernel)
theorem x18_14 : WP d 18 14 [l0, l1] st h Q ↔ WP d 18 15 [l0, l1] (vI 0 :: st) h Q := wp_iconst (show (lcode 18)[14]? = some (.iconst 0) by decide +kernel)
theorem x18_15 : WP d 18 15 [some (Value.ref a), l1] st h Q ↔ WP d 18 16 [some (Value.ref a), l1] (Value.ref a :: st) h Q := wp_aload (show (lcode 18)[15]? = some (.aload 0) by decide +kernel) rfl
theorem x18_16 : WP d 18 16 [l0, l1] (.ref a :: st) h Q ↔ gF (hRd h a) 2 3 (fun v => WP d 18 17 [l0, l1] (v :: st) h Q) := wp_getfield (show (lcode 18)[16]? = some (.getfield 131) by decide +kernel)
theorem x18_17 : WP d 18 17 [l0, l1] st h Q ↔ WP d 18 18 [l0, l1] (vI 0 :: st) h Q := wp_iconst (show (lcode 18)[17]? = some (.iconst 0) by decide +kernel)
theorem x18_18 : WP d 18 18 [l0, l1] st h Q ↔ WP d 18 19 [l0, l1] (vI 6 :: st) h Q := wp_iconst (show (lcode 18)[18]? = some (.iconst 6) by decide +kernel)
theorem x18_19 : WP d 18 19 [l0, l1] (vI w :: vI y :: .ref b :: vI x :: .ref a :: st) h Q ↔ ((sd d ∧ sh st) ∧ aC (hRd h a) (hRd h b) a b x y w (fun c => WP d 18 20 [l0, l1] st (hWr h b c) Q)) := wp_arraycopy (show (lcode 18)[19]? = some (.invokedynamic 0) by decide +kernel)
theorem x18_20 : WP d 18 20 [l0, some (Value.ref a)] st h Q ↔ WP d 18 21 [l0, some (Value.ref a)] (Value.ref a :: st) h Q := wp_aload (show (lcode 18)[20]? = some (.aload 1) by decide +kernel) rfl
theorem x18_21 : WP d 18 21 [l0, l1] (.ref a :: st) h Q ↔ gF (hRd h a) 2 4 (fun v => WP d 18 22 [l0, l1] (v :: st) h Q) := wp_getfield (show (lcode 18)[21]? = some (.getfield 132) by decide +kernel)
theorem x18_22 : WP d 18 22 [l0, l1] st h Q ↔ WP d 18 23 [l0, l1] (vI 0 :: st) h Q := wp_iconst (show (lcode 18)[22]? = some (.iconst 0) by decide +kernel)
theorem x18_23 : WP d 18 23 [some (Value.ref a), l1] st h Q ↔ WP d 18 24 [some (Value.ref a), l1] (Value.ref a :: st) h Q := wp_aload (show (lcode 18)[23]? = some (.aload 0) by decide +kernel) rfl
theorem x18_24 : WP d 18 24 [l0, l1] (.ref a :: st) h Q ↔ gF (hRd h a) 2 4 (fun v => WP d 18 25 [l0, l1] (v :: st) h Q) := wp_getfield (show (lcode 18)[24]? = some (.getfield 132) by decide +kernel)
theorem x18_25 : WP d 18 25 [l0, l1] st h Q ↔ WP d 18 26 [l0, l1] (vI 0 :: st) h Q := wp_iconst (show (lcode 18)[25]? = some (.iconst 0) by decide +kernel)
theorem x18_26 : WP d 18 26 [l0, l1] st h Q ↔ WP d 18 27 [l0, l1] (vI 6 :: st) h Q := wp_iconst (show (lcode 18)[26]? = some (.iconst 6) by decide +kernel)
theorem x18_27 : WP d 18 27 [l0, l1] (vI w :: vI y :: .ref b :: vI x :: .ref a :: st) h Q ↔ ((sd d ∧ sh st) ∧ aC (hRd h a) (hRd h b) a b x y w (fun c => WP d 18 28 [l0, l1] st (hWr h b c) Q)) := wp_arraycopy (show (lcode 18)[27]? = some (.invokedynamic 0) by decide +kernel)
theorem x18_28 : WP d 18 28 [l0, some (Value.ref a)] st h Q ↔ WP d 18 29 [l0, some (Value.ref a)] (Value.ref a :: st) h Q := wp_aload (show (lcode 18)[28]? = some (.aload 1) by decide +kernel) rfl
theorem x18_29 : WP d 18 29 [l0, l1] (.ref a :: st) h Q ↔ gF (hRd h a) 2 5 (fun v => WP d 18 30 [l0, l1] (v :: st) h Q) := wp_getfield (show (lcode 18)[29]? = some (.getfield 133) by decide +kernel)
theorem x18_30 : WP d 18 30 [l0, l1] st h Q ↔ WP d 18 31 [l0, l1] (vI 0 :: st) h Q := wp_iconst (show (lcode 18)[30]? = some (.iconst 0) by decide +kernel)
theorem x18_31 : WP d 18 31 [some (Value.ref a), l1] st h Q ↔ WP d 18 32 [some (Value.ref a), l1] (Value.ref a :: st) h Q := wp_aload (show (lcode 18)[31]? = some (.aload 0) by decide +kernel) rfl
theorem x18_32 : WP d 18 32 [l0, l1] (.ref a :: st) h Q ↔ gF (hRd h a) 2 5 (fun v => WP d 18 33 [l0, l1] (v :: st) h Q) := wp_getfield (show (lcode 18)[32]? = some (.getfield 133) by decide +kernel)
theorem x18_33 : WP d 18 33 [l0, l1] st h Q ↔ WP d 18 34 [l0, l1] (vI 0 :: st) h Q := wp_iconst (show (lcode 18)[33]? = some (.iconst 0) by decide +kernel)
theorem x18_34 : WP d 18 34 [l0, l1] st h Q ↔ WP d 18 35 [l0, l1] (vI 8 :: st) h Q := wp_iconst (show (lcode 18)[34]? = some (.iconst 8) by decide +kernel)
theorem x18_35 : WP d 18 35 [l0, l1] (vI w :: vI y :: .ref b :: vI x :: .ref a :: st) h Q ↔ ((sd d ∧ sh st) ∧ aC (hRd h a) (hRd h b) a b x y w (fun c => WP d 18 36 [l0, l1] st (hWr h b c) Q)) := wp_arraycopy (show (lcode 18)[35]? = some (.invokedynamic 0) by decide +kernel)
theorem x18_36 : WP d 18 36 [l0, some (Value.ref a)] st h Q ↔ WP d 18 37 [l0, some (Value.ref a)] (Value.ref a :: st) h Q := wp_aload (show (lcode 18)[36]? = some (.aload 1) by decide +kernel) rfl
theorem x18_37 : WP d 18 37 [l0, l1] (.ref a :: st) h Q ↔ gF (hRd h a) 2 6 (fun v => WP d 18 38 [l0, l1] (v :: st) h Q) := wp_getfield (show (lcode 18)[37]? = some (.getfield 134) by decide +kernel)
theorem x18_38 : WP d 18 38 [l0, l1] st h Q ↔ WP d 18 39 [l0, l1] (vI 0 :: st) h Q := wp_iconst (show (lcode 18)[38]? = some (.iconst 0) by decide +kernel)
theorem x18_39 : WP d 18 39 [some (Value.ref a), l1] st h Q ↔ WP d 18 40 [some (Value.ref a), l1] (Value.ref a :: st) h Q := wp_aload (show (lcode 18)[39]? = some (.aload 0) by decide +kernel) rfl
theorem x18_40 : WP d 18 40 [l0, l1] (.ref a :: st) h Q ↔ gF (hRd h a) 2 6 (fun v => WP d 18 41 [l0, l1] (v :: st) h Q) := wp_getfield (show (lcode 18)[40]? = some (.getfield 134) by decide +kernel)
theorem x18_41 : WP d 18 41 [l0, l1] st h Q ↔ WP d 18 42 [l0, l1] (vI 0 :: st) h Q := wp_iconst (show (lcode 18)[41]? = some (.iconst 0) by decide +kernel)
theorem x18_42 : WP d 18 42 [l0, l1] st h Q ↔ WP d 18 43 [l0, l1] (vI 8 :: st) h Q := wp_iconst (show (lcode 18)[42]? = some (.iconst 8) by decide +kernel)
theorem x18_43 : WP d 18 43 [l0, l1] (vI w :: vI y :: .ref b :: vI x :: .ref a :: st) h Q ↔ ((sd d ∧ sh st) ∧ aC (hRd h a) (hRd h b) a b x y w (fun c => WP d 18 44 [l0, l1] st (hWr h b c) Q)) := wp_arraycopy (show (lcode 18)[43]? = some (.invokedynamic 0) by decide +kernel)
theorem x18_44 : WP d 18 44 [l0, some (Value.ref a)] st h Q ↔ WP d 18 45 [l0, some (Value.ref a)] (Value.ref a :: st) h Q := wp_aload (show (lcode 18)[44]? = some (.aload 1) by decide +kernel) rfl
theorem x18_45 : WP d 18 45 [l0, l1] (.ref a :: st) h Q ↔ gF (hRd h a) 2 7 (fun v => WP d 18 46 [l0, l1] (v :: st) h Q) := wp_getfield (show (lcode 18)[45]? = some (.getfield 135) by decide +kernel)
theorem x18_46 : WP d 18 46 [l0, l1] st h Q ↔ WP d 18 47 [l0, l1] (vI 0 :: st) h Q := wp_iconst (show (lcode 18)[46]? = some (.iconst 0) by decide +kernel)
theorem x18_47 : WP d 18 47 [some (Value.ref a), l1] st h Q ↔ WP d 18 48 [some (Value.ref a), l1] (Value.ref a :: st) h Q := wp_aload (show (lcode 18)[47]? = some (.aload 0) by decide +kernel) rfl
theorem x18_48 : WP d 18 48 [l0, l1] (.ref a :: st) h Q ↔ gF (hRd h a) 2 7 (fun v => WP d 18 49 [l0, l1] (v :: st) h Q) := wp_getfield (show (lcode 18)[48]? = some (.getfield 135) by decide +kernel)
theorem x18_49 : WP d 18 49 [l0, l1] st h Q ↔ WP d 18 50 [l0, l1] (vI 0 :: st) h Q := wp_iconst (show (lcode 18)[49]? = some (.iconst 0) by decide +kernel)
theorem x18_50 : WP d 18 50 [l0, l1] st h Q ↔ WP d 18 51 [l0, l1] (vI 8 :: st) h Q := wp_iconst (show (lcode 18)[50]? = some (.iconst 8) by decide +kernel)
theorem x18_51 : WP d 18 51 [l0, l1] (vI w :: vI y :: .ref b :: vI x :: .ref a :: st) h Q ↔ ((sd d ∧ sh st) ∧ aC (hRd h a) (hRd h b) a b x y w (fun c => WP d 18 52 [l0, l1] st (hWr h b c) Q)) := wp_arraycopy (show (lcode 18)[51]? = some (.invokedynamic 0) by decide +kernel)
theorem x18_52 : WP d 18 52 [l0, l1] [] h Q ↔ Q none h := wp_return (show (lcode 18)[52]? = some (.return_) by decide +kernel)
-- 19: WakeOrder$City.addPerson
theorem x19_0 : WP d 19 0 [some (Value.ref a), l1] st h Q ↔ WP d 19 1 [some (Value.ref a), l1] (Value.ref a :: st) h Q := wp_aload (show (lcode 19)[0]? = some (.aload 0) by decide +kernel) rfl
theorem x19_1 : WP d 19 1 [l0, l1] (.ref a :: st) h Q ↔ gF (hRd h a) 2 1 (fun v => WP d 19 2 [l0, l1] (v :: st) h Q) := wp_getfield (show (lcode 19)[1]? = some (.getfield 129) by decide +kernel)
theorem x19_2 : WP d 19 2 [l0, l1] st h Q ↔ WP d 19 3 [l0, l1] (vI 6 :: st) h Q := wp_iconst (show (lcode 19)[2]? = some (.iconst 6) by decide +kernel)
theorem x19_3 : WP d 19 3 [l0, l1] (vI y :: vI x :: st) h Q ↔ ((wr y ≤ wr x → WP d 19 22 [l0, l1] st h Q) ∧ (¬ (wr y ≤ wr x) → WP d 19 4 [l0, l1] st h Q)) := wp_icmp_ge (show (lcode 19)[3]? = some (.if_icmp .ge 22) by decide +kernel)
theorem x19_4 : WP d 19 4 [some (Value.ref a), l1] st h Q ↔ WP d 19 5 [some (Value.ref a), l1] (Value.ref a :: st) h Q := wp_aload (show (lcode 19)[4]? = some (.aload 0) by decide +kernel) rfl
theorem x19_5 : WP d 19 5 [l0, l1] (.ref a :: st) h Q ↔ gF (hRd h a) 2 3 (fun v => WP d 19 6 [l0, l1] (v :: st) h Q) := wp_getfield (show (lcode 19)[5]? = some (.getfield 131) by decide +kernel)
theorem x19_6 : WP d 19 6 [some (Value.ref a), l1] st h Q ↔ WP d 19 7 [some (Value.ref a), l1] (Value.ref a :: st) h Q := wp_aload (show (lcode 19)[6]? = some (.aload 0) by decide +kernel) rfl
theorem x19_7 : WP d 19 7 [l0, l1] (.ref a :: st) h Q ↔ gF (hRd h a) 2 1 (fun v => WP d 19 8 [l0, l1] (v :: st) h Q) := wp_getfield (show (lcode 19)[7]? = some (.getfield 129) by decide +kernel)
theorem x19_8 : WP d 19 8 [l0, some (vI x)] st h Q ↔ WP d 19 9 [l0, some (vI x)] (vI x :: st) h Q := wp_iload (show (lcode 19)[8]? = some (.iload 1) by decide +kernel) rfl
theorem x19_9 : WP d 19 9 [l0, l1] (vI y :: vI x :: .ref a :: st) h Q ↔ stA (hRd h a) a x (vI y) (fun c => WP d 19 10 [l0, l1] st (hWr h a c) Q) := wp_iastore (show (lcode 19)[9]? = some (.iastore) by decide +kernel)
theorem x19_10 : WP d 19 10 [some (Value.ref a), l1] st h Q ↔ WP d 19 11 [some (Value.ref a), l1] (Value.ref a :: st) h Q := wp_aload (show (lcode 19)[10]? = some (.aload 0) by decide +kernel) rfl
theorem x19_11 : WP d 19 11 [l0, l1] (.ref a :: st) h Q ↔ gF (hRd h a) 2 4 (fun v => WP d 19 12 [l0, l1] (v :: st) h Q) := wp_getfield (show (lcode 19)[11]? = some (.getfield 132) by decide +kernel)
theorem x19_12 : WP d 19 12 [some (Value.ref a), l1] st h Q ↔ WP d 19 13 [some (Value.ref a), l1] (Value.ref a :: st) h Q := wp_aload (show (lcode 19)[12]? = some (.aload 0) by decide +kernel) rfl
theorem x19_13 : WP d 19 13 [l0, l1] (.ref a :: st) h Q ↔ gF (hRd h a) 2 1 (fun v => WP d 19 14 [l0, l1] (v :: st) h Q) := wp_getfield (show (lcode 19)[13]? = some (.getfield 129) by decide +kernel)
theorem x19_14 : WP d 19 14 [l0, l1] st h Q ↔ WP d 19 15 [l0, l1] (vI (-1) :: st) h Q := wp_iconst (show (lcode 19)[14]? = some (.iconst (-1)) by decide +kernel)
theorem x19_15 : WP d 19 15 [l0, l1] (vI y :: vI x :: .ref a :: st) h Q ↔ stA (hRd h a) a x (vI y) (fun c => WP d 19 16 [l0, l1] st (hWr h a c) Q) := wp_iastore (show (lcode 19)[15]? = some (.iastore) by decide +kernel)
theorem x19_16 : WP d 19 16 [some (Value.ref a), l1] st h Q ↔ WP d 19 17 [some (Value.ref a), l1] (Value.ref a :: st) h Q := wp_aload (show (lcode 19)[16]? = some (.aload 0) by decide +kernel) rfl
theorem x19_17 : WP d 19 17 [l0, l1] (v :: st) h Q ↔ (c1 v ∧ WP d 19 18 [l0, l1] (v :: v :: st) h Q) := wp_dup (show (lcode 19)[17]? = some (.dup) by decide +kernel)
theorem x19_18 : WP d 19 18 [l0, l1] (.ref a :: st) h Q ↔ gF (hRd h a) 2 1 (fun v => WP d 19 19 [l0, l1] (v :: st) h Q) := wp_getfield (show (lcode 19)[18]? = some (.getfield 129) by decide +kernel)
theorem x19_19 : WP d 19 19 [l0, l1] st h Q ↔ WP d 19 20 [l0, l1] (vI 1 :: st) h Q := wp_iconst (show (lcode 19)[19]? = some (.iconst 1) by decide +kernel)
theorem x19_20 : WP d 19 20 [l0, l1] (vI y :: vI x :: st) h Q ↔ WP d 19 21 [l0, l1] (vI (x + y) :: st) h Q := wp_iadd (show (lcode 19)[20]? = some (.iadd) by decide +kernel)
theorem x19_21 : WP d 19 21 [l0, l1] (vI x :: .ref a :: st) h Q ↔ pF (hRd h a) 2 1 (vI x) (fun c => WP d 19 22 [l0, l1] st (hWr h a c) Q) := wp_putfield (show (lcode 19)[21]? = some (.putfield 129) by decide +kernel)
theorem x19_22 : WP d 19 22 [l0, l1] [] h Q ↔ Q none h := wp_return (show (lcode 19)[22]? = some (.return_) by decide +kernel)
-- 20: WakeOrder$City.addJob
theorem x20_0 : WP d 20 0 [some (Value.ref a), l1, l2, l3] st h Q ↔ WP d 20 1 [some (Value.ref a), l1, l2, l3] (Value.ref a :: st) h Q := wp_aload (show (lcode 20)[0]? = some (.aload 0) by decide +kernel) rfl
theorem x20_1 : WP d 20 1 [l0, l1, l2, l3] (.ref a :: st) h Q ↔ gF (hRd h a) 2 2 (fun v => WP d 20 2 [l0, l1, l2, l3] (v :: st) h Q) := wp_getfield (show (lcode 20)[1]? = some (.getfield 130) by decide +kernel)
theorem x20_2 : WP d 20 2 [l0, l1, l2, l3] st h Q ↔ WP d 20 3 [l0, l1, l2, l3] (vI 8 :: st) h Q := wp_iconst (show (lcode 20)[2]? = some (.iconst 8) by decide +kernel)
theorem x20_3 : WP d 20 3 [l0, l1, l2, l3] (vI y :: vI x :: st) h Q ↔ ((wr y ≤ wr x → WP d 20 28 [l0, l1, l2, l3] st h Q) ∧ (¬ (wr y ≤ wr x) → WP d 20 4 [l0, l1, l2, l3] st h Q)) := wp_icmp_ge (show (lcode 20)[3]? = some (.if_icmp .ge 28) by decide +kernel)
theorem x20_4 : WP d 20 4 [some (Value.ref a), l1, l2, l3] st h Q ↔ WP d 20 5 [some (Value.ref a), l1, l2, l3] (Value.ref a :: st) h Q := wp_aload (show (lcode 20)[4]? = some (.aload 0) by decide +kernel) rfl
theorem x20_5 : WP d 20 5 [l0, l1, l2, l3] (.ref a :: st) h Q ↔ gF (hRd h a) 2 5 (fun v => WP d 20 6 [l0, l1, l2, l3] (v :: st) h Q) := wp_getfield (show (lcode 20)[5]? = some (.getfield 133) by decide +kernel)
theorem x20_6 : WP d 20 6 [some (Value.ref a), l1, l2, l3] st h Q ↔ WP d 20 7 [some (Value.ref a), l1, l2, l3] (Value.ref a :: st) h Q := wp_aload (show (lcode 20)[6]? = some (.aload 0) by decide +kernel) rfl
theorem x20_7 : WP d 20 7 [l0, l1, l2, l3] (.ref a :: st) h Q ↔ gF (hRd h a) 2 2 (fun v => WP d 20 8 [l0, l1, l2, l3] (v :: st) h Q) := wp_getfield (show (lcode 20)[7]? = some (.getfield 130) by decide +kernel)
theorem x20_8 : WP d 20 8 [l0, some (vI x), l2, l3] st h Q ↔ WP d 20 9 [l0, some (vI x), l2, l3] (vI x :: st) h Q := wp_iload (show (lcode 20)[8]? = some (.iload 1) by decide +kernel) rfl
theorem x20_9 : WP d 20 9 [l0, l1, l2, l3] (vI y :: vI x :: .ref a :: st) h Q ↔ stA (hRd h a) a x (vI y) (fun c => WP d 20 10 [l0, l1, l2, l3] st (hWr h a c) Q) := wp_iastore (show (lcode 20)[9]? = some (.iastore) by decide +kernel)
theorem x20_10 : WP d 20 10 [some (Value.ref a), l1, l2, l3] st h Q ↔ WP d 20 11 [some (Value.ref a), l1, l2, l3] (Value.ref a :: st) h Q := wp_aload (show (lcode 20)[10]? = some (.aload 0) by decide +kernel) rfl
theorem x20_11 : WP d 20 11 [l0, l1, l2, l3] (.ref a :: st) h Q ↔ gF (hRd h a) 2 6 (fun v => WP d 20 12 [l0, l1, l2, l3] (v :: st) h Q) := wp_getfield (show (lcode 20)[11]? = some (.getfield 134) by decide +kernel)
theorem x20_12 : WP d 20 12 [some (Value.ref a), l1, l2, l3] st h Q ↔ WP d 20 13 [some (Value.ref a), l1, l2, l3] (Value.ref a :: st) h Q := wp_aload (show (lcode 20)[12]? = some (.aload 0) by decide +kernel) rfl
theorem x20_13 : WP d 20 13 [l0, l1, l2, l3] (.ref a :: st) h Q ↔ gF (hRd h a) 2 2 (fun v => WP d 20 14 [l0, l1, l2, l3] (v :: st) h Q) := wp_getfield (show (lcode 20)[13]? = some (.getfield 130) by decide +kernel)
theorem x20_14 : WP d 20 14 [l0, l1, some (vI x), l3] st h Q ↔ WP d 20 15 [l0, l1, some (vI x), l3] (vI x :: st) h Q := wp_iload (show (lcode 20)[14]? = some (.iload 2) by decide +kernel) rfl
theorem x20_15 : WP d 20 15 [l0, l1, l2, l3] (vI y :: vI x :: .ref a :: st) h Q ↔ stA (hRd h a) a x (vI y) (fun c => WP d 20 16 [l0, l1, l2, l3] st (hWr h a c) Q) := wp_iastore (show (lcode 20)[15]? = some (.iastore) by decide +kernel)
theorem x20_16 : WP d 20 16 [some (Value.ref a), l1, l2, l3] st h Q ↔ WP d 20 17 [some (Value.ref a), l1, l2, l3] (Value.ref a :: st) h Q := wp_aload (show (lcode 20)[16]? = some (.aload 0) by decide +kernel) rfl
theorem x20_17 : WP d 20 17 [l0, l1, l2, l3] (.ref a :: st) h Q ↔ gF (hRd h a) 2 7 (fun v => WP d 20 18 [l0, l1, l2, l3] (v :: st) h Q) := wp_getfield (show (lcode 20)[17]? = some (.getfield 135) by decide +kernel)
theorem x20_18 : WP d 20 18 [some (Value.ref a), l1, l2, l3] st h Q ↔ WP d 20 19 [some (Value.ref a), l1, l2, l3] (Value.ref a :: st) h Q := wp_aload (show (lcode 20)[18]? = some (.aload 0) by decide +kernel) rfl
theorem x20_19 : WP d 20 19 [l0, l1, l2, l3] (.ref a :: st) h Q ↔ gF (hRd h a) 2 2 (fun v => WP d 20 20 [l0, l1, l2, l3] (v :: st) h Q) := wp_getfield (show (lcode 20)[19]? = some (.getfield 130) by decide +kernel)
theorem x20_20 : WP d 20 20 [l0, l1, l2, some (vI x)] st h Q ↔ WP d 20 21 [l0, l1, l2, some (vI x)] (vI x :: st) h Q := wp_iload (show (lcode 20)[20]? = some (.iload 3) by decide +kernel) rfl
theorem x20_21 : WP d 20 21 [l0, l1, l2, l3] (vI y :: vI x :: .ref a :: st) h Q ↔ stA (hRd h a) a x (vI y) (fun c => WP d 20 22 [l0, l1, l2, l3] st (hWr h a c) Q) := wp_iastore (show (lcode 20)[21]? = some (.iastore) by decide +kernel)
theorem x20_22 : WP d 20 22 [some (Value.ref a), l1, l2, l3] st h Q ↔ WP d 20 23 [some (Value.ref a), l1, l2, l3] (Value.ref a :: st) h Q := wp_aload (show (lcode 20)[22]? = some (.aload 0) by decide +kernel) rfl
theorem x20_23 : WP d 20 23 [l0, l1, l2, l3] (v :: st) h Q ↔ (c1 v ∧ WP d 20 24 [l0, l1, l2, l3] (v :: v :: st) h Q) := wp_dup (show (lcode 20)[23]? = some (.dup) by decide +kernel)
theorem x20_24 : WP d 20 24 [l0, l1, l2, l3] (.ref a :: st) h Q ↔ gF (hRd h a) 2 2 (fun v => WP d 20 25 [l0, l1, l2, l3] (v :: st) h Q) := wp_getfield (show (lcode 20)[24]? = some (.getfield 130) by decide +kernel)
theorem x20_25 : WP d 20 25 [l0, l1, l2, l3] st h Q ↔ WP d 20 26 [l0, l1, l2, l3] (vI 1 :: st) h Q := wp_iconst (show (lcode 20)[25]? = some (.iconst 1) by decide +kernel)
theorem x20_26 : WP d 20 26 [l0, l1, l2, l3] (vI y :: vI x :: st) h Q ↔ WP d 20 27 [l0, l1, l2, l3] (vI (x + y) :: st) h Q := wp_iadd (show (lcode 20)[26]? = some (.iadd) by decide +kernel)
theorem x20_27 : WP d 20 27 [l0, l1, l2, l3] (vI x :: .ref a :: st) h Q ↔ pF (hRd h a) 2 2 (vI x) (fun c => WP d 20 28 [l0, l1, l2, l3] st (hWr h a c) Q) := wp_putfield (show (lcode 20)[27]? = some (.putfield 130) by decide +kernel)
theorem x20_28 : WP d 20 28 [l0, l1, l2, l3] [] h Q ↔ Q none h := wp_return (show (lcode 20)[28]? = some (.return_) by decide +kernel)
-- 21: WakeOrder$History.<init>
theorem x21_0 : WP d 21 0 [some (Value.ref a), l1] st h Q ↔ WP d 21 1 [some (Value.ref a), l1] (Value.ref a :: st) h Q := wp_aload (show (lcode 21)[0]? = some (.aload 0) by decide +kernel) rfl
theorem x21_1 : WP d 21 1 [l0, l1] (.ref a :: st) h Q ↔ ((sd d ∧ sh st) ∧ WP d 21 2 [l0, l1] st h Q) := wp_pop (show (lcode 21)[1]? = some (.pop) by decide +kernel)
theorem x21_2 : WP d 21 2 [some (Value.ref a), l1] st h Q ↔ WP d 21 3 [some (Value.ref a), l1] (Value.ref a :: st) h Q := wp_aload (show (lcode 21)[2]? = some (.aload 0) by decide +kernel) rfl
theorem x21_3 : WP d 21 3 [l0, l1] st h Q ↔ WP d 21 4 [l0, l1] (vI 20 :: st) h Q := wp_iconst (show (lcode 21)[3]? = some (.iconst 20) by decide +kernel)
theorem x21_5 : WP d 21 5 [l0, l1] (Value.ref b :: .ref a :: st) h Q ↔ pF (hRd h a) 3 0 (Value.ref b) (fun c => WP d 21 6 [l0, l1] st (hWr h a c) Q) := wp_putstatic (show (lcode 21)[5]? = some (.putstatic 192) by decide +kernel)
theorem x21_6 : WP d 21 6 [l0, l1] st h Q ↔ WP d 21 7 [l0, l1] (vI 0 :: st) h Q := wp_iconst (show (lcode 21)[6]? = some (.iconst 0) by decide +kernel)
theorem x21_7 : WP d 21 7 [l0, l1] (vI x :: st) h Q ↔ (nl l0 ∧ WP d 21 8 [l0, some (vI x)] st h Q) := wp_istore (show (lcode 21)[7]? = some (.istore 1) by decide +kernel) (Nat.le_of_ble_eq_true rfl)
theorem x21_8 : WP d 21 8 [l0, l1] st h Q ↔ WPC d 21 9 [l0, l1] st h Q := wp_nop (show (lcode 21)[8]? = some (.nop) by decide +kernel)
theorem x21_9 : WP d 21 9 [l0, some (vI x)] st h Q ↔ WP d 21 10 [l0, some (vI x)] (vI x :: st) h Q := wp_iload (show (lcode 21)[9]? = some (.iload 1) by decide +kernel) rfl
theorem x21_10 : WP d 21 10 [some (Value.ref a), l1] st h Q ↔ WP d 21 11 [some (Value.ref a), l1] (Value.ref a :: st) h Q := wp_aload (show (lcode 21)[10]? = some (.aload 0) by decide +kernel) rfl
theorem x21_11 : WP d 21 11 [l0, l1] (.ref a :: st) h Q ↔ gF (hRd h a) 3 0 (fun v => WP d 21 12 [l0, l1] (v :: st) h Q) := wp_getfield (show (lcode 21)[11]? = some (.getfield 192) by decide +kernel)
theorem x21_12 : WP d 21 12 [l0, l1] (.ref a :: st) h Q ↔ aL (hRd h a) (fun v => WP d 21 13 [l0, l1] (v :: st) h Q) := wp_arraylength (show (lcode 21)[12]? = some (.arraylength) by decide +kernel)
theorem x21_13 : WP d 21 13 [l0, l1] (vI y :: vI x :: st) h Q ↔ ((wr y ≤ wr x → WP d 21 23 [l0, l1] st h Q) ∧ (¬ (wr y ≤ wr x) → WP d 21 14 [l0, l1] st h Q)) := wp_icmp_ge (show (lcode 21)[13]? = some (.if_icmp .ge 23) by decide +kernel)
theorem x21_14 : WP d 21 14 [some (Value.ref a), l1] st h Q ↔ WP d 21 15 [some (Value.ref a), l1] (Value.ref a :: st) h Q := wp_aload (show (lcode 21)[14]? = some (.aload 0) by decide +kernel) rfl
theorem x21_15 : WP d 21 15 [l0, l1] (.ref a :: st) h Q ↔ gF (hRd h a) 3 0 (fun v => WP d 21 16 [l0, l1] (v :: st) h Q) := wp_getfield (show (lcode 21)[15]? = some (.getfield 192) by decide +kernel)
theorem x21_16 : WP d 21 16 [l0, some (vI x)] st h Q ↔ WP d 21 17 [l0, some (vI x)] (vI x :: st) h Q := wp_iload (show (lcode 21)[16]? = some (.iload 1) by decide +kernel) rfl
theorem x21_18 : WP d 21 18 [l0, l1] (v :: st) h Q ↔ (c1 v ∧ WP d 21 19 [l0, l1] (v :: v :: st) h Q) := wp_dup (show (lcode 21)[18]? = some (.dup) by decide +kernel)
theorem x21_19 : WP d 21 19 [l0, l1] (v :: st) h Q ↔ (sh st ∧ CALL d 54 [v] h (fun v h => WP d 21 20 [l0, l1] (v.toList ++ st) h Q)) := wp_call (n := 1) (show (lcode 21)[19]? = some (.invokestatic 54) by decide +kernel) (by decide +kernel) (by simp)
theorem x21_21 : WP d 21 21 [l0, some (vI x)] st h Q ↔ (nl l0 ∧ WP d 21 22 [l0, some (vI (x + 1))] st h Q) := wp_iinc (show (lcode 21)[21]? = some (.iinc 1 1) by decide +kernel) rfl (Nat.le_of_ble_eq_true rfl)
theorem x21_22 : WP d 21 22 [l0, l1] st h Q ↔ WP d 21 8 [l0, l1] st h Q := wp_goto (show (lcode 21)[22]? = some (.goto 8) by decide +kernel)
theorem x21_23 : WP d 21 23 [l0, l1] [] h Q ↔ Q none h := wp_return (show (lcode 21)[23]? = some (.return_) by decide +kernel)
-- 22: WakeOrder$History.remember
theorem x22_0 : WP d 22 0 [some (Value.ref a), l1, l2] st h Q ↔ WP d 22 1 [some (Value.ref a), l1, l2] (Value.ref a :: st) h Q := wp_aload (show (lcode 22)[0]? = some (.aload 0) by decide +kernel) rfl
theorem x22_1 : WP d 22 1 [l0, l1, l2] (.ref a :: st) h Q ↔ gF (hRd h a) 3 1 (fun v => WP d 22 2 [l0, l1, l2] (v :: st) h Q) := wp_getfield (show (lcode 22)[1]? = some (.getfield 193) by decide +kernel)
theorem x22_2 : WP d 22 2 [l0, l1, l2] (vI x :: st) h Q ↔ ((wr x < 0 → WP d 22 9 [l0, l1, l2] st h Q) ∧ (¬ (wr x < 0) → WP d 22 3 [l0, l1, l2] st h Q)) := wp_if_lt (show (lcode 22)[2]? = some (.ifCond .lt 9) by decide +kernel)
theorem x22_3 : WP d 22 3 [some (Value.ref a), l1, l2] st h Q ↔ WP d 22 4 [some (Value.ref a), l1, l2] (Value.ref a :: st) h Q := wp_aload (show (lcode 22)[3]? = some (.aload 0) by decide +kernel) rfl
theorem x22_4 : WP d 22 4 [l0, l1, l2] (.ref a :: st) h Q ↔ gF (hRd h a) 3 1 (fun v => WP d 22 5 [l0, l1, l2] (v :: st) h Q) := wp_getfield (show (lcode 22)[4]? = some (.getfield 193) by decide +kernel)
theorem x22_5 : WP d 22 5 [some (Value.ref a), l1, l2] st h Q ↔ WP d 22 6 [some (Value.ref a), l1, l2] (Value.ref a :: st) h Q := wp_aload (show (lcode 22)[5]? = some (.aload 0) by decide +kernel) rfl
theorem x22_6 : WP d 22 6 [l0, l1, l2] (.ref a :: st) h Q ↔ gF (hRd h a) 3 0 (fun v => WP d 22 7 [l0, l1, l2] (v :: st) h Q) := wp_getfield (show (lcode 22)[6]? = some (.getfield 192) by decide +kernel)
theorem x22_7 : WP d 22 7 [l0, l1, l2] (.ref a :: st) h Q ↔ aL (hRd h a) (fun v => WP d 22 8 [l0, l1, l2] (v :: st) h Q) := wp_arraylength (show (lcode 22)[7]? = some (.arraylength) by decide +kernel)
theorem x22_8 : WP d 22 8 [l0, l1, l2] (vI y :: vI x :: st) h Q ↔ ((wr x < wr y → WP d 22 12 [l0, l1, l2] st h Q) ∧ (¬ (wr x < wr y) → WP d 22 9 [l0, l1, l2] st h Q)) := wp_icmp_lt (show (lcode 22)[8]? = some (.if_icmp .lt 12) by decide +kernel)
theorem x22_9 : WP d 22 9 [some (Value.ref a), l1, l2] st h Q ↔ WP d 22 10 [some (Value.ref a), l1, l2] (Value.ref a :: st) h Q := wp_aload (show (lcode 22)[9]? = some (.aload 0) by decide +kernel) rfl
theorem x22_10 : WP d 22 10 [l0, l1, l2] st h Q ↔ WP d 22 11 [l0, l1, l2] (vI 0 :: st) h Q := wp_iconst (show (lcode 22)[10]? = some (.iconst 0) by decide +kernel)
theorem x22_11 : WP d 22 11 [l0, l1, l2] (vI x :: .ref a :: st) h Q ↔ pF (hRd h a) 3 1 (vI x) (fun c => WP d 22 12 [l0, l1, l2] st (hWr h a c) Q) := wp_putfield (show (lcode 22)[11]? = some (.putfield 193) by decide +kernel)
theorem x22_12 : WP d 22 12 [some (Value.ref a), l1, l2] st h Q ↔ WP d 22 13 [some (Value.ref a), l1, l2] (Value.ref a :: st) h Q := wp_aload (show (lcode 22)[12]? = some (.aload 0) by decide +kernel) rfl
theorem x22_13 : WP d 22 13 [l0, l1, l2] (.ref a :: st) h Q ↔ gF (hRd h a) 3 0 (fun v => WP d 22 14 [l0, l1, l2] (v :: st) h Q) := wp_getfield (show (lcode 22)[13]? = some (.getfield 192) by decide +kernel)
theorem x22_14 : WP d 22 14 [some (Value.ref a), l1, l2] st h Q ↔ WP d 22 15 [some (Value.ref a), l1, l2] (Value.ref a :: st) h Q := wp_aload (show (lcode 22)[14]? = some (.aload 0) by decide +kernel) rfl
theorem x22_15 : WP d 22 15 [l0, l1, l2] (.ref a :: st) h Q ↔ gF (hRd h a) 3 1 (fun v => WP d 22 16 [l0, l1, l2] (v :: st) h Q) := wp_getfield (show (lcode 22)[15]? = some (.getfield 193) by decide +kernel)
theorem x22_16 : WP d 22 16 [l0, l1, l2] (vI x :: .ref a :: st) h Q ↔ ldS (hRd h a) x (fun v => WP d 22 17 [l0, l1, l2] (v :: st) h Q) := wp_aaload (show (lcode 22)[16]? = some (.aaload) by decide +kernel)
theorem x22_17 : WP d 22 17 [l0, l1, l2] (Value.ref a :: st) h Q ↔ (nl l1 ∧ WP d 22 18 [l0, l1, some (Value.ref a)] st h Q) := wp_astore (show (lcode 22)[17]? = some (.astore 2) by decide +kernel) (Nat.le_of_ble_eq_true rfl)
theorem x22_18 : WP d 22 18 [l0, l1, some (Value.ref a)] st h Q ↔ WP d 22 19 [l0, l1, some (Value.ref a)] (Value.ref a :: st) h Q := wp_aload (show (lcode 22)[18]? = some (.aload 2) by decide +kernel) rfl
theorem x22_19 : WP d 22 19 [l0, l1, l2] (.ref a :: st) h Q ↔ WP d 22 20 [l0, l1, l2] st h Q := wp_ifnull (show (lcode 22)[19]? = some (.ifnull 23) by decide +kernel)
theorem x22_20 : WP d 22 20 [l0, l1, some (Value.ref a)] st h Q ↔ WP d 22 21 [l0, l1, some (Value.ref a)] (Value.ref a :: st) h Q := wp_aload (show (lcode 22)[20]? = some (.aload 2) by decide +kernel) rfl
theorem x22_21 : WP d 22 21 [l0, some (Value.ref a), l2] st h Q ↔ WP d 22 22 [l0, some (Value.ref a), l2] (Value.ref a :: st) h Q := wp_aload (show (lcode 22)[21]? = some (.aload 1) by decide +kernel) rfl
theorem x22_22 : WP d 22 22 [l0, l1, l2] (v1 :: v :: st) h Q ↔ (sh st ∧ CALL d 56 [v, v1] h (fun v h => WP d 22 23 [l0, l1, l2] (v.toList ++ st) h Q)) := wp_call (n := 2) (show (lcode 22)[22]? = some (.invokestatic 56) by decide +kernel) (by decide +kernel) (by simp)
theorem x22_23 : WP d 22 23 [some (Value.ref a), l1, l2] st h Q ↔ WP d 22 24 [some (Value.ref a), l1, l2] (Value.ref a :: st) h Q := wp_aload (show (lcode 22)[23]? = some (.aload 0) by decide +kernel) rfl
theorem x22_24 : WP d 22 24 [l0, l1, l2] (v :: st) h Q ↔ (c1 v ∧ WP d 22 25 [l0, l1, l2] (v :: v :: st) h Q) := wp_dup (show (lcode 22)[24]? = some (.dup) by decide +kernel)
theorem x22_25 : WP d 22 25 [l0, l1, l2] (.ref a :: st) h Q ↔ gF (hRd h a) 3 1 (fun v => WP d 22 26 [l0, l1, l2] (v :: st) h Q) := wp_getfield (show (lcode 22)[25]? = some (.getfield 193) by decide +kernel)
theorem x22_26 : WP d 22 26 [l0, l1, l2] st h Q ↔ WP d 22 27 [l0, l1, l2] (vI 1 :: st) h Q := wp_iconst (show (lcode 22)[26]? = some (.iconst 1) by decide +kernel)
theorem x22_27 : WP d 22 27 [l0, l1, l2] (vI y :: vI x :: st) h Q ↔ WP d 22 28 [l0, l1, l2] (vI (x + y) :: st) h Q := wp_iadd (show (lcode 22)[27]? = some (.iadd) by decide +kernel)
theorem x22_28 : WP d 22 28 [l0, l1, l2] (vI x :: .ref a :: st) h Q ↔ pF (hRd h a) 3 1 (vI x) (fun c => WP d 22 29 [l0, l1, l2] st (hWr h a c) Q) := wp_putfield (show (lcode 22)[28]? = some (.putfield 193) by decide +kernel)
theorem x22_29 : WP d 22 29 [some (Value.ref a), l1, l2] st h Q ↔ WP d 22 30 [some (Value.ref a), l1, l2] (Value.ref a :: st) h Q := wp_aload (show (lcode 22)[29]? = some (.aload 0) by decide +kernel) rfl
theorem x22_30 : WP d 22 30 [some (Value.ref a), l1, l2] st h Q ↔ WP d 22 31 [some (Value.ref a), l1, l2] (Value.ref a :: st) h Q := wp_aload (show (lcode 22)[30]? = some (.aload 0) by decide +kernel) rfl
theorem x22_31 : WP d 22 31 [l0, l1, l2] (.ref a :: st) h Q ↔ gF (hRd h a) 3 2 (fun v => WP d 22 32 [l0, l1, l2] (v :: st) h Q) := wp_getfield (show (lcode 22)[31]? = some (.getfield 194) by decide +kernel)
theorem x22_32 : WP d 22 32 [l0, l1, l2] st h Q ↔ WP d 22 33 [l0, l1, l2] (vI 1 :: st) h Q := wp_iconst (show (lcode 22)[32]? = some (.iconst 1) by decide +kernel)
theorem x22_33 : WP d 22 33 [l0, l1, l2] (vI y :: vI x :: st) h Q ↔ WP d 22 34 [l0, l1, l2] (vI (x + y) :: st) h Q := wp_iadd (show (lcode 22)[33]? = some (.iadd) by decide +kernel)
theorem x22_34 : WP d 22 34 [l0, l1, l2] st h Q ↔ WP d 22 35 [l0, l1, l2] (vI 20 :: st) h Q := wp_iconst (show (lcode 22)[34]? = some (.iconst 20) by decide +kernel)
theorem x22_35 : WP d 22 35 [l0, l1, l2] (vI y :: vI x :: st) h Q ↔ ((sd d ∧ sh st) ∧ WP d 22 36 [l0, l1, l2] (vI (if wr y < wr x then y else x) :: st) h Q) := wp_min (show (lcode 22)[35]? = some (.invokeinterface 1 0) by decide +kernel)
theorem x22_36 : WP d 22 36 [l0, l1, l2] (vI x :: .ref a :: st) h Q ↔ pF (hRd h a) 3 2 (vI x) (fun c => WP d 22 37 [l0, l1, l2] st (hWr h a c) Q) := wp_putfield (show (lcode 22)[36]? = some (.putfield 194) by decide +kernel)
theorem x22_37 : WP d 22 37 [l0, l1, l2] [] h Q ↔ Q none h := wp_return (show (lcode 22)[37]? = some (.return_) by decide +kernel)
-- 23: WakeOrder$History.takeBack
theorem x23_0 : WP d 23 0 [some (Value.ref a), l1, l2] st h Q ↔ WP d 23 1 [some (Value.ref a), l1, l2] (Value.ref a :: st) h Q := wp_aload (show (lcode 23)[0]? = some (.aload 0) by decide +kernel) rfl
theorem x23_1 : WP d 23 1 [l0, l1, l2] (.ref a :: st) h Q ↔ gF (hRd h a) 3 2 (fun v => WP d 23 2 [l0, l1, l2] (v :: st) h Q) := wp_getfield (show (lcode 23)[1]? = some (.getfield 194) by decide +kernel)
theorem x23_2 : WP d 23 2 [l0, l1, l2] (vI x :: st) h Q ↔ ((¬ wr x = 0 → WP d 23 5 [l0, l1, l2] st h Q) ∧ (¬ (¬ wr x = 0) → WP d 23 3 [l0, l1, l2] st h Q)) := wp_if_ne (show (lcode 23)[2]? = some (.ifCond .ne 5) by decide +kernel)
theorem x23_3 : WP d 23 3 [l0, l1, l2] st h Q ↔ WP d 23 4 [l0, l1, l2] (vI 0 :: st) h Q := wp_iconst (show (lcode 23)[3]? = some (.iconst 0) by decide +kernel)
theorem x23_4 : WP d 23 4 [l0, l1, l2] [vI x] h Q ↔ ((Int32.ofInt x = 0 ∨ Int32.ofInt x = 1) ∧ Q (some (vI x)) h) := wp_areturn (show (lcode 23)[4]? = some (.areturn) by decide +kernel)
theorem x23_5 : WP d 23 5 [some (Value.ref a), l1, l2] st h Q ↔ WP d 23 6 [some (Value.ref a), l1, l2] (Value.ref a :: st) h Q := wp_aload (show (lcode 23)[5]? = some (.aload 0) by decide +kernel) rfl
theorem x23_6 : WP d 23 6 [some (Value.ref a), l1, l2] st h Q ↔ WP d 23 7 [some (Value.ref a), l1, l2] (Value.ref a :: st) h Q := wp_aload (show (lcode 23)[6]? = some (.aload 0) by decide +kernel) rfl
theorem x23_7 : WP d 23 7 [l0, l1, l2] (.ref a :: st) h Q ↔ gF (hRd h a) 3 1 (fun v => WP d 23 8 [l0, l1, l2] (v :: st) h Q) := wp_getfield (show (lcode 23)[7]? = some (.getfield 193) by decide +kernel)
theorem x23_8 : WP d 23 8 [l0, l1, l2] (vI x :: st) h Q ↔ ((wr x ≤ 0 → WP d 23 14 [l0, l1, l2] st h Q) ∧ (¬ (wr x ≤ 0) → WP d 23 9 [l0, l1, l2] st h Q)) := wp_if_le (show (lcode 23)[8]? = some (.ifCond .le 14) by decide +kernel)
theorem x23_9 : WP d 23 9 [some (Value.ref a), l1, l2] st h Q ↔ WP d 23 10 [some (Value.ref a), l1, l2] (Value.ref a :: st) h Q := wp_aload (show (lcode 23)[9]? = some (.aload 0) by decide +kernel) rfl
theorem x23_10 : WP d 23 10 [l0, l1, l2] (.ref a :: st) h Q ↔ gF (hRd h a) 3 1 (fun v => WP d 23 11 [l0, l1, l2] (v :: st) h Q) := wp_getfield (show (lcode 23)[10]? = some (.getfield 193) by decide +kernel)
theorem x23_11 : WP d 23 11 [l0, l1, l2] st h Q ↔ WP d 23 12 [l0, l1, l2] (vI 1 :: st) h Q := wp_iconst (show (lcode 23)[11]? = some (.iconst 1) by decide +kernel)
theorem x23_12 : WP d 23 12 [l0, l1, l2] (vI y :: vI x :: st) h Q ↔ WP d 23 13 [l0, l1, l2] (vI (x - y) :: st) h Q := wp_isub (show (lcode 23)[12]? = some (.isub) by decide +kernel)
theorem x23_13 : WP d 23 13 [l0, l1, l2] st h Q ↔ WP d 23 19 [l0, l1, l2] st h Q := wp_goto (show (lcode 23)[13]? = some (.goto 19) by decide +kernel)
theorem x23_14 : WP d 23 14 [some (Value.ref a), l1, l2] st h Q ↔ WP d 23 15 [some (Value.ref a), l1, l2] (Value.ref a :: st) h Q := wp_aload (show (lcode 23)[14]? = some (.aload 0) by decide +kernel) rfl
theorem x23_15 : WP d 23 15 [l0, l1, l2] (.ref a :: st) h Q ↔ gF (hRd h a) 3 0 (fun v => WP d 23 16 [l0, l1, l2] (v :: st) h Q) := wp_getfield (show (lcode 23)[15]? = some (.getfield 192) by decide +kernel)
theorem x23_16 : WP d 23 16 [l0, l1, l2] (.ref a :: st) h Q ↔ aL (hRd h a) (fun v => WP d 23 17 [l0, l1, l2] (v :: st) h Q) := wp_arraylength (show (lcode 23)[16]? = some (.arraylength) by decide +kernel)
theorem x23_17 : WP d 23 17 [l0, l1, l2] st h Q ↔ WP d 23 18 [l0, l1, l2] (vI 1 :: st) h Q := wp_iconst (show (lcode 23)[17]? = some (.iconst 1) by decide +kernel)
theorem x23_18 : WP d 23 18 [l0, l1, l2] (vI y :: vI x :: st) h Q ↔ WP d 23 19 [l0, l1, l2] (vI (x - y) :: st) h Q := wp_isub (show (lcode 23)[18]? = some (.isub) by decide +kernel)
theorem x23_19 : WP d 23 19 [l0, l1, l2] (vI x :: .ref a :: st) h Q ↔ pF (hRd h a) 3 1 (vI x) (fun c => WP d 23 20 [l0, l1, l2] st (hWr h a c) Q) := wp_putfield (show (lcode 23)[19]? = some (.putfield 193) by decide +kernel)
theorem x23_20 : WP d 23 20 [some (Value.ref a), l1, l2] st h Q ↔ WP d 23 21 [some (Value.ref a), l1, l2] (Value.ref a :: st) h Q := wp_aload (show (lcode 23)[20]? = some (.aload 0) by decide +kernel) rfl
theorem x23_21 : WP d 23 21 [l0, l1, l2] (.ref a :: st) h Q ↔ gF (hRd h a) 3 1 (fun v => WP d 23 22 [l0, l1, l2] (v :: st) h Q) := wp_getfield (show (lcode 23)[21]? = some (.getfield 193) by decide +kernel)
theorem x23_22 : WP d 23 22 [some (Value.ref a), l1, l2] st h Q ↔ WP d 23 23 [some (Value.ref a), l1, l2] (Value.ref a :: st) h Q := wp_aload (show (lcode 23)[22]? = some (.aload 0) by decide +kernel) rfl
theorem x23_23 : WP d 23 23 [l0, l1, l2] (.ref a :: st) h Q ↔ gF (hRd h a) 3 0 (fun v => WP d 23 24 [l0, l1, l2] (v :: st) h Q) := wp_getfield (show (lcode 23)[23]? = some (.getfield 192) by decide +kernel)
theorem x23_24 : WP d 23 24 [l0, l1, l2] (.ref a :: st) h Q ↔ aL (hRd h a) (fun v => WP d 23 25 [l0, l1, l2] (v :: st) h Q) := wp_arraylength (show (lcode 23)[24]? = some (.arraylength) by decide +kernel)
theorem x23_25 : WP d 23 25 [l0, l1, l2] (vI y :: vI x :: st) h Q ↔ ((wr y ≤ wr x → WP d 23 32 [l0, l1, l2] st h Q) ∧ (¬ (wr y ≤ wr x) → WP d 23 26 [l0, l1, l2] st h Q)) := wp_icmp_ge (show (lcode 23)[25]? = some (.if_icmp .ge 32) by decide +kernel)
theorem x23_26 : WP d 23 26 [some (Value.ref a), l1, l2] st h Q ↔ WP d 23 27 [some (Value.ref a), l1, l2] (Value.ref a :: st) h Q := wp_aload (show (lcode 23)[26]? = some (.aload 0) by decide +kernel) rfl
theorem x23_27 : WP d 23 27 [l0, l1, l2] (.ref a :: st) h Q ↔ gF (hRd h a) 3 0 (fun v => WP d 23 28 [l0, l1, l2] (v :: st) h Q) := wp_getfield (show (lcode 23)[27]? = some (.getfield 192) by decide +kernel)
theorem x23_28 : WP d 23 28 [some (Value.ref a), l1, l2] st h Q ↔ WP d 23 29 [some (Value.ref a), l1, l2] (Value.ref a :: st) h Q := wp_aload (show (lcode 23)[28]? = some (.aload 0) by decide +kernel) rfl
theorem x23_29 : WP d 23 29 [l0, l1, l2] (.ref a :: st) h Q ↔ gF (hRd h a) 3 1 (fun v => WP d 23 30 [l0, l1, l2] (v :: st) h Q) := wp_getfield (show (lcode 23)[29]? = some (.getfield 193) by decide +kernel)
theorem x23_30 : WP d 23 30 [l0, l1, l2] (vI x :: .ref a :: st) h Q ↔ ldS (hRd h a) x (fun v => WP d 23 31 [l0, l1, l2] (v :: st) h Q) := wp_aaload (show (lcode 23)[30]? = some (.aaload) by decide +kernel)
theorem x23_31 : WP d 23 31 [l0, l1, l2] st h Q ↔ WP d 23 33 [l0, l1, l2] st h Q := wp_goto (show (lcode 23)[31]? = some (.goto 33) by decide +kernel)
theorem x23_32 : WP d 23 32 [l0, l1, l2] st h Q ↔ WP d 23 33 [l0, l1, l2] (.null :: st) h Q := wp_null (show (lcode 23)[32]? = some (.aconst_null) by decide +kernel)
theorem x23_33 : WP d 23 33 [l0, l1, l2] (Value.ref a :: st) h Q ↔ (nl l1 ∧ WP d 23 34 [l0, l1, some (Value.ref a)] st h Q) := wp_astore (show (lcode 23)[33]? = some (.astore 2) by decide +kernel) (Nat.le_of_ble_eq_true rfl)
theorem x23_34 : WP d 23 34 [l0, l1, some (Value.ref a)] st h Q ↔ WP d 23 35 [l0, l1, some (Value.ref a)] (Value.ref a :: st) h Q := wp_aload (show (lcode 23)[34]? = some (.aload 2) by decide +kernel) rfl
theorem x23_35 : WP d 23 35 [l0, l1, l2] (.ref a :: st) h Q ↔ WP d 23 36 [l0, l1, l2] st h Q := wp_ifnull (show (lcode 23)[35]? = some (.ifnull 39) by decide +kernel)
theorem x23_36 : WP d 23 36 [l0, some (Value.ref a), l2] st h Q ↔ WP d 23 37 [l0, some (Value.ref a), l2] (Value.ref a :: st) h Q := wp_aload (show (lcode 23)[36]? = some (.aload 1) by decide +kernel) rfl
theorem x23_37 : WP d 23 37 [l0, l1, some (Value.ref a)] st h Q ↔ WP d 23 38 [l0, l1, some (Value.ref a)] (Value.ref a :: st) h Q := wp_aload (show (lcode 23)[37]? = some (.aload 2) by decide +kernel) rfl
theorem x23_38 : WP d 23 38 [l0, l1, l2] (v1 :: v :: st) h Q ↔ (sh st ∧ CALL d 56 [v, v1] h (fun v h => WP d 23 39 [l0, l1, l2] (v.toList ++ st) h Q)) := wp_call (n := 2) (show (lcode 23)[38]? = some (.invokestatic 56) by decide +kernel) (by decide +kernel) (by simp)
theorem x23_39 : WP d 23 39 [some (Value.ref a), l1, l2] st h Q ↔ WP d 23 40 [some (Value.ref a), l1, l2] (Value.ref a :: st) h Q := wp_aload (show (lcode 23)[39]? = some (.aload 0) by decide +kernel) rfl
theorem x23_40 : WP d 23 40 [l0, l1, l2] (v :: st) h Q ↔ (c1 v ∧ WP d 23 41 [l0, l1, l2] (v :: v :: st) h Q) := wp_dup (show (lcode 23)[40]? = some (.dup) by decide +kernel)
theorem x23_41 : WP d 23 41 [l0, l1, l2] (.ref a :: st) h Q ↔ gF (hRd h a) 3 2 (fun v => WP d 23 42 [l0, l1, l2] (v :: st) h Q) := wp_getfield (show (lcode 23)[41]? = some (.getfield 194) by decide +kernel)
theorem x23_42 : WP d 23 42 [l0, l1, l2] st h Q ↔ WP d 23 43 [l0, l1, l2] (vI 1 :: st) h Q := wp_iconst (show (lcode 23)[42]? = some (.iconst 1) by decide +kernel)
theorem x23_43 : WP d 23 43 [l0, l1, l2] (vI y :: vI x :: st) h Q ↔ WP d 23 44 [l0, l1, l2] (vI (x - y) :: st) h Q := wp_isub (show (lcode 23)[43]? = some (.isub) by decide +kernel)
theorem x23_44 : WP d 23 44 [l0, l1, l2] (vI x :: .ref a :: st) h Q ↔ pF (hRd h a) 3 2 (vI x) (fun c => WP d 23 45 [l0, l1, l2] st (hWr h a c) Q) := wp_putfield (show (lcode 23)[44]? = some (.putfield 194) by decide +kernel)
theorem x23_45 : WP d 23 45 [l0, l1, l2] st h Q ↔ WP d 23 46 [l0, l1, l2] (vI 1 :: st) h Q := wp_iconst (show (lcode 23)[45]? = some (.iconst 1) by decide +kernel)
theorem x23_46 : WP d 23 46 [l0, l1, l2] [vI x] h Q ↔ ((Int32.ofInt x = 0 ∨ Int32.ofInt x = 1) ∧ Q (some (vI x)) h) := wp_areturn (show (lcode 23)[46]? = some (.areturn) by decide +kernel)
-- 24: WakeOrder$History.forget
theorem x24_0 : WP d 24 0 [some (Value.ref a)] st h Q ↔ WP d 24 1 [some (Value.ref a)] (Value.ref a :: st) h Q := wp_aload (show (lcode 24)[0]? = some (.aload 0) by decide +kernel) rfl
theorem x24_1 : WP d 24 1 [l0] st h Q ↔ WP d 24 2 [l0] (vI 0 :: st) h Q := wp_iconst (show (lcode 24)[1]? = some (.iconst 0) by decide +kernel)
theorem x24_2 : WP d 24 2 [l0] (vI x :: .ref a :: st) h Q ↔ pF (hRd h a) 3 2 (vI x) (fun c => WP d 24 3 [l0] st (hWr h a c) Q) := wp_putfield (show (lcode 24)[2]? = some (.putfield 194) by decide +kernel)
theorem x24_3 : WP d 24 3 [l0] [] h Q ↔ Q none h := wp_return (show (lcode 24)[3]? = some (.return_) by decide +kernel)
-- 25: WakeOrder$Images.<init>
theorem x25_0 : WP d 25 0 [some (Value.ref a), l1] st h Q ↔ WP d 25 1 [some (Value.ref a), l1] (Value.ref a :: st) h Q := wp_aload (show (lcode 25)[0]? = some (.aload 0) by decide +kernel) rfl
theorem x25_1 : WP d 25 1 [l0, l1] (.ref a :: st) h Q ↔ ((sd d ∧ sh st) ∧ WP d 25 2 [l0, l1] st h Q) := wp_pop (show (lcode 25)[1]? = some (.pop) by decide +kernel)
theorem x25_2 : WP d 25 2 [some (Value.ref a), l1] st h Q ↔ WP d 25 3 [some (Value.ref a), l1] (Value.ref a :: st) h Q := wp_aload (show (lcode 25)[2]? = some (.aload 0) by decide +kernel) rfl
theorem x25_3 : WP d 25 3 [l0, l1] st h Q ↔ WP d 25 4 [l0, l1] (vI 2 :: st) h Q := wp_iconst (show (lcode 25)[3]? = some (.iconst 2) by decide +kernel)
theorem x25_5 : WP d 25 5 [l0, l1] (Value.ref b :: .ref a :: st) h Q ↔ pF (hRd h a) 4 0 (Value.ref b) (fun c => WP d 25 6 [l0, l1] st (hWr h a c) Q) := wp_putstatic (show (lcode 25)[5]? = some (.putstatic 256) by decide +kernel)
theorem x25_6 : WP d 25 6 [some (Value.ref a), l1] st h Q ↔ WP d 25 7 [some (Value.ref a), l1] (Value.ref a :: st) h Q := wp_aload (show (lcode 25)[6]? = some (.aload 0) by decide +kernel) rfl
theorem x25_7 : WP d 25 7 [l0, l1] st h Q ↔ WP d 25 8 [l0, l1] (vI 2 :: st) h Q := wp_iconst (show (lcode 25)[7]? = some (.iconst 2) by decide +kernel)
theorem x25_9 : WP d 25 9 [l0, l1] (Value.ref b :: .ref a :: st) h Q ↔ pF (hRd h a) 4 1 (Value.ref b) (fun c => WP d 25 10 [l0, l1] st (hWr h a c) Q) := wp_putstatic (show (lcode 25)[9]? = some (.putstatic 257) by decide +kernel)
theorem x25_10 : WP d 25 10 [some (Value.ref a), l1] st h Q ↔ WP d 25 11 [some (Value.ref a), l1] (Value.ref a :: st) h Q := wp_aload (show (lcode 25)[10]? = some (.aload 0) by decide +kernel) rfl
theorem x25_11 : WP d 25 11 [l0, l1] st h Q ↔ WP d 25 12 [l0, l1] (vI 2 :: st) h Q := wp_iconst (show (lcode 25)[11]? = some (.iconst 2) by decide +kernel)
theorem x25_13 : WP d 25 13 [l0, l1] (Value.ref b :: .ref a :: st) h Q ↔ pF (hRd h a) 4 2 (Value.ref b) (fun c => WP d 25 14 [l0, l1] st (hWr h a c) Q) := wp_putstatic (show (lcode 25)[13]? = some (.putstatic 258) by decide +kernel)
theorem x25_14 : WP d 25 14 [l0, l1] st h Q ↔ WP d 25 15 [l0, l1] (vI 0 :: st) h Q := wp_iconst (show (lcode 25)[14]? = some (.iconst 0) by decide +kernel)
theorem x25_15 : WP d 25 15 [l0, l1] (vI x :: st) h Q ↔ (nl l0 ∧ WP d 25 16 [l0, some (vI x)] st h Q) := wp_istore (show (lcode 25)[15]? = some (.istore 1) by decide +kernel) (Nat.le_of_ble_eq_true rfl)
theorem x25_16 : WP d 25 16 [l0, l1] st h Q ↔ WPC d 25 17 [l0, l1] st h Q := wp_nop (show (lcode 25)[16]? = some (.nop) by decide +kernel)
theorem x25_17 : WP d 25 17 [l0, some (vI x)] st h Q ↔ WP d 25 18 [l0, some (vI x)] (vI x :: st) h Q := wp_iload (show (lcode 25)[17]? = some (.iload 1) by decide +kernel) rfl
theorem x25_18 : WP d 25 18 [some (Value.ref a), l1] st h Q ↔ WP d 25 19 [some (Value.ref a), l1] (Value.ref a :: st) h Q := wp_aload (show (lcode 25)[18]? = some (.aload 0) by decide +kernel) rfl
theorem x25_19 : WP d 25 19 [l0, l1] (.ref a :: st) h Q ↔ gF (hRd h a) 4 0 (fun v => WP d 25 20 [l0, l1] (v :: st) h Q) := wp_getfield (show (lcode 25)[19]? = some (.getfield 256) by decide +kernel)
theorem x25_20 : WP d 25 20 [l0, l1] (.ref a :: st) h Q ↔ aL (hRd h a) (fun v => WP d 25 21 [l0, l1] (v :: st) h Q) := wp_arraylength (show (lcode 25)[20]? = some (.arraylength) by decide +kernel)
theorem x25_21 : WP d 25 21 [l0, l1] (vI y :: vI x :: st) h Q ↔ ((wr y ≤ wr x → WP d 25 31 [l0, l1] st h Q) ∧ (¬ (wr y ≤ wr x) → WP d 25 22 [l0, l1] st h Q)) := wp_icmp_ge (show (lcode 25)[21]? = some (.if_icmp .ge 31) by decide +kernel)
theorem x25_22 : WP d 25 22 [some (Value.ref a), l1] st h Q ↔ WP d 25 23 [some (Value.ref a), l1] (Value.ref a :: st) h Q := wp_aload (show (lcode 25)[22]? = some (.aload 0) by decide +kernel) rfl
theorem x25_23 : WP d 25 23 [l0, l1] (.ref a :: st) h Q ↔ gF (hRd h a) 4 0 (fun v => WP d 25 24 [l0, l1] (v :: st) h Q) := wp_getfield (show (lcode 25)[23]? = some (.getfield 256) by decide +kernel)
theorem x25_24 : WP d 25 24 [l0, some (vI x)] st h Q ↔ WP d 25 25 [l0, some (vI x)] (vI x :: st) h Q := wp_iload (show (lcode 25)[24]? = some (.iload 1) by decide +kernel) rfl
theorem x25_26 : WP d 25 26 [l0, l1] (v :: st) h Q ↔ (c1 v ∧ WP d 25 27 [l0, l1] (v :: v :: st) h Q) := wp_dup (show (lcode 25)[26]? = some (.dup) by decide +kernel)
theorem x25_27 : WP d 25 27 [l0, l1] (v :: st) h Q ↔ (sh st ∧ CALL d 54 [v] h (fun v h => WP d 25 28 [l0, l1] (v.toList ++ st) h Q)) := wp_call (n := 1) (show (lcode 25)[27]? = some (.invokestatic 54) by decide +kernel) (by decide +kernel) (by simp)
theorem x25_29 : WP d 25 29 [l0, some (vI x)] st h Q ↔ (nl l0 ∧ WP d 25 30 [l0, some (vI (x + 1))] st h Q) := wp_iinc (show (lcode 25)[29]? = some (.iinc 1 1) by decide +kernel) rfl (Nat.le_of_ble_eq_true rfl)
theorem x25_30 : WP d 25 30 [l0, l1] st h Q ↔ WP d 25 16 [l0, l1] st h Q := wp_goto (show (lcode 25)[30]? = some (.goto 16) by decide +kernel)
theorem x25_31 : WP d 25 31 [l0, l1] [] h Q ↔ Q none h := wp_return (show (lcode 25)[31]? = some (.return_) by decide +kernel)
-- 26: WakeOrder$Images.store
theorem x26_0 : WP d 26 0 [l0, some (vI x), l2, l3, l4] st h Q ↔ WP d 26 1 [l0, some (vI x), l2, l3, l4] (vI x :: st) h Q := wp_iload (show (lcode 26)[0]? = some (.iload 1) by decide +kernel) rfl
theorem x26_1 : WP d 26 1 [l0, l1, l2, l3, l4] (vI x :: st) h Q ↔ ((wr x < 0 → WP d 26 12 [l0, l1, l2, l3, l4] st h Q) ∧ (¬ (wr x < 0) → WP d 26 2 [l0, l1, l2, l3, l4] st h Q)) := wp_if_lt (show (lcode 26)[1]? = some (.ifCond .lt 12) by decide +kernel)
theorem x26_2 : WP d 26 2 [l0, some (vI x), l2, l3, l4] st h Q ↔ WP d 26 3 [l0, some (vI x), l2, l3, l4] (vI x :: st) h Q := wp_iload (show (lcode 26)[2]? = some (.iload 1) by decide +kernel) rfl
theorem x26_3 : WP d 26 3 [some (Value.ref a), l1, l2, l3, l4] st h Q ↔ WP d 26 4 [some (Value.ref a), l1, l2, l3, l4] (Value.ref a :: st) h Q := wp_aload (show (lcode 26)[3]? = some (.aload 0) by decide +kernel) rfl
theorem x26_4 : WP d 26 4 [l0, l1, l2, l3, l4] (.ref a :: st) h Q ↔ gF (hRd h a) 4 0 (fun v => WP d 26 5 [l0, l1, l2, l3, l4] (v :: st) h Q) := wp_getfield (show (lcode 26)[4]? = some (.getfield 256) by decide +kernel)
theorem x26_5 : WP d 26 5 [l0, l1, l2, l3, l4] (.ref a :: st) h Q ↔ aL (hRd h a) (fun v => WP d 26 6 [l0, l1, l2, l3, l4] (v :: st) h Q) := wp_arraylength (show (lcode 26)[5]? = some (.arraylength) by decide +kernel)
theorem x26_6 : WP d 26 6 [l0, l1, l2, l3, l4] (vI y :: vI x :: st) h Q ↔ ((wr y ≤ wr x → WP d 26 12 [l0, l1, l2, l3, l4] st h Q) ∧ (¬ (wr y ≤ wr x) → WP d 26 7 [l0, l1, l2, l3, l4] st h Q)) := wp_icmp_ge (show (lcode 26)[6]? = some (.if_icmp .ge 12) by decide +kernel)
theorem x26_7 : WP d 26 7 [some (Value.ref a), l1, l2, l3, l4] st h Q ↔ WP d 26 8 [some (Value.ref a), l1, l2, l3, l4] (Value.ref a :: st) h Q := wp_aload (show (lcode 26)[7]? = some (.aload 0) by decide +kernel) rfl
theorem x26_8 : WP d 26 8 [l0, l1, l2, l3, l4] (.ref a :: st) h Q ↔ gF (hRd h a) 4 0 (fun v => WP d 26 9 [l0, l1, l2, l3, l4] (v :: st) h Q) := wp_getfield (show (lcode 26)[8]? = some (.getfield 256) by decide +kernel)
theorem x26_9 : WP d 26 9 [l0, some (vI x), l2, l3, l4] st h Q ↔ WP d 26 10 [l0, some (vI x), l2, l3, l4] (vI x :: st) h Q := wp_iload (show (lcode 26)[9]? = some (.iload 1) by decide +kernel) rfl
theorem x26_10 : WP d 26 10 [l0, l1, l2, l3, l4] (vI x :: .ref a :: st) h Q ↔ ldS (hRd h a) x (fun v => WP d 26 11 [l0, l1, l2, l3, l4] (v :: st) h Q) := wp_aaload (show (lcode 26)[10]? = some (.aaload) by decide +kernel)
theorem x26_11 : WP d 26 11 [l0, l1, l2, l3, l4] st h Q ↔ WP d 26 13 [l0, l1, l2, l3, l4] st h Q := wp_goto (show (lcode 26)[11]? = some (.goto 13) by decide +kernel)
theorem x26_12 : WP d 26 12 [l0, l1, l2, l3, l4] st h Q ↔ WP d 26 13 [l0, l1, l2, l3, l4] (.null :: st) h Q := wp_null (show (lcode 26)[12]? = some (.aconst_null) by decide +kernel)
theorem x26_13 : WP d 26 13 [l0, l1, l2, l3, l4] (Value.ref a :: st) h Q ↔ (nl l3 ∧ WP d 26 14 [l0, l1, l2, l3, some (Value.ref a)] st h Q) := wp_astore (show (lcode 26)[13]? = some (.astore 4) by decide +kernel) (Nat.le_of_ble_eq_true rfl)
theorem x26_14 : WP d 26 14 [l0, l1, l2, l3, some (Value.ref a)] st h Q ↔ WP d 26 15 [l0, l1, l2, l3, some (Value.ref a)] (Value.ref a :: st) h Q := wp_aload (show (lcode 26)[14]? = some (.aload 4) by decide +kernel) rfl
theorem x26_15 : WP d 26 15 [l0, l1, l2, l3, l4] (.ref a :: st) h Q ↔ WP d 26 16 [l0, l1, l2, l3, l4] st h Q := wp_ifnull (show (lcode 26)[15]? = some (.ifnull 29) by decide +kernel)
theorem x26_16 : WP d 26 16 [l0, l1, l2, l3, some (Value.ref a)] st h Q ↔ WP d 26 17 [l0, l1, l2, l3, some (Value.ref a)] (Value.ref a :: st) h Q := wp_aload (show (lcode 26)[16]? = some (.aload 4) by decide +kernel) rfl
theorem x26_17 : WP d 26 17 [l0, l1, some (Value.ref a), l3, l4] st h Q ↔ WP d 26 18 [l0, l1, some (Value.ref a), l3, l4] (Value.ref a :: st) h Q := wp_aload (show (lcode 26)[17]? = some (.aload 2) by decide +kernel) rfl
theorem x26_18 : WP d 26 18 [l0, l1, l2, l3, l4] (v1 :: v :: st) h Q ↔ (sh st ∧ CALL d 56 [v, v1] h (fun v h => WP d 26 19 [l0, l1, l2, l3, l4] (v.toList ++ st) h Q)) := wp_call (n := 2) (show (lcode 26)[18]? = some (.invokestatic 56) by decide +kernel) (by decide +kernel) (by simp)
theorem x26_19 : WP d 26 19 [some (Value.ref a), l1, l2, l3, l4] st h Q ↔ WP d 26 20 [some (Value.ref a), l1, l2, l3, l4] (Value.ref a :: st) h Q := wp_aload (show (lcode 26)[19]? = some (.aload 0) by decide +kernel) rfl
theorem x26_20 : WP d 26 20 [l0, l1, l2, l3, l4] (.ref a :: st) h Q ↔ gF (hRd h a) 4 1 (fun v => WP d 26 21 [l0, l1, l2, l3, l4] (v :: st) h Q) := wp_getfield (show (lcode 26)[20]? = some (.getfield 257) by decide +kernel)
theorem x26_21 : WP d 26 21 [l0, some (vI x), l2, l3, l4] st h Q ↔ WP d 26 22 [l0, some (vI x), l2, l3, l4] (vI x :: st) h Q := wp_iload (show (lcode 26)[21]? = some (.iload 1) by decide +kernel) rfl
theorem x26_22 : WP d 26 22 [l0, l1, l2, some (vI x), l4] st h Q ↔ WP d 26 23 [l0, l1, l2, some (vI x), l4] (vI x :: st) h Q := wp_iload (show (lcode 26)[22]? = some (.iload 3) by decide +kernel) rfl
theorem x26_23 : WP d 26 23 [l0, l1, l2, l3, l4] (vI y :: vI x :: .ref a :: st) h Q ↔ stA (hRd h a) a x (vI y) (fun c => WP d 26 24 [l0, l1, l2, l3, l4] st (hWr h a c) Q) := wp_iastore (show (lcode 26)[23]? = some (.iastore) by decide +kernel)
theorem x26_24 : WP d 26 24 [some (Value.ref a), l1, l2, l3, l4] st h Q ↔ WP d 26 25 [some (Value.ref a), l1, l2, l3, l4] (Value.ref a :: st) h Q := wp_aload (show (lcode 26)[24]? = some (.aload 0) by decide +kernel) rfl
theorem x26_25 : WP d 26 25 [l0, l1, l2, l3, l4] (.ref a :: st) h Q ↔ gF (hRd h a) 4 2 (fun v => WP d 26 26 [l0, l1, l2, l3, l4] (v :: st) h Q) := wp_getfield (show (lcode 26)[25]? = some (.getfield 258) by decide +kernel)
theorem x26_26 : WP d 26 26 [l0, some (vI x), l2, l3, l4] st h Q ↔ WP d 26 27 [l0, some (vI x), l2, l3, l4] (vI x :: st) h Q := wp_iload (show (lcode 26)[26]? = some (.iload 1) by decide +kernel) rfl
theorem x26_27 : WP d 26 27 [l0, l1, l2, l3, l4] st h Q ↔ WP d 26 28 [l0, l1, l2, l3, l4] (vI 1 :: st) h Q := wp_iconst (show (lcode 26)[27]? = some (.iconst 1) by decide +kernel)
theorem x26_28 : WP d 26 28 [l0, l1, l2, l3, l4] (vI y :: vI x :: .ref a :: st) h Q ↔ stB (hRd h a) x y (fun c => WP d 26 29 [l0, l1, l2, l3, l4] st (hWr h a c) Q) := wp_bastore (show (lcode 26)[28]? = some (.bastore) by decide +kernel)
theorem x26_29 : WP d 26 29 [l0, l1, l2, l3, l4] [] h Q ↔ Q none h := wp_return (show (lcode 26)[29]? = some (.return_) by decide +kernel)
-- 27: WakeOrder$Images.restore
theorem x27_0 : WP d 27 0 [l0, some (vI x), l2, l3] st h Q ↔ WP d 27 1 [l0, some (vI x), l2, l3] (vI x :: st) h Q := wp_iload (show (lcode 27)[0]? = some (.iload 1) by decide +kernel) rfl
theorem x27_1 : WP d 27 1 [l0, l1, l2, l3] (vI x :: st) h Q ↔ ((wr x < 0 → WP d 27 12 [l0, l1, l2, l3] st h Q) ∧ (¬ (wr x < 0) → WP d 27 2 [l0, l1, l2, l3] st h Q)) := wp_if_lt (show (lcode 27)[1]? = some (.ifCond .lt 12) by decide +kernel)
theorem x27_2 : WP d 27 2 [l0, some (vI x), l2, l3] st h Q ↔ WP d 27 3 [l0, some (vI x), l2, l3] (vI x :: st) h Q := wp_iload (show (lcode 27)[2]? = some (.iload 1) by decide +kernel) rfl
theorem x27_3 : WP d 27 3 [some (Value.ref a), l1, l2, l3] st h Q ↔ WP d 27 4 [some (Value.ref a), l1, l2, l3] (Value.ref a :: st) h Q := wp_aload (show (lcode 27)[3]? = some (.aload 0) by decide +kernel) rfl
theorem x27_4 : WP d 27 4 [l0, l1, l2, l3] (.ref a :: st) h Q ↔ gF (hRd h a) 4 0 (fun v => WP d 27 5 [l0, l1, l2, l3] (v :: st) h Q) := wp_getfield (show (lcode 27)[4]? = some (.getfield 256) by decide +kernel)
theorem x27_5 : WP d 27 5 [l0, l1, l2, l3] (.ref a :: st) h Q ↔ aL (hRd h a) (fun v => WP d 27 6 [l0, l1, l2, l3] (v :: st) h Q) := wp_arraylength (show (lcode 27)[5]? = some (.arraylength) by decide +kernel)
theorem x27_6 : WP d 27 6 [l0, l1, l2, l3] (vI y :: vI x :: st) h Q ↔ ((wr y ≤ wr x → WP d 27 12 [l0, l1, l2, l3] st h Q) ∧ (¬ (wr y ≤ wr x) → WP d 27 7 [l0, l1, l2, l3] st h Q)) := wp_icmp_ge (show (lcode 27)[6]? = some (.if_icmp .ge 12) by decide +kernel)
theorem x27_7 : WP d 27 7 [some (Value.ref a), l1, l2, l3] st h Q ↔ WP d 27 8 [some (Value.ref a), l1, l2, l3] (Value.ref a :: st) h Q := wp_aload (show (lcode 27)[7]? = some (.aload 0) by decide +kernel) rfl
theorem x27_8 : WP d 27 8 [l0, l1, l2, l3] (.ref a :: st) h Q ↔ gF (hRd h a) 4 0 (fun v => WP d 27 9 [l0, l1, l2, l3] (v :: st) h Q) := wp_getfield (show (lcode 27)[8]? = some (.getfield 256) by decide +kernel)
theorem x27_9 : WP d 27 9 [l0, some (vI x), l2, l3] st h Q ↔ WP d 27 10 [l0, some (vI x), l2, l3] (vI x :: st) h Q := wp_iload (show (lcode 27)[9]? = some (.iload 1) by decide +kernel) rfl
theorem x27_10 : WP d 27 10 [l0, l1, l2, l3] (vI x :: .ref a :: st) h Q ↔ ldS (hRd h a) x (fun v => WP d 27 11 [l0, l1, l2, l3] (v :: st) h Q) := wp_aaload (show (lcode 27)[10]? = some (.aaload) by decide +kernel)
theorem x27_11 : WP d 27 11 [l0, l1, l2, l3] st h Q ↔ WP d 27 13 [l0, l1, l2, l3] st h Q := wp_goto (show (lcode 27)[11]? = some (.goto 13) by decide +kernel)
theorem x27_12 : WP d 27 12 [l0, l1, l2, l3] st h Q ↔ WP d 27 13 [l0, l1, l2, l3] (.null :: st) h Q := wp_null (show (lcode 27)[12]? = some (.aconst_null) by decide +kernel)
theorem x27_13 : WP d 27 13 [l0, l1, l2, l3] (Value.ref a :: st) h Q ↔ (nl l2 ∧ WP d 27 14 [l0, l1, l2, some (Value.ref a)] st h Q) := wp_astore (show (lcode 27)[13]? = some (.astore 3) by decide +kernel) (Nat.le_of_ble_eq_true rfl)
theorem x27_14 : WP d 27 14 [l0, l1, l2, some (Value.ref a)] st h Q ↔ WP d 27 15 [l0, l1, l2, some (Value.ref a)] (Value.ref a :: st) h Q := wp_aload (show (lcode 27)[14]? = some (.aload 3) by decide +kernel) rfl
theorem x27_15 : WP d 27 15 [l0, l1, l2, l3] (.ref a :: st) h Q ↔ WP d 27 16 [l0, l1, l2, l3] st h Q := wp_ifnull (show (lcode 27)[15]? = some (.ifnull 19) by decide +kernel)
theorem x27_16 : WP d 27 16 [l0, l1, some (Value.ref a), l3] st h Q ↔ WP d 27 17 [l0, l1, some (Value.ref a), l3] (Value.ref a :: st) h Q := wp_aload (show (lcode 27)[16]? = some (.aload 2) by decide +kernel) rfl
theorem x27_17 : WP d 27 17 [l0, l1, l2, some (Value.ref a)] st h Q ↔ WP d 27 18 [l0, l1, l2, some (Value.ref a)] (Value.ref a :: st) h Q := wp_aload (show (lcode 27)[17]? = some (.aload 3) by decide +kernel) rfl
theorem x27_18 : WP d 27 18 [l0, l1, l2, l3] (v1 :: v :: st) h Q ↔ (sh st ∧ CALL d 56 [v, v1] h (fun v h => WP d 27 19 [l0, l1, l2, l3] (v.toList ++ st) h Q)) := wp_call (n := 2) (show (lcode 27)[18]? = some (.invokestatic 56) by decide +kernel) (by decide +kernel) (by simp)
theorem x27_19 : WP d 27 19 [l0, l1, l2, l3] [] h Q ↔ Q none h := wp_return (show (lcode 27)[19]? = some (.return_) by decide +kernel)
-- 28: WakeOrder$Images.forget
theorem x28_0 : WP d 28 0 [l0, l1] st h Q ↔ WP d 28 1 [l0, l1] (vI 0 :: st) h Q := wp_iconst (show (lcode 28)[0]? = some (.iconst 0) by decide +kernel)
theorem x28_1 : WP d 28 1 [l0, l1] (vI x :: st) h Q ↔ (nl l0 ∧ WP d 28 2 [l0, some (vI x)] st h Q) := wp_istore (show (lcode 28)[1]? = some (.istore 1) by decide +kernel) (Nat.le_of_ble_eq_true rfl)
theorem x28_2 : WP d 28 2 [l0, l1] st h Q ↔ WPC d 28 3 [l0, l1] st h Q := wp_nop (show (lcode 28)[2]? = some (.nop) by decide +kernel)
theorem x28_3 : WP d 28 3 [l0, some (vI x)] st h Q ↔ WP d 28 4 [l0, some (vI x)] (vI x :: st) h Q := wp_iload (show (lcode 28)[3]? = some (.iload 1) by decide +kernel) rfl
theorem x28_4 : WP d 28 4 [some (Value.ref a), l1] st h Q ↔ WP d 28 5 [some (Value.ref a), l1] (Value.ref a :: st) h Q := wp_aload (show (lcode 28)[4]? = some (.aload 0) by decide +kernel) rfl
theorem x28_5 : WP d 28 5 [l0, l1] (.ref a :: st) h Q ↔ gF (hRd h a) 4 2 (fun v => WP d 28 6 [l0, l1] (v :: st) h Q) := wp_getfield (show (lcode 28)[5]? = some (.getfield 258) by decide +kernel)
theorem x28_6 : WP d 28 6 [l0, l1] (.ref a :: st) h Q ↔ aL (hRd h a) (fun v => WP d 28 7 [l0, l1] (v :: st) h Q) := wp_arraylength (show (lcode 28)[6]? = some (.arraylength) by decide +kernel)
theorem x28_7 : WP d 28 7 [l0, l1] (vI y :: vI x :: st) h Q ↔ ((wr y ≤ wr x → WP d 28 15 [l0, l1] st h Q) ∧ (¬ (wr y ≤ wr x) → WP d 28 8 [l0, l1] st h Q)) := wp_icmp_ge (show (lcode 28)[7]? = some (.if_icmp .ge 15) by decide +kernel)
theorem x28_8 : WP d 28 8 [some (Value.ref a), l1] st h Q ↔ WP d 28 9 [some (Value.ref a), l1] (Value.ref a :: st) h Q := wp_aload (show (lcode 28)[8]? = some (.aload 0) by decide +kernel) rfl
theorem x28_9 : WP d 28 9 [l0, l1] (.ref a :: st) h Q ↔ gF (hRd h a) 4 2 (fun v => WP d 28 10 [l0, l1] (v :: st) h Q) := wp_getfield (show (lcode 28)[9]? = some (.getfield 258) by decide +kernel)
theorem x28_10 : WP d 28 10 [l0, some (vI x)] st h Q ↔ WP d 28 11 [l0, some (vI x)] (vI x :: st) h Q := wp_iload (show (lcode 28)[10]? = some (.iload 1) by decide +kernel) rfl
theorem x28_11 : WP d 28 11 [l0, l1] st h Q ↔ WP d 28 12 [l0, l1] (vI 0 :: st) h Q := wp_iconst (show (lcode 28)[11]? = some (.iconst 0) by decide +kernel)
theorem x28_12 : WP d 28 12 [l0, l1] (vI y :: vI x :: .ref a :: st) h Q ↔ stB (hRd h a) x y (fun c => WP d 28 13 [l0, l1] st (hWr h a c) Q) := wp_bastore (show (lcode 28)[12]? = some (.bastore) by decide +kernel)
theorem x28_13 : WP d 28 13 [l0, some (vI x)] st h Q ↔ (nl l0 ∧ WP d 28 14 [l0, some (vI (x + 1))] st h Q) := wp_iinc (show (lcode 28)[13]? = some (.iinc 1 1) by decide +kernel) rfl (Nat.le_of_ble_eq_true rfl)
theorem x28_14 : WP d 28 14 [l0, l1] st h Q ↔ WP d 28 2 [l0, l1] st h Q := wp_goto (show (lcode 28)[14]? = some (.goto 2) by decide +kernel)
theorem x28_15 : WP d 28 15 [l0, l1] [] h Q ↔ Q none h := wp_return (show (lcode 28)[15]? = some (.return_) by decide +kernel)
-- 29: WakeOrder$Reader.<init>
theorem x29_0 : WP d 29 0 [some (Value.ref a)] st h Q ↔ WP d 29 1 [some (Value.ref a)] (Value.ref a :: st) h Q := wp_aload (show (lcode 29)[0]? = some (.aload 0) by decide +kernel) rfl
theorem x29_1 : WP d 29 1 [l0] (.ref a :: st) h Q ↔ ((sd d ∧ sh st) ∧ WP d 29 2 [l0] st h Q) := wp_pop (show (lcode 29)[1]? = some (.pop) by decide +kernel)
theorem x29_2 : WP d 29 2 [some (Value.ref a)] st h Q ↔ WP d 29 3 [some (Value.ref a)] (Value.ref a :: st) h Q := wp_aload (show (lcode 29)[2]? = some (.aload 0) by decide +kernel) rfl
theorem x29_3 : WP d 29 3 [l0] st h Q ↔ WP d 29 4 [l0] (vI 220 :: st) h Q := wp_iconst (show (lcode 29)[3]? = some (.iconst 220) by decide +kernel)
theorem x29_5 : WP d 29 5 [l0] (Value.ref b :: .ref a :: st) h Q ↔ pF (hRd h a) 5 0 (Value.ref b) (fun c => WP d 29 6 [l0] st (hWr h a c) Q) := wp_putstatic (show (lcode 29)[5]? = some (.putstatic 320) by decide +kernel)
theorem x29_6 : WP d 29 6 [some (Value.ref a)] st h Q ↔ WP d 29 7 [some (Value.ref a)] (Value.ref a :: st) h Q := wp_aload (show (lcode 29)[6]? = some (.aload 0) by decide +kernel) rfl
theorem x29_8 : WP d 29 8 [l0] (v :: st) h Q ↔ (c1 v ∧ WP d 29 9 [l0] (v :: v :: st) h Q) := wp_dup (show (lcode 29)[8]? = some (.dup) by decide +kernel)
theorem x29_9 : WP d 29 9 [l0] (v :: st) h Q ↔ (sh st ∧ CALL d 16 [v] h (fun v h => WP d 29 10 [l0] (v.toList ++ st) h Q)) := wp_call (n := 1) (show (lcode 29)[9]? = some (.invokestatic 16) by decide +kernel) (by decide +kernel) (by simp)
theorem x29_10 : WP d 29 10 [l0] (Value.ref b :: .ref a :: st) h Q ↔ pF (hRd h a) 5 1 (Value.ref b) (fun c => WP d 29 11 [l0] st (hWr h a c) Q) := wp_putstatic (show (lcode 29)[10]? = some (.putstatic 321) by decide +kernel)
theorem x29_11 : WP d 29 11 [some (Value.ref a)] st h Q ↔ WP d 29 12 [some (Value.ref a)] (Value.ref a :: st) h Q := wp_aload (show (lcode 29)[11]? = some (.aload 0) by decide +kernel) rfl
theorem x29_12 : WP d 29 12 [l0] st h Q ↔ WP d 29 13 [l0] (vI (-1) :: st) h Q := wp_iconst (show (lcode 29)[12]? = some (.iconst (-1)) by decide +kernel)
theorem x29_13 : WP d 29 13 [l0] (vI x :: .ref a :: st) h Q ↔ pF (hRd h a) 5 4 (vI x) (fun c => WP d 29 14 [l0] st (hWr h a c) Q) := wp_putfield (show (lcode 29)[13]? = some (.putfield 324) by decide +kernel)
theorem x29_14 : WP d 29 14 [l0] [] h Q ↔ Q none h := wp_return (show (lcode 29)[14]? = some (.return_) by decide +kernel)
-- 30: WakeOrder$Reader.append
theorem x30_0 : WP d 30 0 [some (Value.ref a), l1] st h Q ↔ WP d 30 1 [some (Value.ref a), l1] (Value.ref a :: st) h Q := wp_aload (show (lcode 30)[0]? = some (.aload 0) by decide +kernel) rfl
theorem x30_1 : WP d 30 1 [l0, l1] (.ref a :: st) h Q ↔ gF (hRd h a) 5 2 (fun v => WP d 30 2 [l0, l1] (v :: st) h Q) := wp_getfield (show (lcode 30)[1]? = some (.getfield 322) by decide +kernel)
theorem x30_2 : WP d 30 2 [l0, l1] (vI x :: st) h Q ↔ ((wr x < 0 → WP d 30 9 [l0, l1] st h Q) ∧ (¬ (wr x < 0) → WP d 30 3 [l0, l1] st h Q)) := wp_if_lt (show (lcode 30)[2]? = some (.ifCond .lt 9) by decide +kernel)
theorem x30_3 : WP d 30 3 [some (Value.ref a), l1] st h Q ↔ WP d 30 4 [some (Value.ref a), l1] (Value.ref a :: st) h Q := wp_aload (show (lcode 30)[3]? = some (.aload 0) by decide +kernel) rfl
theorem x30_4 : WP d 30 4 [l0, l1] (.ref a :: st) h Q ↔ gF (hRd h a) 5 2 (fun v => WP d 30 5 [l0, l1] (v :: st) h Q) := wp_getfield (show (lcode 30)[4]? = some (.getfield 322) by decide +kernel)
theorem x30_5 : WP d 30 5 [some (Value.ref a), l1] st h Q ↔ WP d 30 6 [some (Value.ref a), l1] (Value.ref a :: st) h Q := wp_aload (show (lcode 30)[5]? = some (.aload 0) by decide +kernel) rfl
theorem x30_6 : WP d 30 6 [l0, l1] (.ref a :: st) h Q ↔ gF (hRd h a) 5 0 (fun v => WP d 30 7 [l0, l1] (v :: st) h Q) := wp_getfield (show (lcode 30)[6]? = some (.getfield 320) by decide +kernel)
theorem x30_7 : WP d 30 7 [l0, l1] (.ref a :: st) h Q ↔ aL (hRd h a) (fun v => WP d 30 8 [l0, l1] (v :: st) h Q) := wp_arraylength (show (lcode 30)[7]? = some (.arraylength) by decide +kernel)
theorem x30_8 : WP d 30 8 [l0, l1] (vI y :: vI x :: st) h Q ↔ ((wr x < wr y → WP d 30 11 [l0, l1] st h Q) ∧ (¬ (wr x < wr y) → WP d 30 9 [l0, l1] st h Q)) := wp_icmp_lt (show (lcode 30)[8]? = some (.if_icmp .lt 11) by decide +kernel)
theorem x30_9 : WP d 30 9 [l0, l1] st h Q ↔ WP d 30 10 [l0, l1] (vI 0 :: st) h Q := wp_iconst (show (lcode 30)[9]? = some (.iconst 0) by decide +kernel)
theorem x30_10 : WP d 30 10 [l0, l1] [vI x] h Q ↔ ((Int32.ofInt x = 0 ∨ Int32.ofInt x = 1) ∧ Q (some (vI x)) h) := wp_areturn (show (lcode 30)[10]? = some (.areturn) by decide +kernel)
theorem x30_11 : WP d 30 11 [some (Value.ref a), l1] st h Q ↔ WP d 30 12 [some (Value.ref a), l1] (Value.ref a :: st) h Q := wp_aload (show (lcode 30)[11]? = some (.aload 0) by decide +kernel) rfl
theorem x30_12 : WP d 30 12 [l0, l1] (.ref a :: st) h Q ↔ gF (hRd h a) 5 0 (fun v => WP d 30 13 [l0, l1] (v :: st) h Q) := wp_getfield (show (lcode 30)[12]? = some (.getfield 320) by decide +kernel)
theorem x30_13 : WP d 30 13 [some (Value.ref a), l1] st h Q ↔ WP d 30 14 [some (Value.ref a), l1] (Value.ref a :: st) h Q := wp_aload (show (lcode 30)[13]? = some (.aload 0) by decide +kernel) rfl
theorem x30_14 : WP d 30 14 [l0, l1] (.ref a :: st) h Q ↔ gF (hRd h a) 5 2 (fun v => WP d 30 15 [l0, l1] (v :: st) h Q) := wp_getfield (show (lcode 30)[14]? = some (.getfield 322) by decide +kernel)
theorem x30_15 : WP d 30 15 [l0, some (vI x)] st h Q ↔ WP d 30 16 [l0, some (vI x)] (vI x :: st) h Q := wp_iload (show (lcode 30)[15]? = some (.iload 1) by decide +kernel) rfl
theorem x30_16 : WP d 30 16 [l0, l1] (vI y :: vI x :: .ref a :: st) h Q ↔ stA (hRd h a) a x (vI y) (fun c => WP d 30 17 [l0, l1] st (hWr h a c) Q) := wp_iastore (show (lcode 30)[16]? = some (.iastore) by decide +kernel)
theorem x30_17 : WP d 30 17 [some (Value.ref a), l1] st h Q ↔ WP d 30 18 [some (Value.ref a), l1] (Value.ref a :: st) h Q := wp_aload (show (lcode 30)[17]? = some (.aload 0) by decide +kernel) rfl
theorem x30_18 : WP d 30 18 [l0, l1] (v :: st) h Q ↔ (c1 v ∧ WP d 30 19 [l0, l1] (v :: v :: st) h Q) := wp_dup (show (lcode 30)[18]? = some (.dup) by decide +kernel)
theorem x30_19 : WP d 30 19 [l0, l1] (.ref a :: st) h Q ↔ gF (hRd h a) 5 2 (fun v => WP d 30 20 [l0, l1] (v :: st) h Q) := wp_getfield (show (lcode 30)[19]? = some (.getfield 322) by decide +kernel)
theorem x30_20 : WP d 30 20 [l0, l1] st h Q ↔ WP d 30 21 [l0, l1] (vI 1 :: st) h Q := wp_iconst (show (lcode 30)[20]? = some (.iconst 1) by decide +kernel)
theorem x30_21 : WP d 30 21 [l0, l1] (vI y :: vI x :: st) h Q ↔ WP d 30 22 [l0, l1] (vI (x + y) :: st) h Q := wp_iadd (show (lcode 30)[21]? = some (.iadd) by decide +kernel)
theorem x30_22 : WP d 30 22 [l0, l1] (vI x :: .ref a :: st) h Q ↔ pF (hRd h a) 5 2 (vI x) (fun c => WP d 30 23 [l0, l1] st (hWr h a c) Q) := wp_putfield (show (lcode 30)[22]? = some (.putfield 322) by decide +kernel)
theorem x30_23 : WP d 30 23 [l0, l1] st h Q ↔ WP d 30 24 [l0, l1] (vI 1 :: st) h Q := wp_iconst (show (lcode 30)[23]? = some (.iconst 1) by decide +kernel)
theorem x30_24 : WP d 30 24 [l0, l1] [vI x] h Q ↔ ((Int32.ofInt x = 0 ∨ Int32.ofInt x = 1) ∧ Q (some (vI x)) h) := wp_areturn (show (lcode 30)[24]? = some (.areturn) by decide +kernel)
-- 31: WakeOrder$Reader.readText
theorem x31_0 : WP d 31 0 [some (Value.ref a), l1] st h Q ↔ WP d 31 1 [some (Value.ref a), l1] (Value.ref a :: st) h Q := wp_aload (show (lcode 31)[0]? = some (.aload 0) by decide +kernel) rfl
theorem x31_1 : WP d 31 1 [l0, l1] (.ref a :: st) h Q ↔ gF (hRd h a) 5 1 (fun v => WP d 31 2 [l0, l1] (v :: st) h Q) := wp_getfield (show (lcode 31)[1]? = some (.getfield 321) by decide +kernel)
theorem x31_2 : WP d 31 2 [l0, l1] (v :: st) h Q ↔ (sh st ∧ CALL d 17 [v] h (fun v h => WP d 31 3 [l0, l1] (v.toList ++ st) h Q)) := wp_call (n := 1) (show (lcode 31)[2]? = some (.invokestatic 17) by decide +kernel) (by decide +kernel) (by simp)
theorem x31_3 : WP d 31 3 [some (Value.ref a), l1] st h Q ↔ WP d 31 4 [some (Value.ref a), l1] (Value.ref a :: st) h Q := wp_aload (show (lcode 31)[3]? = some (.aload 0) by decide +kernel) rfl
theorem x31_4 : WP d 31 4 [l0, l1] st h Q ↔ WP d 31 5 [l0, l1] (vI 0 :: st) h Q := wp_iconst (show (lcode 31)[4]? = some (.iconst 0) by decide +kernel)
theorem x31_5 : WP d 31 5 [l0, l1] (vI x :: .ref a :: st) h Q ↔ pF (hRd h a) 5 5 (vI x) (fun c => WP d 31 6 [l0, l1] st (hWr h a c) Q) := wp_putfield (show (lcode 31)[5]? = some (.putfield 325) by decide +kernel)
theorem x31_6 : WP d 31 6 [some (Value.ref a), l1] st h Q ↔ WP d 31 7 [some (Value.ref a), l1] (Value.ref a :: st) h Q := wp_aload (show (lcode 31)[6]? = some (.aload 0) by decide +kernel) rfl
theorem x31_7 : WP d 31 7 [l0, l1] st h Q ↔ WP d 31 8 [l0, l1] (vI 0 :: st) h Q := wp_iconst (show (lcode 31)[7]? = some (.iconst 0) by decide +kernel)
theorem x31_8 : WP d 31 8 [l0, l1] (vI x :: .ref a :: st) h Q ↔ pF (hRd h a) 5 3 (vI x) (fun c => WP d 31 9 [l0, l1] st (hWr h a c) Q) := wp_putfield (show (lcode 31)[8]? = some (.putfield 323) by decide +kernel)
theorem x31_9 : WP d 31 9 [some (Value.ref a), l1] st h Q ↔ WP d 31 10 [some (Value.ref a), l1] (Value.ref a :: st) h Q := wp_aload (show (lcode 31)[9]? = some (.aload 0) by decide +kernel) rfl
theorem x31_10 : WP d 31 10 [l0, l1] st h Q ↔ WP d 31 11 [l0, l1] (vI (-1) :: st) h Q := wp_iconst (show (lcode 31)[10]? = some (.iconst (-1)) by decide +kernel)
theorem x31_11 : WP d 31 11 [l0, l1] (vI x :: .ref a :: st) h Q ↔ pF (hRd h a) 5 4 (vI x) (fun c => WP d 31 12 [l0, l1] st (hWr h a c) Q) := wp_putfield (show (lcode 31)[11]? = some (.putfield 324) by decide +kernel)
theorem x31_12 : WP d 31 12 [l0, l1] st h Q ↔ WP d 31 13 [l0, l1] (vI 0 :: st) h Q := wp_iconst (show (lcode 31)[12]? = some (.iconst 0) by decide +kernel)
theorem x31_13 : WP d 31 13 [l0, l1] (vI x :: st) h Q ↔ (nl l0 ∧ WP d 31 14 [l0, some (vI x)] st h Q) := wp_istore (show (lcode 31)[13]? = some (.istore 1) by decide +kernel) (Nat.le_of_ble_eq_true rfl)
theorem x31_14 : WP d 31 14 [l0, l1] st h Q ↔ WPC d 31 15 [l0, l1] st h Q := wp_nop (show (lcode 31)[14]? = some (.nop) by decide +kernel)
theorem x31_15 : WP d 31 15 [l0, some (vI x)] st h Q ↔ WP d 31 16 [l0, some (vI x)] (vI x :: st) h Q := wp_iload (show (lcode 31)[15]? = some (.iload 1) by decide +kernel) rfl
theorem x31_16 : WP d 31 16 [l0, l1] st h Q ↔ WP d 31 17 [l0, l1] (vI 220 :: st) h Q := wp_iconst (show (lcode 31)[16]? = some (.iconst 220) by decide +kernel)
theorem x31_17 : WP d 31 17 [l0, l1] (vI y :: vI x :: st) h Q ↔ ((wr y < wr x → WP d 31 33 [l0, l1] st h Q) ∧ (¬ (wr y < wr x) → WP d 31 18 [l0, l1] st h Q)) := wp_icmp_gt (show (lcode 31)[17]? = some (.if_icmp .gt 33) by decide +kernel)
theorem x31_18 : WP d 31 18 [some (Value.ref a), l1] st h Q ↔ WP d 31 19 [some (Value.ref a), l1] (Value.ref a :: st) h Q := wp_aload (show (lcode 31)[18]? = some (.aload 0) by decide +kernel) rfl
theorem x31_19 : WP d 31 19 [l0, l1] (v :: st) h Q ↔ (sh st ∧ CALL d 37 [v] h (fun v h => WP d 31 20 [l0, l1] (v.toList ++ st) h Q)) := wp_call (n := 1) (show (lcode 31)[19]? = some (.invokestatic 37) by decide +kernel) (by decide +kernel) (by simp)
theorem x31_20 : WP d 31 20 [some (Value.ref a), l1] st h Q ↔ WP d 31 21 [some (Value.ref a), l1] (Value.ref a :: st) h Q := wp_aload (show (lcode 31)[20]? = some (.aload 0) by decide +kernel) rfl
theorem x31_21 : WP d 31 21 [l0, l1] (.ref a :: st) h Q ↔ gF (hRd h a) 5 5 (fun v => WP d 31 22 [l0, l1] (v :: st) h Q) := wp_getfield (show (lcode 31)[21]? = some (.getfield 325) by decide +kernel)
theorem x31_22 : WP d 31 22 [some (Value.ref a), l1] st h Q ↔ WP d 31 23 [some (Value.ref a), l1] (Value.ref a :: st) h Q := wp_aload (show (lcode 31)[22]? = some (.aload 0) by decide +kernel) rfl
theorem x31_23 : WP d 31 23 [l0, l1] (.ref a :: st) h Q ↔ gF (hRd h a) 5 2 (fun v => WP d 31 24 [l0, l1] (v :: st) h Q) := wp_getfield (show (lcode 31)[23]? = some (.getfield 322) by decide +kernel)
theorem x31_24 : WP d 31 24 [l0, l1] (vI y :: vI x :: st) h Q ↔ ((wr y ≤ wr x → WP d 31 33 [l0, l1] st h Q) ∧ (¬ (wr y ≤ wr x) → WP d 31 25 [l0, l1] st h Q)) := wp_icmp_ge (show (lcode 31)[24]? = some (.if_icmp .ge 33) by decide +kernel)
theorem x31_25 : WP d 31 25 [some (Value.ref a), l1] st h Q ↔ WP d 31 26 [some (Value.ref a), l1] (Value.ref a :: st) h Q := wp_aload (show (lcode 31)[25]? = some (.aload 0) by decide +kernel) rfl
theorem x31_26 : WP d 31 26 [l0, l1] (.ref a :: st) h Q ↔ gF (hRd h a) 5 3 (fun v => WP d 31 27 [l0, l1] (v :: st) h Q) := wp_getfield (show (lcode 31)[26]? = some (.getfield 323) by decide +kernel)
theorem x31_27 : WP d 31 27 [l0, l1] (vI x :: st) h Q ↔ ((wr x = 0 → WP d 31 29 [l0, l1] st h Q) ∧ (¬ (wr x = 0) → WP d 31 28 [l0, l1] st h Q)) := wp_if_eq (show (lcode 31)[27]? = some (.ifCond .eq 29) by decide +kernel)
theorem x31_28 : WP d 31 28 [l0, l1] st h Q ↔ WP d 31 33 [l0, l1] st h Q := wp_goto (show (lcode 31)[28]? = some (.goto 33) by decide +kernel)
theorem x31_29 : WP d 31 29 [some (Value.ref a), l1] st h Q ↔ WP d 31 30 [some (Value.ref a), l1] (Value.ref a :: st) h Q := wp_aload (show (lcode 31)[29]? = some (.aload 0) by decide +kernel) rfl
theorem x31_30 : WP d 31 30 [l0, l1] (v :: st) h Q ↔ (sh st ∧ CALL d 32 [v] h (fun v h => WP d 31 31 [l0, l1] (v.toList ++ st) h Q)) := wp_call (n := 1) (show (lcode 31)[30]? = some (.invokestatic 32) by decide +kernel) (by decide +kernel) (by simp)
theorem x31_31 : WP d 31 31 [l0, some (vI x)] st h Q ↔ (nl l0 ∧ WP d 31 32 [l0, some (vI (x + 1))] st h Q) := wp_iinc (show (lcode 31)[31]? = some (.iinc 1 1) by decide +kernel) rfl (Nat.le_of_ble_eq_true rfl)
theorem x31_32 : WP d 31 32 [l0, l1] st h Q ↔ WP d 31 14 [l0, l1] st h Q := wp_goto (show (lcode 31)[32]? = some (.goto 14) by decide +kernel)
theorem x31_33 : WP d 31 33 [some (Value.ref a), l1] st h Q ↔ WP d 31 34 [some (Value.ref a), l1] (Value.ref a :: st) h Q := wp_aload (show (lcode 31)[33]? = some (.aload 0) by decide +kernel) rfl
theorem x31_34 : WP d 31 34 [l0, l1] st h Q ↔ WP d 31 35 [l0, l1] (vI 0 :: st) h Q := wp_iconst (show (lcode 31)[34]? = some (.iconst 0) by decide +kernel)
theorem x31_35 : WP d 31 35 [l0, l1] (vI x :: .ref a :: st) h Q ↔ pF (hRd h a) 5 2 (vI x) (fun c => WP d 31 36 [l0, l1] st (hWr h a c) Q) := wp_putfield (show (lcode 31)[35]? = some (.putfield 322) by decide +kernel)
theorem x31_36 : WP d 31 36 [l0, l1] [] h Q ↔ Q none h := wp_return (show (lcode 31)[36]? = some (.return_) by decide +kernel)
-- 32: WakeOrder$Reader.readClause
theorem x32_0 : WP d 32 0 [some (Value.ref a), l1, l2] st h Q ↔ WP d 32 1 [some (Value.ref a), l1, l2] (Value.ref a :: st) h Q := wp_aload (show (lcode 32)[0]? = some (.aload 0) by decide +kernel) rfl
theorem x32_1 : WP d 32 1 [l0, l1, l2] (v :: st) h Q ↔ (sh st ∧ CALL d 38 [v] h (fun v h => WP d 32 2 [l0, l1, l2] (v.toList ++ st) h Q)) := wp_call (n := 1) (show (lcode 32)[1]? = some (.invokestatic 38) by decide +kernel) (by decide +kernel) (by simp)
theorem x32_2 : WP d 32 2 [l0, l1, l2] (vI x :: st) h Q ↔ (nl l0 ∧ WP d 32 3 [l0, some (vI x), l2] st h Q) := wp_istore (show (lcode 32)[2]? = some (.istore 1) by decide +kernel) (Nat.le_of_ble_eq_true rfl)
theorem x32_3 : WP d 32 3 [some (Value.ref a), l1, l2] st h Q ↔ WP d 32 4 [some (Value.ref a), l1, l2] (Value.ref a :: st) h Q := wp_aload (show (lcode 32)[3]? = some (.aload 0) by decide +kernel) rfl
theorem x32_4 : WP d 32 4 [l0, l1, l2] (.ref a :: st) h Q ↔ gF (hRd h a) 5 5 (fun v => WP d 32 5 [l0, l1, l2] (v :: st) h Q) := wp_getfield (show (lcode 32)[4]? = some (.getfield 325) by decide +kernel)
theorem x32_5 : WP d 32 5 [l0, l1, l2] (vI x :: st) h Q ↔ (nl l1 ∧ WP d 32 6 [l0, l1, some (vI x)] st h Q) := wp_istore (show (lcode 32)[5]? = some (.istore 2) by decide +kernel) (Nat.le_of_ble_eq_true rfl)
theorem x32_6 : WP d 32 6 [some (Value.ref a), l1, l2] st h Q ↔ WP d 32 7 [some (Value.ref a), l1, l2] (Value.ref a :: st) h Q := wp_aload (show (lcode 32)[6]? = some (.aload 0) by decide +kernel) rfl
theorem x32_7 : WP d 32 7 [l0, l1, l2] (v :: st) h Q ↔ (c1 v ∧ WP d 32 8 [l0, l1, l2] (v :: v :: st) h Q) := wp_dup (show (lcode 32)[7]? = some (.dup) by decide +kernel)
theorem x32_8 : WP d 32 8 [l0, l1, l2] (.ref a :: st) h Q ↔ gF (hRd h a) 5 5 (fun v => WP d 32 9 [l0, l1, l2] (v :: st) h Q) := wp_getfield (show (lcode 32)[8]? = some (.getfield 325) by decide +kernel)
theorem x32_9 : WP d 32 9 [l0, l1, l2] st h Q ↔ WP d 32 10 [l0, l1, l2] (vI 1 :: st) h Q := wp_iconst (show (lcode 32)[9]? = some (.iconst 1) by decide +kernel)
theorem x32_10 : WP d 32 10 [l0, l1, l2] (vI y :: vI x :: st) h Q ↔ WP d 32 11 [l0, l1, l2] (vI (x + y) :: st) h Q := wp_iadd (show (lcode 32)[10]? = some (.iadd) by decide +kernel)
theorem x32_11 : WP d 32 11 [l0, l1, l2] (vI x :: .ref a :: st) h Q ↔ pF (hRd h a) 5 5 (vI x) (fun c => WP d 32 12 [l0, l1, l2] st (hWr h a c) Q) := wp_putfield (show (lcode 32)[11]? = some (.putfield 325) by decide +kernel)
theorem x32_12 : WP d 32 12 [some (Value.ref a), l1, l2] st h Q ↔ WP d 32 13 [some (Value.ref a), l1, l2] (Value.ref a :: st) h Q := wp_aload (show (lcode 32)[12]? = some (.aload 0) by decide +kernel) rfl
theorem x32_13 : WP d 32 13 [l0, l1, l2] (.ref a :: st) h Q ↔ gF (hRd h a) 5 1 (fun v => WP d 32 14 [l0, l1, l2] (v :: st) h Q) := wp_getfield (show (lcode 32)[13]? = some (.getfield 321) by decide +kernel)
theorem x32_14 : WP d 32 14 [l0, l1, l2] (.ref a :: st) h Q ↔ gF (hRd h a) 2 0 (fun v => WP d 32 15 [l0, l1, l2] (v :: st) h Q) := wp_getfield (show (lcode 32)[14]? = some (.getfield 128) by decide +kernel)
theorem x32_15 : WP d 32 15 [l0, l1, l2] (vI x :: st) h Q ↔ ((¬ wr x = 0 → WP d 32 24 [l0, l1, l2] st h Q) ∧ (¬ (¬ wr x = 0) → WP d 32 16 [l0, l1, l2] st h Q)) := wp_if_ne (show (lcode 32)[15]? = some (.ifCond .ne 24) by decide +kernel)
theorem x32_16 : WP d 32 16 [l0, some (vI x), l2] st h Q ↔ WP d 32 17 [l0, some (vI x), l2] (vI x :: st) h Q := wp_iload (show (lcode 32)[16]? = some (.iload 1) by decide +kernel) rfl
theorem x32_17 : WP d 32 17 [l0, l1, l2] st h Q ↔ WP d 32 18 [l0, l1, l2] (vI 99 :: st) h Q := wp_iconst (show (lcode 32)[17]? = some (.iconst 99) by decide +kernel)
theorem x32_18 : WP d 32 18 [l0, l1, l2] (vI y :: vI x :: st) h Q ↔ ((wr x = wr y → WP d 32 24 [l0, l1, l2] st h Q) ∧ (¬ (wr x = wr y) → WP d 32 19 [l0, l1, l2] st h Q)) := wp_icmp_eq (show (lcode 32)[18]? = some (.if_icmp .eq 24) by decide +kernel)
theorem x32_19 : WP d 32 19 [some (Value.ref a), l1, l2] st h Q ↔ WP d 32 20 [some (Value.ref a), l1, l2] (Value.ref a :: st) h Q := wp_aload (show (lcode 32)[19]? = some (.aload 0) by decide +kernel) rfl
theorem x32_20 : WP d 32 20 [l0, l1, l2] st h Q ↔ WP d 32 21 [l0, l1, l2] (vI 1 :: st) h Q := wp_iconst (show (lcode 32)[20]? = some (.iconst 1) by decide +kernel)
theorem x32_21 : WP d 32 21 [l0, l1, some (vI x)] st h Q ↔ WP d 32 22 [l0, l1, some (vI x)] (vI x :: st) h Q := wp_iload (show (lcode 32)[21]? = some (.iload 2) by decide +kernel) rfl
theorem x32_22 : WP d 32 22 [l0, l1, l2] (v2 :: v1 :: v :: st) h Q ↔ (sh st ∧ CALL d 42 [v, v1, v2] h (fun v h => WP d 32 23 [l0, l1, l2] (v.toList ++ st) h Q)) := wp_call (n := 3) (show (lcode 32)[22]? = some (.invokestatic 42) by decide +kernel) (by decide +kernel) (by simp)
theorem x32_23 : WP d 32 23 [l0, l1, l2] [] h Q ↔ Q none h := wp_return (show (lcode 32)[23]? = some (.return_) by decide +kernel)
theorem x32_24 : WP d 32 24 [l0, some (vI x), l2] st h Q ↔ WP d 32 25 [l0, some (vI x), l2] (vI x :: st) h Q := wp_iload (show (lcode 32)[24]? = some (.iload 1) by decide +kernel) rfl
theorem x32_25 (c0 : wr x = 99 → WP d 32 26 [l0, l1, l2] st h Q) (c1 : wr x = 106 → WP d 32 34 [l0, l1, l2] st h Q) (c2 : wr x = 112 → WP d 32 30 [l0, l1, l2] st h Q) (c3 : wr x = 119 → WP d 32 38 [l0, l1, l2] st h Q) (cd : ¬ wr x = 99 → ¬ wr x = 106 → ¬ wr x = 112 → ¬ wr x = 119 → WP d 32 41 [l0, l1, l2] st h Q) : WP d 32 25 [l0, l1, l2] (vI x :: st) h Q := by
  refine wp_lsw (show (lcode 32)[25]? = some (.lookupswitch 41 #[(99, 26), (106, 34), (112, 30), (119, 38)]) by decide +kernel) ?_
  by_cases e0 : wr x = 99
  · rw [e0]; exact c0 e0
  by_cases e1 : wr x = 106
  · rw [e1]; exact c1 e1
  by_cases e2 : wr x = 112
  · rw [e2]; exact c2 e2
  by_cases e3 : wr x = 119
  · rw [e3]; exact c3 e3
  have f : Op.lookupswitch.offset [(99, 26), (106, 34), (112, 30), (119, 38)] 41 (wr x) = 41 := by
    simp only [Op.lookupswitch.offset]
    repeat (rw [if_neg (by omega)])
  show WP d 32 (Op.lookupswitch.offset [(99, 26), (106, 34), (112, 30), (119, 38)] 41 (wr x)).toNat [l0, l1, l2] st h Q
  rw [f]
  exact cd e0 e1 e2 e3
theorem x32_26 : WP d 32 26 [some (Value.ref a), l1, l2] st h Q ↔ WP d 32 27 [some (Value.ref a), l1, l2] (Value.ref a :: st) h Q := wp_aload (show (lcode 32)[26]? = some (.aload 0) by decide +kernel) rfl
theorem x32_27 : WP d 32 27 [l0, l1, some (vI x)] st h Q ↔ WP d 32 28 [l0, l1, some (vI x)] (vI x :: st) h Q := wp_iload (show (lcode 32)[27]? = some (.iload 2) by decide +kernel) rfl
theorem x32_28 : WP d 32 28 [l0, l1, l2] (v1 :: v :: st) h Q ↔ (sh st ∧ CALL d 33 [v, v1] h (fun v h => WP d 32 29 [l0, l1, l2] (v.toList ++ st) h Q)) := wp_call (n := 2) (show (lcode 32)[28]? = some (.invokestatic 33) by decide +kernel) (by decide +kernel) (by simp)
theorem x32_29 : WP d 32 29 [l0, l1, l2] st h Q ↔ WP d 32 45 [l0, l1, l2] st h Q := wp_goto (show (lcode 32)[29]? = some (.goto 45) by decide +kernel)
theorem x32_30 : WP d 32 30 [some (Value.ref a), l1, l2] st h Q ↔ WP d 32 31 [some (Value.ref a), l1, l2] (Value.ref a :: st) h Q := wp_aload (show (lcode 32)[30]? = some (.aload 0) by decide +kernel) rfl
theorem x32_31 : WP d 32 31 [l0, l1, some (vI x)] st h Q ↔ WP d 32 32 [l0, l1, some (vI x)] (vI x :: st) h Q := wp_iload (show (lcode 32)[31]? = some (.iload 2) by decide +kernel) rfl
theorem x32_32 : WP d 32 32 [l0, l1, l2] (v1 :: v :: st) h Q ↔ (sh st ∧ CALL d 34 [v, v1] h (fun v h => WP d 32 33 [l0, l1, l2] (v.toList ++ st) h Q)) := wp_call (n := 2) (show (lcode 32)[32]? = some (.invokestatic 34) by decide +kernel) (by decide +kernel) (by simp)
theorem x32_33 : WP d 32 33 [l0, l1, l2] st h Q ↔ WP d 32 45 [l0, l1, l2] st h Q := wp_goto (show (lcode 32)[33]? = some (.goto 45) by decide +kernel)
theorem x32_34 : WP d 32 34 [some (Value.ref a), l1, l2] st h Q ↔ WP d 32 35 [some (Value.ref a), l1, l2] (Value.ref a :: st) h Q := wp_aload (show (lcode 32)[34]? = some (.aload 0) by decide +kernel) rfl
theorem x32_35 : WP d 32 35 [l0, l1, some (vI x)] st h Q ↔ WP d 32 36 [l0, l1, some (vI x)] (vI x :: st) h Q := wp_iload (show (lcode 32)[35]? = some (.iload 2) by decide +kernel) rfl
theorem x32_36 : WP d 32 36 [l0, l1, l2] (v1 :: v :: st) h Q ↔ (sh st ∧ CALL d 35 [v, v1] h (fun v h => WP d 32 37 [l0, l1, l2] (v.toList ++ st) h Q)) := wp_call (n := 2) (show (lcode 32)[36]? = some (.invokestatic 35) by decide +kernel) (by decide +kernel) (by simp)
theorem x32_37 : WP d 32 37 [l0, l1, l2] st h Q ↔ WP d 32 45 [l0, l1, l2] st h Q := wp_goto (show (lcode 32)[37]? = some (.goto 45) by decide +kernel)
theorem x32_38 : WP d 32 38 [some (Value.ref a), l1, l2] st h Q ↔ WP d 32 39 [some (Value.ref a), l1, l2] (Value.ref a :: st) h Q := wp_aload (show (lcode 32)[38]? = some (.aload 0) by decide +kernel) rfl
theorem x32_39 : WP d 32 39 [l0, l1, l2] (v :: st) h Q ↔ (sh st ∧ CALL d 36 [v] h (fun v h => WP d 32 40 [l0, l1, l2] (v.toList ++ st) h Q)) := wp_call (n := 1) (show (lcode 32)[39]? = some (.invokestatic 36) by decide +kernel) (by decide +kernel) (by simp)
theorem x32_40 : WP d 32 40 [l0, l1, l2] st h Q ↔ WP d 32 45 [l0, l1, l2] st h Q := wp_goto (show (lcode 32)[40]? = some (.goto 45) by decide +kernel)
theorem x32_41 : WP d 32 41 [some (Value.ref a), l1, l2] st h Q ↔ WP d 32 42 [some (Value.ref a), l1, l2] (Value.ref a :: st) h Q := wp_aload (show (lcode 32)[41]? = some (.aload 0) by decide +kernel) rfl
theorem x32_42 : WP d 32 42 [l0, l1, l2] st h Q ↔ WP d 32 43 [l0, l1, l2] (vI 1 :: st) h Q := wp_iconst (show (lcode 32)[42]? = some (.iconst 1) by decide +kernel)
theorem x32_43 : WP d 32 43 [l0, l1, some (vI x)] st h Q ↔ WP d 32 44 [l0, l1, some (vI x)] (vI x :: st) h Q := wp_iload (show (lcode 32)[43]? = some (.iload 2) by decide +kernel) rfl
theorem x32_44 : WP d 32 44 [l0, l1, l2] (v2 :: v1 :: v :: st) h Q ↔ (sh st ∧ CALL d 42 [v, v1, v2] h (fun v h => WP d 32 45 [l0, l1, l2] (v.toList ++ st) h Q)) := wp_call (n := 3) (show (lcode 32)[44]? = some (.invokestatic 42) by decide +kernel) (by decide +kernel) (by simp)
theorem x32_45 : WP d 32 45 [l0, l1, l2] [] h Q ↔ Q none h := wp_return (show (lcode 32)[45]? = some (.return_) by decide +kernel)
-- 33: WakeOrder$Reader.readMorning
theorem x33_0 : WP d 33 0 [some (Value.ref a), l1, l2] st h Q ↔ WP d 33 1 [some (Value.ref a), l1, l2] (Value.ref a :: st) h Q := wp_aload (show (lcode 33)[0]? = some (.aload 0) by decide +kernel) rfl
theorem x33_1 : WP d 33 1 [l0, l1, l2] (.ref a :: st) h Q ↔ gF (hRd h a) 5 1 (fun v => WP d 33 2 [l0, l1, l2] (v :: st) h Q) := wp_getfield (show (lcode 33)[1]? = some (.getfield 321) by decide +kernel)
theorem x33_2 : WP d 33 2 [l0, l1, l2] (.ref a :: st) h Q ↔ gF (hRd h a) 2 0 (fun v => WP d 33 3 [l0, l1, l2] (v :: st) h Q) := wp_getfield (show (lcode 33)[2]? = some (.getfield 128) by decide +kernel)
theorem x33_3 : WP d 33 3 [l0, l1, l2] (vI x :: st) h Q ↔ ((wr x = 0 → WP d 33 8 [l0, l1, l2] st h Q) ∧ (¬ (wr x = 0) → WP d 33 4 [l0, l1, l2] st h Q)) := wp_if_eq (show (lcode 33)[3]? = some (.ifCond .eq 8) by decide +kernel)
theorem x33_4 : WP d 33 4 [some (Value.ref a), l1, l2] st h Q ↔ WP d 33 5 [some (Value.ref a), l1, l2] (Value.ref a :: st) h Q := wp_aload (show (lcode 33)[4]? = some (.aload 0) by decide +kernel) rfl
theorem x33_5 : WP d 33 5 [l0, l1, l2] st h Q ↔ WP d 33 6 [l0, l1, l2] (vI 3 :: st) h Q := wp_iconst (show (lcode 33)[5]? = some (.iconst 3) by decide +kernel)
theorem x33_6 : WP d 33 6 [l0, some (vI x), l2] st h Q ↔ WP d 33 7 [l0, some (vI x), l2] (vI x :: st) h Q := wp_iload (show (lcode 33)[6]? = some (.iload 1) by decide +kernel) rfl
theorem x33_7 : WP d 33 7 [l0, l1, l2] (v2 :: v1 :: v :: st) h Q ↔ (sh st ∧ CALL d 42 [v, v1, v2] h (fun v h => WP d 33 8 [l0, l1, l2] (v.toList ++ st) h Q)) := wp_call (n := 3) (show (lcode 33)[7]? = some (.invokestatic 42) by decide +kernel) (by decide +kernel) (by simp)
theorem x33_8 : WP d 33 8 [some (Value.ref a), l1, l2] st h Q ↔ WP d 33 9 [some (Value.ref a), l1, l2] (Value.ref a :: st) h Q := wp_aload (show (lcode 33)[8]? = some (.aload 0) by decide +kernel) rfl
theorem x33_9 : WP d 33 9 [l0, l1, l2] st h Q ↔ WP d 33 10 [l0, l1, l2] (vI 10 :: st) h Q := wp_iconst (show (lcode 33)[9]? = some (.iconst 10) by decide +kernel)
theorem x33_10 : WP d 33 10 [l0, l1, l2] st h Q ↔ WP d 33 11 [l0, l1, l2] (vI 999 :: st) h Q := wp_iconst (show (lcode 33)[10]? = some (.iconst 999) by decide +kernel)
theorem x33_11 : WP d 33 11 [l0, l1, l2] (v2 :: v1 :: v :: st) h Q ↔ (sh st ∧ CALL d 40 [v, v1, v2] h (fun v h => WP d 33 12 [l0, l1, l2] (v.toList ++ st) h Q)) := wp_call (n := 3) (show (lcode 33)[11]? = some (.invokestatic 40) by decide +kernel) (by decide +kernel) (by simp)
theorem x33_12 : WP d 33 12 [l0, l1, l2] (vI x :: st) h Q ↔ (nl l1 ∧ WP d 33 13 [l0, l1, some (vI x)] st h Q) := wp_istore (show (lcode 33)[12]? = some (.istore 2) by decide +kernel) (Nat.le_of_ble_eq_true rfl)
theorem x33_13 : WP d 33 13 [some (Value.ref a), l1, l2] st h Q ↔ WP d 33 14 [some (Value.ref a), l1, l2] (Value.ref a :: st) h Q := wp_aload (show (lcode 33)[13]? = some (.aload 0) by decide +kernel) rfl
theorem x33_14 : WP d 33 14 [l0, l1, l2] (v :: st) h Q ↔ (sh st ∧ CALL d 41 [v] h (fun v h => WP d 33 15 [l0, l1, l2] (v.toList ++ st) h Q)) := wp_call (n := 1) (show (lcode 33)[14]? = some (.invokestatic 41) by decide +kernel) (by decide +kernel) (by simp)
theorem x33_15 : WP d 33 15 [some (Value.ref a), l1, l2] st h Q ↔ WP d 33 16 [some (Value.ref a), l1, l2] (Value.ref a :: st) h Q := wp_aload (show (lcode 33)[15]? = some (.aload 0) by decide +kernel) rfl
theorem x33_16 : WP d 33 16 [l0, l1, l2] (.ref a :: st) h Q ↔ gF (hRd h a) 5 3 (fun v => WP d 33 17 [l0, l1, l2] (v :: st) h Q) := wp_getfield (show (lcode 33)[16]? = some (.getfield 323) by decide +kernel)
theorem x33_17 : WP d 33 17 [l0, l1, l2] (vI x :: st) h Q ↔ ((¬ wr x = 0 → WP d 33 22 [l0, l1, l2] st h Q) ∧ (¬ (¬ wr x = 0) → WP d 33 18 [l0, l1, l2] st h Q)) := wp_if_ne (show (lcode 33)[17]? = some (.ifCond .ne 22) by decide +kernel)
theorem x33_18 : WP d 33 18 [some (Value.ref a), l1, l2] st h Q ↔ WP d 33 19 [some (Value.ref a), l1, l2] (Value.ref a :: st) h Q := wp_aload (show (lcode 33)[18]? = some (.aload 0) by decide +kernel) rfl
theorem x33_19 : WP d 33 19 [l0, l1, l2] (.ref a :: st) h Q ↔ gF (hRd h a) 5 1 (fun v => WP d 33 20 [l0, l1, l2] (v :: st) h Q) := wp_getfield (show (lcode 33)[19]? = some (.getfield 321) by decide +kernel)
theorem x33_20 : WP d 33 20 [l0, l1, some (vI x)] st h Q ↔ WP d 33 21 [l0, l1, some (vI x)] (vI x :: st) h Q := wp_iload (show (lcode 33)[20]? = some (.iload 2) by decide +kernel) rfl
theorem x33_21 : WP d 33 21 [l0, l1, l2] (vI x :: .ref a :: st) h Q ↔ pF (hRd h a) 2 0 (vI x) (fun c => WP d 33 22 [l0, l1, l2] st (hWr h a c) Q) := wp_putfield (show (lcode 33)[21]? = some (.putfield 128) by decide +kernel)
theorem x33_22 : WP d 33 22 [l0, l1, l2] [] h Q ↔ Q none h := wp_return (show (lcode 33)[22]? = some (.return_) by decide +kernel)
-- 34: WakeOrder$Reader.readPerson
theorem x34_0 : WP d 34 0 [some (Value.ref a), l1, l2] st h Q ↔ WP d 34 1 [some (Value.ref a), l1, l2] (Value.ref a :: st) h Q := wp_aload (show (lcode 34)[0]? = some (.aload 0) by decide +kernel) rfl
theorem x34_1 : WP d 34 1 [l0, l1, l2] (.ref a :: st) h Q ↔ gF (hRd h a) 5 1 (fun v => WP d 34 2 [l0, l1, l2] (v :: st) h Q) := wp_getfield (show (lcode 34)[1]? = some (.getfield 321) by decide +kernel)
theorem x34_2 : WP d 34 2 [l0, l1, l2] (.ref a :: st) h Q ↔ gF (hRd h a) 2 1 (fun v => WP d 34 3 [l0, l1, l2] (v :: st) h Q) := wp_getfield (show (lcode 34)[2]? = some (.getfield 129) by decide +kernel)
theorem x34_3 : WP d 34 3 [l0, l1, l2] st h Q ↔ WP d 34 4 [l0, l1, l2] (vI 6 :: st) h Q := wp_iconst (show (lcode 34)[3]? = some (.iconst 6) by decide +kernel)
theorem x34_4 : WP d 34 4 [l0, l1, l2] (vI y :: vI x :: st) h Q ↔ ((wr x < wr y → WP d 34 9 [l0, l1, l2] st h Q) ∧ (¬ (wr x < wr y) → WP d 34 5 [l0, l1, l2] st h Q)) := wp_icmp_lt (show (lcode 34)[4]? = some (.if_icmp .lt 9) by decide +kernel)
theorem x34_5 : WP d 34 5 [some (Value.ref a), l1, l2] st h Q ↔ WP d 34 6 [some (Value.ref a), l1, l2] (Value.ref a :: st) h Q := wp_aload (show (lcode 34)[5]? = some (.aload 0) by decide +kernel) rfl
theorem x34_6 : WP d 34 6 [l0, l1, l2] st h Q ↔ WP d 34 7 [l0, l1, l2] (vI 3 :: st) h Q := wp_iconst (show (lcode 34)[6]? = some (.iconst 3) by decide +kernel)
theorem x34_7 : WP d 34 7 [l0, some (vI x), l2] st h Q ↔ WP d 34 8 [l0, some (vI x), l2] (vI x :: st) h Q := wp_iload (show (lcode 34)[7]? = some (.iload 1) by decide +kernel) rfl
theorem x34_8 : WP d 34 8 [l0, l1, l2] (v2 :: v1 :: v :: st) h Q ↔ (sh st ∧ CALL d 42 [v, v1, v2] h (fun v h => WP d 34 9 [l0, l1, l2] (v.toList ++ st) h Q)) := wp_call (n := 3) (show (lcode 34)[8]? = some (.invokestatic 42) by decide +kernel) (by decide +kernel) (by simp)
theorem x34_9 : WP d 34 9 [some (Value.ref a), l1, l2] st h Q ↔ WP d 34 10 [some (Value.ref a), l1, l2] (Value.ref a :: st) h Q := wp_aload (show (lcode 34)[9]? = some (.aload 0) by decide +kernel) rfl
theorem x34_10 : WP d 34 10 [l0, l1, l2] st h Q ↔ WP d 34 11 [l0, l1, l2] (vI 0 :: st) h Q := wp_iconst (show (lcode 34)[10]? = some (.iconst 0) by decide +kernel)
theorem x34_11 : WP d 34 11 [l0, l1, l2] st h Q ↔ WP d 34 12 [l0, l1, l2] (vI 999 :: st) h Q := wp_iconst (show (lcode 34)[11]? = some (.iconst 999) by decide +kernel)
theorem x34_12 : WP d 34 12 [l0, l1, l2] (v2 :: v1 :: v :: st) h Q ↔ (sh st ∧ CALL d 40 [v, v1, v2] h (fun v h => WP d 34 13 [l0, l1, l2] (v.toList ++ st) h Q)) := wp_call (n := 3) (show (lcode 34)[12]? = some (.invokestatic 40) by decide +kernel) (by decide +kernel) (by simp)
theorem x34_13 : WP d 34 13 [l0, l1, l2] (vI x :: st) h Q ↔ (nl l1 ∧ WP d 34 14 [l0, l1, some (vI x)] st h Q) := wp_istore (show (lcode 34)[13]? = some (.istore 2) by decide +kernel) (Nat.le_of_ble_eq_true rfl)
theorem x34_14 : WP d 34 14 [some (Value.ref a), l1, l2] st h Q ↔ WP d 34 15 [some (Value.ref a), l1, l2] (Value.ref a :: st) h Q := wp_aload (show (lcode 34)[14]? = some (.aload 0) by decide +kernel) rfl
theorem x34_15 : WP d 34 15 [l0, l1, l2] (v :: st) h Q ↔ (sh st ∧ CALL d 41 [v] h (fun v h => WP d 34 16 [l0, l1, l2] (v.toList ++ st) h Q)) := wp_call (n := 1) (show (lcode 34)[15]? = some (.invokestatic 41) by decide +kernel) (by decide +kernel) (by simp)
theorem x34_16 : WP d 34 16 [some (Value.ref a), l1, l2] st h Q ↔ WP d 34 17 [some (Value.ref a), l1, l2] (Value.ref a :: st) h Q := wp_aload (show (lcode 34)[16]? = some (.aload 0) by decide +kernel) rfl
theorem x34_17 : WP d 34 17 [l0, l1, l2] (.ref a :: st) h Q ↔ gF (hRd h a) 5 3 (fun v => WP d 34 18 [l0, l1, l2] (v :: st) h Q) := wp_getfield (show (lcode 34)[17]? = some (.getfield 323) by decide +kernel)
theorem x34_18 : WP d 34 18 [l0, l1, l2] (vI x :: st) h Q ↔ ((¬ wr x = 0 → WP d 34 23 [l0, l1, l2] st h Q) ∧ (¬ (¬ wr x = 0) → WP d 34 19 [l0, l1, l2] st h Q)) := wp_if_ne (show (lcode 34)[18]? = some (.ifCond .ne 23) by decide +kernel)
theorem x34_19 : WP d 34 19 [some (Value.ref a), l1, l2] st h Q ↔ WP d 34 20 [some (Value.ref a), l1, l2] (Value.ref a :: st) h Q := wp_aload (show (lcode 34)[19]? = some (.aload 0) by decide +kernel) rfl
theorem x34_20 : WP d 34 20 [l0, l1, l2] (.ref a :: st) h Q ↔ gF (hRd h a) 5 1 (fun v => WP d 34 21 [l0, l1, l2] (v :: st) h Q) := wp_getfield (show (lcode 34)[20]? = some (.getfield 321) by decide +kernel)
theorem x34_21 : WP d 34 21 [l0, l1, some (vI x)] st h Q ↔ WP d 34 22 [l0, l1, some (vI x)] (vI x :: st) h Q := wp_iload (show (lcode 34)[21]? = some (.iload 2) by decide +kernel) rfl
theorem x34_22 : WP d 34 22 [l0, l1, l2] (v1 :: v :: st) h Q ↔ (sh st ∧ CALL d 19 [v, v1] h (fun v h => WP d 34 23 [l0, l1, l2] (v.toList ++ st) h Q)) := wp_call (n := 2) (show (lcode 34)[22]? = some (.invokestatic 19) by decide +kernel) (by decide +kernel) (by simp)
theorem x34_23 : WP d 34 23 [l0, l1, l2] [] h Q ↔ Q none h := wp_return (show (lcode 34)[23]? = some (.return_) by decide +kernel)
-- 35: WakeOrder$Reader.readJob
theorem x35_0 : WP d 35 0 [some (Value.ref a), l1, l2, l3, l4] st h Q ↔ WP d 35 1 [some (Value.ref a), l1, l2, l3, l4] (Value.ref a :: st) h Q := wp_aload (show (lcode 35)[0]? = some (.aload 0) by decide +kernel) rfl
theorem x35_1 : WP d 35 1 [l0, l1, l2, l3, l4] (.ref a :: st) h Q ↔ gF (hRd h a) 5 1 (fun v => WP d 35 2 [l0, l1, l2, l3, l4] (v :: st) h Q) := wp_getfield (show (lcode 35)[1]? = some (.getfield 321) by decide +kernel)
theorem x35_2 : WP d 35 2 [l0, l1, l2, l3, l4] (.ref a :: st) h Q ↔ gF (hRd h a) 2 2 (fun v => WP d 35 3 [l0, l1, l2, l3, l4] (v :: st) h Q) := wp_getfield (show (lcode 35)[2]? = some (.getfield 130) by decide +kernel)
theorem x35_3 : WP d 35 3 [l0, l1, l2, l3, l4] st h Q ↔ WP d 35 4 [l0, l1, l2, l3, l4] (vI 8 :: st) h Q := wp_iconst (show (lcode 35)[3]? = some (.iconst 8) by decide +kernel)
theorem x35_4 : WP d 35 4 [l0, l1, l2, l3, l4] (vI y :: vI x :: st) h Q ↔ ((wr x < wr y → WP d 35 9 [l0, l1, l2, l3, l4] st h Q) ∧ (¬ (wr x < wr y) → WP d 35 5 [l0, l1, l2, l3, l4] st h Q)) := wp_icmp_lt (show (lcode 35)[4]? = some (.if_icmp .lt 9) by decide +kernel)
theorem x35_5 : WP d 35 5 [some (Value.ref a), l1, l2, l3, l4] st h Q ↔ WP d 35 6 [some (Value.ref a), l1, l2, l3, l4] (Value.ref a :: st) h Q := wp_aload (show (lcode 35)[5]? = some (.aload 0) by decide +kernel) rfl
theorem x35_6 : WP d 35 6 [l0, l1, l2, l3, l4] st h Q ↔ WP d 35 7 [l0, l1, l2, l3, l4] (vI 3 :: st) h Q := wp_iconst (show (lcode 35)[6]? = some (.iconst 3) by decide +kernel)
theorem x35_7 : WP d 35 7 [l0, some (vI x), l2, l3, l4] st h Q ↔ WP d 35 8 [l0, some (vI x), l2, l3, l4] (vI x :: st) h Q := wp_iload (show (lcode 35)[7]? = some (.iload 1) by decide +kernel) rfl
theorem x35_8 : WP d 35 8 [l0, l1, l2, l3, l4] (v2 :: v1 :: v :: st) h Q ↔ (sh st ∧ CALL d 42 [v, v1, v2] h (fun v h => WP d 35 9 [l0, l1, l2, l3, l4] (v.toList ++ st) h Q)) := wp_call (n := 3) (show (lcode 35)[8]? = some (.invokestatic 42) by decide +kernel) (by decide +kernel) (by simp)
theorem x35_9 : WP d 35 9 [some (Value.ref a), l1, l2, l3, l4] st h Q ↔ WP d 35 10 [some (Value.ref a), l1, l2, l3, l4] (Value.ref a :: st) h Q := wp_aload (show (lcode 35)[9]? = some (.aload 0) by decide +kernel) rfl
theorem x35_10 : WP d 35 10 [l0, l1, l2, l3, l4] st h Q ↔ WP d 35 11 [l0, l1, l2, l3, l4] (vI 0 :: st) h Q := wp_iconst (show (lcode 35)[10]? = some (.iconst 0) by decide +kernel)
theorem x35_11 : WP d 35 11 [some (Value.ref a), l1, l2, l3, l4] st h Q ↔ WP d 35 12 [some (Value.ref a), l1, l2, l3, l4] (Value.ref a :: st) h Q := wp_aload (show (lcode 35)[11]? = some (.aload 0) by decide +kernel) rfl
theorem x35_12 : WP d 35 12 [l0, l1, l2, l3, l4] (.ref a :: st) h Q ↔ gF (hRd h a) 5 1 (fun v => WP d 35 13 [l0, l1, l2, l3, l4] (v :: st) h Q) := wp_getfield (show (lcode 35)[12]? = some (.getfield 321) by decide +kernel)
theorem x35_13 : WP d 35 13 [l0, l1, l2, l3, l4] (.ref a :: st) h Q ↔ gF (hRd h a) 2 1 (fun v => WP d 35 14 [l0, l1, l2, l3, l4] (v :: st) h Q) := wp_getfield (show (lcode 35)[13]? = some (.getfield 129) by decide +kernel)
theorem x35_14 : WP d 35 14 [l0, l1, l2, l3, l4] st h Q ↔ WP d 35 15 [l0, l1, l2, l3, l4] (vI 1 :: st) h Q := wp_iconst (show (lcode 35)[14]? = some (.iconst 1) by decide +kernel)
theorem x35_15 : WP d 35 15 [l0, l1, l2, l3, l4] (vI y :: vI x :: st) h Q ↔ WP d 35 16 [l0, l1, l2, l3, l4] (vI (x - y) :: st) h Q := wp_isub (show (lcode 35)[15]? = some (.isub) by decide +kernel)
theorem x35_16 : WP d 35 16 [l0, l1, l2, l3, l4] (v2 :: v1 :: v :: st) h Q ↔ (sh st ∧ CALL d 40 [v, v1, v2] h (fun v h => WP d 35 17 [l0, l1, l2, l3, l4] (v.toList ++ st) h Q)) := wp_call (n := 3) (show (lcode 35)[16]? = some (.invokestatic 40) by decide +kernel) (by decide +kernel) (by simp)
theorem x35_17 : WP d 35 17 [l0, l1, l2, l3, l4] (vI x :: st) h Q ↔ (nl l1 ∧ WP d 35 18 [l0, l1, some (vI x), l3, l4] st h Q) := wp_istore (show (lcode 35)[17]? = some (.istore 2) by decide +kernel) (Nat.le_of_ble_eq_true rfl)
theorem x35_18 : WP d 35 18 [some (Value.ref a), l1, l2, l3, l4] st h Q ↔ WP d 35 19 [some (Value.ref a), l1, l2, l3, l4] (Value.ref a :: st) h Q := wp_aload (show (lcode 35)[18]? = some (.aload 0) by decide +kernel) rfl
theorem x35_19 : WP d 35 19 [l0, l1, l2, l3, l4] st h Q ↔ WP d 35 20 [l0, l1, l2, l3, l4] (vI 1 :: st) h Q := wp_iconst (show (lcode 35)[19]? = some (.iconst 1) by decide +kernel)
theorem x35_20 : WP d 35 20 [l0, l1, l2, l3, l4] st h Q ↔ WP d 35 21 [l0, l1, l2, l3, l4] (vI 99 :: st) h Q := wp_iconst (show (lcode 35)[20]? = some (.iconst 99) by decide +kernel)
theorem x35_21 : WP d 35 21 [l0, l1, l2, l3, l4] (v2 :: v1 :: v :: st) h Q ↔ (sh st ∧ CALL d 40 [v, v1, v2] h (fun v h => WP d 35 22 [l0, l1, l2, l3, l4] (v.toList ++ st) h Q)) := wp_call (n := 3) (show (lcode 35)[21]? = some (.invokestatic 40) by decide +kernel) (by decide +kernel) (by simp)
theorem x35_22 : WP d 35 22 [l0, l1, l2, l3, l4] (vI x :: st) h Q ↔ (nl l2 ∧ WP d 35 23 [l0, l1, l2, some (vI x), l4] st h Q) := wp_istore (show (lcode 35)[22]? = some (.istore 3) by decide +kernel) (Nat.le_of_ble_eq_true rfl)
theorem x35_23 : WP d 35 23 [some (Value.ref a), l1, l2, l3, l4] st h Q ↔ WP d 35 24 [some (Value.ref a), l1, l2, l3, l4] (Value.ref a :: st) h Q := wp_aload (show (lcode 35)[23]? = some (.aload 0) by decide +kernel) rfl
theorem x35_24 : WP d 35 24 [l0, l1, l2, l3, l4] st h Q ↔ WP d 35 25 [l0, l1, l2, l3, l4] (vI 0 :: st) h Q := wp_iconst (show (lcode 35)[24]? = some (.iconst 0) by decide +kernel)
theorem x35_25 : WP d 35 25 [l0, l1, l2, l3, l4] st h Q ↔ WP d 35 26 [l0, l1, l2, l3, l4] (vI 999 :: st) h Q := wp_iconst (show (lcode 35)[25]? = some (.iconst 999) by decide +kernel)
theorem x35_26 : WP d 35 26 [l0, l1, l2, l3, l4] (v2 :: v1 :: v :: st) h Q ↔ (sh st ∧ CALL d 40 [v, v1, v2] h (fun v h => WP d 35 27 [l0, l1, l2, l3, l4] (v.toList ++ st) h Q)) := wp_call (n := 3) (show (lcode 35)[26]? = some (.invokestatic 40) by decide +kernel) (by decide +kernel) (by simp)
theorem x35_27 : WP d 35 27 [l0, l1, l2, l3, l4] (vI x :: st) h Q ↔ (nl l3 ∧ WP d 35 28 [l0, l1, l2, l3, some (vI x)] st h Q) := wp_istore (show (lcode 35)[27]? = some (.istore 4) by decide +kernel) (Nat.le_of_ble_eq_true rfl)
theorem x35_28 : WP d 35 28 [l0, l1, l2, l3, some (vI x)] st h Q ↔ WP d 35 29 [l0, l1, l2, l3, some (vI x)] (vI x :: st) h Q := wp_iload (show (lcode 35)[28]? = some (.iload 4) by decide +kernel) rfl
theorem x35_29 : WP d 35 29 [l0, l1, l2, l3, l4] st h Q ↔ WP d 35 30 [l0, l1, l2, l3, l4] (vI 9 :: st) h Q := wp_iconst (show (lcode 35)[29]? = some (.iconst 9) by decide +kernel)
theorem x35_30 : WP d 35 30 [l0, l1, l2, l3, l4] (vI y :: vI x :: st) h Q ↔ ((wr x = wr y → WP d 35 41 [l0, l1, l2, l3, l4] st h Q) ∧ (¬ (wr x = wr y) → WP d 35 31 [l0, l1, l2, l3, l4] st h Q)) := wp_icmp_eq (show (lcode 35)[30]? = some (.if_icmp .eq 41) by decide +kernel)
theorem x35_31 : WP d 35 31 [l0, l1, l2, l3, some (vI x)] st h Q ↔ WP d 35 32 [l0, l1, l2, l3, some (vI x)] (vI x :: st) h Q := wp_iload (show (lcode 35)[31]? = some (.iload 4) by decide +kernel) rfl
theorem x35_32 : WP d 35 32 [some (Value.ref a), l1, l2, l3, l4] st h Q ↔ WP d 35 33 [some (Value.ref a), l1, l2, l3, l4] (Value.ref a :: st) h Q := wp_aload (show (lcode 35)[32]? = some (.aload 0) by decide +kernel) rfl
theorem x35_33 : WP d 35 33 [l0, l1, l2, l3, l4] (.ref a :: st) h Q ↔ gF (hRd h a) 5 1 (fun v => WP d 35 34 [l0, l1, l2, l3, l4] (v :: st) h Q) := wp_getfield (show (lcode 35)[33]? = some (.getfield 321) by decide +kernel)
theorem x35_34 : WP d 35 34 [l0, l1, l2, l3, l4] (.ref a :: st) h Q ↔ gF (hRd h a) 2 2 (fun v => WP d 35 35 [l0, l1, l2, l3, l4] (v :: st) h Q) := wp_getfield (show (lcode 35)[34]? = some (.getfield 130) by decide +kernel)
theorem x35_35 : WP d 35 35 [l0, l1, l2, l3, l4] (vI y :: vI x :: st) h Q ↔ ((wr x < wr y → WP d 35 41 [l0, l1, l2, l3, l4] st h Q) ∧ (¬ (wr x < wr y) → WP d 35 36 [l0, l1, l2, l3, l4] st h Q)) := wp_icmp_lt (show (lcode 35)[35]? = some (.if_icmp .lt 41) by decide +kernel)
theorem x35_36 : WP d 35 36 [some (Value.ref a), l1, l2, l3, l4] st h Q ↔ WP d 35 37 [some (Value.ref a), l1, l2, l3, l4] (Value.ref a :: st) h Q := wp_aload (show (lcode 35)[36]? = some (.aload 0) by decide +kernel) rfl
theorem x35_37 : WP d 35 37 [l0, l1, l2, l3, l4] st h Q ↔ WP d 35 38 [l0, l1, l2, l3, l4] (vI 2 :: st) h Q := wp_iconst (show (lcode 35)[37]? = some (.iconst 2) by decide +kernel)
theorem x35_38 : WP d 35 38 [some (Value.ref a), l1, l2, l3, l4] st h Q ↔ WP d 35 39 [some (Value.ref a), l1, l2, l3, l4] (Value.ref a :: st) h Q := wp_aload (show (lcode 35)[38]? = some (.aload 0) by decide +kernel) rfl
theorem x35_39 : WP d 35 39 [l0, l1, l2, l3, l4] (.ref a :: st) h Q ↔ gF (hRd h a) 5 6 (fun v => WP d 35 40 [l0, l1, l2, l3, l4] (v :: st) h Q) := wp_getfield (show (lcode 35)[39]? = some (.getfield 326) by decide +kernel)
theorem x35_40 : WP d 35 40 [l0, l1, l2, l3, l4] (v2 :: v1 :: v :: st) h Q ↔ (sh st ∧ CALL d 42 [v, v1, v2] h (fun v h => WP d 35 41 [l0, l1, l2, l3, l4] (v.toList ++ st) h Q)) := wp_call (n := 3) (show (lcode 35)[40]? = some (.invokestatic 42) by decide +kernel) (by decide +kernel) (by simp)
theorem x35_41 : WP d 35 41 [some (Value.ref a), l1, l2, l3, l4] st h Q ↔ WP d 35 42 [some (Value.ref a), l1, l2, l3, l4] (Value.ref a :: st) h Q := wp_aload (show (lcode 35)[41]? = some (.aload 0) by decide +kernel) rfl
theorem x35_42 : WP d 35 42 [l0, l1, l2, l3, l4] (v :: st) h Q ↔ (sh st ∧ CALL d 41 [v] h (fun v h => WP d 35 43 [l0, l1, l2, l3, l4] (v.toList ++ st) h Q)) := wp_call (n := 1) (show (lcode 35)[42]? = some (.invokestatic 41) by decide +kernel) (by decide +kernel) (by simp)
theorem x35_43 : WP d 35 43 [some (Value.ref a), l1, l2, l3, l4] st h Q ↔ WP d 35 44 [some (Value.ref a), l1, l2, l3, l4] (Value.ref a :: st) h Q := wp_aload (show (lcode 35)[43]? = some (.aload 0) by decide +kernel) rfl
theorem x35_44 : WP d 35 44 [l0, l1, l2, l3, l4] (.ref a :: st) h Q ↔ gF (hRd h a) 5 3 (fun v => WP d 35 45 [l0, l1, l2, l3, l4] (v :: st) h Q) := wp_getfield (show (lcode 35)[44]? = some (.getfield 323) by decide +kernel)
theorem x35_45 : WP d 35 45 [l0, l1, l2, l3, l4] (vI x :: st) h Q ↔ ((¬ wr x = 0 → WP d 35 57 [l0, l1, l2, l3, l4] st h Q) ∧ (¬ (¬ wr x = 0) → WP d 35 46 [l0, l1, l2, l3, l4] st h Q)) := wp_if_ne (show (lcode 35)[45]? = some (.ifCond .ne 57) by decide +kernel)
theorem x35_46 : WP d 35 46 [some (Value.ref a), l1, l2, l3, l4] st h Q ↔ WP d 35 47 [some (Value.ref a), l1, l2, l3, l4] (Value.ref a :: st) h Q := wp_aload (show (lcode 35)[46]? = some (.aload 0) by decide +kernel) rfl
theorem x35_47 : WP d 35 47 [l0, l1, l2, l3, l4] (.ref a :: st) h Q ↔ gF (hRd h a) 5 1 (fun v => WP d 35 48 [l0, l1, l2, l3, l4] (v :: st) h Q) := wp_getfield (show (lcode 35)[47]? = some (.getfield 321) by decide +kernel)
theorem x35_48 : WP d 35 48 [l0, l1, some (vI x), l3, l4] st h Q ↔ WP d 35 49 [l0, l1, some (vI x), l3, l4] (vI x :: st) h Q := wp_iload (show (lcode 35)[48]? = some (.iload 2) by decide +kernel) rfl
theorem x35_49 : WP d 35 49 [l0, l1, l2, some (vI x), l4] st h Q ↔ WP d 35 50 [l0, l1, l2, some (vI x), l4] (vI x :: st) h Q := wp_iload (show (lcode 35)[49]? = some (.iload 3) by decide +kernel) rfl
theorem x35_50 : WP d 35 50 [l0, l1, l2, l3, some (vI x)] st h Q ↔ WP d 35 51 [l0, l1, l2, l3, some (vI x)] (vI x :: st) h Q := wp_iload (show (lcode 35)[50]? = some (.iload 4) by decide +kernel) rfl
theorem x35_51 : WP d 35 51 [l0, l1, l2, l3, l4] st h Q ↔ WP d 35 52 [l0, l1, l2, l3, l4] (vI 9 :: st) h Q := wp_iconst (show (lcode 35)[51]? = some (.iconst 9) by decide +kernel)
theorem x35_52 : WP d 35 52 [l0, l1, l2, l3, l4] (vI y :: vI x :: st) h Q ↔ ((¬ wr x = wr y → WP d 35 55 [l0, l1, l2, l3, l4] st h Q) ∧ (¬ (¬ wr x = wr y) → WP d 35 53 [l0, l1, l2, l3, l4] st h Q)) := wp_icmp_ne (show (lcode 35)[52]? = some (.if_icmp .ne 55) by decide +kernel)
theorem x35_53 : WP d 35 53 [l0, l1, l2, l3, l4] st h Q ↔ WP d 35 54 [l0, l1, l2, l3, l4] (vI (-1) :: st) h Q := wp_iconst (show (lcode 35)[53]? = some (.iconst (-1)) by decide +kernel)
theorem x35_54 : WP d 35 54 [l0, l1, l2, l3, l4] st h Q ↔ WP d 35 56 [l0, l1, l2, l3, l4] st h Q := wp_goto (show (lcode 35)[54]? = some (.goto 56) by decide +kernel)
theorem x35_55 : WP d 35 55 [l0, l1, l2, l3, some (vI x)] st h Q ↔ WP d 35 56 [l0, l1, l2, l3, some (vI x)] (vI x :: st) h Q := wp_iload (show (lcode 35)[55]? = some (.iload 4) by decide +kernel) rfl
theorem x35_56 : WP d 35 56 [l0, l1, l2, l3, l4] (q3 :: q2 :: q1 :: q0 :: st) h Q ↔ (sh st ∧ CALL d 20 [q0, q1, q2, q3] h (fun v h => WP d 35 57 [l0, l1, l2, l3, l4] (v.toList ++ st) h Q)) := wp_call (n := 4) (show (lcode 35)[56]? = some (.invokestatic 20) by decide +kernel) (by decide +kernel) (by simp)
theorem x35_57 : WP d 35 57 [l0, l1, l2, l3, l4] [] h Q ↔ Q none h := wp_return (show (lcode 35)[57]? = some (.return_) by decide +kernel)
-- 36: WakeOrder$Reader.readWaiting
theorem x36_0 : WP d 36 0 [some (Value.ref a), l1, l2] st h Q ↔ WP d 36 1 [some (Value.ref a), l1, l2] (Value.ref a :: st) h Q := wp_aload (show (lcode 36)[0]? = some (.aload 0) by decide +kernel) rfl
theorem x36_1 : WP d 36 1 [l0, l1, l2] st h Q ↔ WP d 36 2 [l0, l1, l2] (vI 0 :: st) h Q := wp_iconst (show (lcode 36)[1]? = some (.iconst 0) by decide +kernel)
theorem x36_2 : WP d 36 2 [some (Value.ref a), l1, l2] st h Q ↔ WP d 36 3 [some (Value.ref a), l1, l2] (Value.ref a :: st) h Q := wp_aload (show (lcode 36)[2]? = some (.aload 0) by decide +kernel) rfl
theorem x36_3 : WP d 36 3 [l0, l1, l2] (.ref a :: st) h Q ↔ gF (hRd h a) 5 1 (fun v => WP d 36 4 [l0, l1, l2] (v :: st) h Q) := wp_getfield (show (lcode 36)[3]? = some (.getfield 321) by decide +kernel)
theorem x36_4 : WP d 36 4 [l0, l1, l2] (.ref a :: st) h Q ↔ gF (hRd h a) 2 1 (fun v => WP d 36 5 [l0, l1, l2] (v :: st) h Q) := wp_getfield (show (lcode 36)[4]? = some (.getfield 129) by decide +kernel)
theorem x36_5 : WP d 36 5 [l0, l1, l2] st h Q ↔ WP d 36 6 [l0, l1, l2] (vI 1 :: st) h Q := wp_iconst (show (lcode 36)[5]? = some (.iconst 1) by decide +kernel)
theorem x36_6 : WP d 36 6 [l0, l1, l2] (vI y :: vI x :: st) h Q ↔ WP d 36 7 [l0, l1, l2] (vI (x - y) :: st) h Q := wp_isub (show (lcode 36)[6]? = some (.isub) by decide +kernel)
theorem x36_7 : WP d 36 7 [l0, l1, l2] (v2 :: v1 :: v :: st) h Q ↔ (sh st ∧ CALL d 40 [v, v1, v2] h (fun v h => WP d 36 8 [l0, l1, l2] (v.toList ++ st) h Q)) := wp_call (n := 3) (show (lcode 36)[7]? = some (.invokestatic 40) by decide +kernel) (by decide +kernel) (by simp)
theorem x36_8 : WP d 36 8 [l0, l1, l2] (vI x :: st) h Q ↔ (nl l0 ∧ WP d 36 9 [l0, some (vI x), l2] st h Q) := wp_istore (show (lcode 36)[8]? = some (.istore 1) by decide +kernel) (Nat.le_of_ble_eq_true rfl)
theorem x36_9 : WP d 36 9 [some (Value.ref a), l1, l2] st h Q ↔ WP d 36 10 [some (Value.ref a), l1, l2] (Value.ref a :: st) h Q := wp_aload (show (lcode 36)[9]? = some (.aload 0) by decide +kernel) rfl
theorem x36_10 : WP d 36 10 [l0, l1, l2] (.ref a :: st) h Q ↔ gF (hRd h a) 5 1 (fun v => WP d 36 11 [l0, l1, l2] (v :: st) h Q) := wp_getfield (show (lcode 36)[10]? = some (.getfield 321) by decide +kernel)
theorem x36_11 : WP d 36 11 [l0, l1, l2] (.ref a :: st) h Q ↔ gF (hRd h a) 2 4 (fun v => WP d 36 12 [l0, l1, l2] (v :: st) h Q) := wp_getfield (show (lcode 36)[11]? = some (.getfield 132) by decide +kernel)
theorem x36_12 : WP d 36 12 [l0, some (vI x), l2] st h Q ↔ WP d 36 13 [l0, some (vI x), l2] (vI x :: st) h Q := wp_iload (show (lcode 36)[12]? = some (.iload 1) by decide +kernel) rfl
theorem x36_13 : WP d 36 13 [l0, l1, l2] (v1 :: v :: st) h Q ↔ (sh st ∧ CALL d 107 [v, v1] h (fun v h => WP d 36 14 [l0, l1, l2] (v.toList ++ st) h Q)) := wp_call (n := 2) (show (lcode 36)[13]? = some (.invokestatic 107) by decide +kernel) (by decide +kernel) (by simp)
theorem x36_14 : WP d 36 14 [l0, l1, l2] st h Q ↔ WP d 36 15 [l0, l1, l2] (vI (-1) :: st) h Q := wp_iconst (show (lcode 36)[14]? = some (.iconst (-1)) by decide +kernel)
theorem x36_15 : WP d 36 15 [l0, l1, l2] (vI y :: vI x :: st) h Q ↔ ((wr x = wr y → WP d 36 21 [l0, l1, l2] st h Q) ∧ (¬ (wr x = wr y) → WP d 36 16 [l0, l1, l2] st h Q)) := wp_icmp_eq (show (lcode 36)[15]? = some (.if_icmp .eq 21) by decide +kernel)
theorem x36_16 : WP d 36 16 [some (Value.ref a), l1, l2] st h Q ↔ WP d 36 17 [some (Value.ref a), l1, l2] (Value.ref a :: st) h Q := wp_aload (show (lcode 36)[16]? = some (.aload 0) by decide +kernel) rfl
theorem x36_17 : WP d 36 17 [l0, l1, l2] st h Q ↔ WP d 36 18 [l0, l1, l2] (vI 4 :: st) h Q := wp_iconst (show (lcode 36)[17]? = some (.iconst 4) by decide +kernel)
theorem x36_18 : WP d 36 18 [some (Value.ref a), l1, l2] st h Q ↔ WP d 36 19 [some (Value.ref a), l1, l2] (Value.ref a :: st) h Q := wp_aload (show (lcode 36)[18]? = some (.aload 0) by decide +kernel) rfl
theorem x36_19 : WP d 36 19 [l0, l1, l2] (.ref a :: st) h Q ↔ gF (hRd h a) 5 6 (fun v => WP d 36 20 [l0, l1, l2] (v :: st) h Q) := wp_getfield (show (lcode 36)[19]? = some (.getfield 326) by decide +kernel)
theorem x36_20 : WP d 36 20 [l0, l1, l2] (v2 :: v1 :: v :: st) h Q ↔ (sh st ∧ CALL d 42 [v, v1, v2] h (fun v h => WP d 36 21 [l0, l1, l2] (v.toList ++ st) h Q)) := wp_call (n := 3) (show (lcode 36)[20]? = some (.invokestatic 42) by decide +kernel) (by decide +kernel) (by simp)
theorem x36_21 : WP d 36 21 [some (Value.ref a), l1, l2] st h Q ↔ WP d 36 22 [some (Value.ref a), l1, l2] (Value.ref a :: st) h Q := wp_aload (show (lcode 36)[21]? = some (.aload 0) by decide +kernel) rfl
theorem x36_22 : WP d 36 22 [l0, l1, l2] st h Q ↔ WP d 36 23 [l0, l1, l2] (vI 0 :: st) h Q := wp_iconst (show (lcode 36)[22]? = some (.iconst 0) by decide +kernel)
theorem x36_23 : WP d 36 23 [some (Value.ref a), l1, l2] st h Q ↔ WP d 36 24 [some (Value.ref a), l1, l2] (Value.ref a :: st) h Q := wp_aload (show (lcode 36)[23]? = some (.aload 0) by decide +kernel) rfl
theorem x36_24 : WP d 36 24 [l0, l1, l2] (.ref a :: st) h Q ↔ gF (hRd h a) 5 1 (fun v => WP d 36 25 [l0, l1, l2] (v :: st) h Q) := wp_getfield (show (lcode 36)[24]? = some (.getfield 321) by decide +kernel)
theorem x36_25 : WP d 36 25 [l0, l1, l2] (.ref a :: st) h Q ↔ gF (hRd h a) 2 2 (fun v => WP d 36 26 [l0, l1, l2] (v :: st) h Q) := wp_getfield (show (lcode 36)[25]? = some (.getfield 130) by decide +kernel)
theorem x36_26 : WP d 36 26 [l0, l1, l2] st h Q ↔ WP d 36 27 [l0, l1, l2] (vI 1 :: st) h Q := wp_iconst (show (lcode 36)[26]? = some (.iconst 1) by decide +kernel)
theorem x36_27 : WP d 36 27 [l0, l1, l2] (vI y :: vI x :: st) h Q ↔ WP d 36 28 [l0, l1, l2] (vI (x - y) :: st) h Q := wp_isub (show (lcode 36)[27]? = some (.isub) by decide +kernel)
theorem x36_28 : WP d 36 28 [l0, l1, l2] (v2 :: v1 :: v :: st) h Q ↔ (sh st ∧ CALL d 40 [v, v1, v2] h (fun v h => WP d 36 29 [l0, l1, l2] (v.toList ++ st) h Q)) := wp_call (n := 3) (show (lcode 36)[28]? = some (.invokestatic 40) by decide +kernel) (by decide +kernel) (by simp)
theorem x36_29 : WP d 36 29 [l0, l1, l2] (vI x :: st) h Q ↔ (nl l1 ∧ WP d 36 30 [l0, l1, some (vI x)] st h Q) := wp_istore (show (lcode 36)[29]? = some (.istore 2) by decide +kernel) (Nat.le_of_ble_eq_true rfl)
theorem x36_30 : WP d 36 30 [some (Value.ref a), l1, l2] st h Q ↔ WP d 36 31 [some (Value.ref a), l1, l2] (Value.ref a :: st) h Q := wp_aload (show (lcode 36)[30]? = some (.aload 0) by decide +kernel) rfl
theorem x36_31 : WP d 36 31 [l0, l1, l2] (v :: st) h Q ↔ (sh st ∧ CALL d 41 [v] h (fun v h => WP d 36 32 [l0, l1, l2] (v.toList ++ st) h Q)) := wp_call (n := 1) (show (lcode 36)[31]? = some (.invokestatic 41) by decide +kernel) (by decide +kernel) (by simp)
theorem x36_32 : WP d 36 32 [some (Value.ref a), l1, l2] st h Q ↔ WP d 36 33 [some (Value.ref a), l1, l2] (Value.ref a :: st) h Q := wp_aload (show (lcode 36)[32]? = some (.aload 0) by decide +kernel) rfl
theorem x36_33 : WP d 36 33 [l0, l1, l2] (.ref a :: st) h Q ↔ gF (hRd h a) 5 3 (fun v => WP d 36 34 [l0, l1, l2] (v :: st) h Q) := wp_getfield (show (lcode 36)[33]? = some (.getfield 323) by decide +kernel)
theorem x36_34 : WP d 36 34 [l0, l1, l2] (vI x :: st) h Q ↔ ((¬ wr x = 0 → WP d 36 47 [l0, l1, l2] st h Q) ∧ (¬ (¬ wr x = 0) → WP d 36 35 [l0, l1, l2] st h Q)) := wp_if_ne (show (lcode 36)[34]? = some (.ifCond .ne 47) by decide +kernel)
theorem x36_35 : WP d 36 35 [some (Value.ref a), l1, l2] st h Q ↔ WP d 36 36 [some (Value.ref a), l1, l2] (Value.ref a :: st) h Q := wp_aload (show (lcode 36)[35]? = some (.aload 0) by decide +kernel) rfl
theorem x36_36 : WP d 36 36 [l0, l1, l2] (.ref a :: st) h Q ↔ gF (hRd h a) 5 1 (fun v => WP d 36 37 [l0, l1, l2] (v :: st) h Q) := wp_getfield (show (lcode 36)[36]? = some (.getfield 321) by decide +kernel)
theorem x36_37 : WP d 36 37 [l0, l1, l2] (.ref a :: st) h Q ↔ gF (hRd h a) 2 4 (fun v => WP d 36 38 [l0, l1, l2] (v :: st) h Q) := wp_getfield (show (lcode 36)[37]? = some (.getfield 132) by decide +kernel)
theorem x36_38 : WP d 36 38 [l0, some (vI x), l2] st h Q ↔ WP d 36 39 [l0, some (vI x), l2] (vI x :: st) h Q := wp_iload (show (lcode 36)[38]? = some (.iload 1) by decide +kernel) rfl
theorem x36_39 : WP d 36 39 [l0, l1, l2] (v1 :: v :: st) h Q ↔ (sh st ∧ CALL d 106 [v, v1] h (fun v h => WP d 36 40 [l0, l1, l2] (v.toList ++ st) h Q)) := wp_call (n := 2) (show (lcode 36)[39]? = some (.invokestatic 106) by decide +kernel) (by decide +kernel) (by simp)
theorem x36_40 : WP d 36 40 [l0, l1, l2] (vI x :: st) h Q ↔ ((wr x = 0 → WP d 36 47 [l0, l1, l2] st h Q) ∧ (¬ (wr x = 0) → WP d 36 41 [l0, l1, l2] st h Q)) := wp_if_eq (show (lcode 36)[40]? = some (.ifCond .eq 47) by decide +kernel)
theorem x36_41 : WP d 36 41 [some (Value.ref a), l1, l2] st h Q ↔ WP d 36 42 [some (Value.ref a), l1, l2] (Value.ref a :: st) h Q := wp_aload (show (lcode 36)[41]? = some (.aload 0) by decide +kernel) rfl
theorem x36_42 : WP d 36 42 [l0, l1, l2] (.ref a :: st) h Q ↔ gF (hRd h a) 5 1 (fun v => WP d 36 43 [l0, l1, l2] (v :: st) h Q) := wp_getfield (show (lcode 36)[42]? = some (.getfield 321) by decide +kernel)
theorem x36_43 : WP d 36 43 [l0, l1, l2] (.ref a :: st) h Q ↔ gF (hRd h a) 2 4 (fun v => WP d 36 44 [l0, l1, l2] (v :: st) h Q) := wp_getfield (show (lcode 36)[43]? = some (.getfield 132) by decide +kernel)
theorem x36_44 : WP d 36 44 [l0, some (vI x), l2] st h Q ↔ WP d 36 45 [l0, some (vI x), l2] (vI x :: st) h Q := wp_iload (show (lcode 36)[44]? = some (.iload 1) by decide +kernel) rfl
theorem x36_45 : WP d 36 45 [l0, l1, some (vI x)] st h Q ↔ WP d 36 46 [l0, l1, some (vI x)] (vI x :: st) h Q := wp_iload (show (lcode 36)[45]? = some (.iload 2) by decide +kernel) rfl
theorem x36_46 : WP d 36 46 [l0, l1, l2] (vI y :: vI x :: .ref a :: st) h Q ↔ stA (hRd h a) a x (vI y) (fun c => WP d 36 47 [l0, l1, l2] st (hWr h a c) Q) := wp_iastore (show (lcode 36)[46]? = some (.iastore) by decide +kernel)
theorem x36_47 : WP d 36 47 [l0, l1, l2] [] h Q ↔ Q none h := wp_return (show (lcode 36)[47]? = some (.return_) by decide +kernel)
-- 37: WakeOrder$Reader.skipBlanks
theorem x37_0 : WP d 37 0 [l0] st h Q ↔ WPC d 37 1 [l0] st h Q := wp_nop (show (lcode 37)[0]? = some (.nop) by decide +kernel)
theorem x37_1 : WP d 37 1 [some (Value.ref a)] st h Q ↔ WP d 37 2 [some (Value.ref a)] (Value.ref a :: st) h Q := wp_aload (show (lcode 37)[1]? = some (.aload 0) by decide +kernel) rfl
theorem x37_2 : WP d 37 2 [l0] (.ref a :: st) h Q ↔ gF (hRd h a) 5 5 (fun v => WP d 37 3 [l0] (v :: st) h Q) := wp_getfield (show (lcode 37)[2]? = some (.getfield 325) by decide +kernel)
theorem x37_3 : WP d 37 3 [some (Value.ref a)] st h Q ↔ WP d 37 4 [some (Value.ref a)] (Value.ref a :: st) h Q := wp_aload (show (lcode 37)[3]? = some (.aload 0) by decide +kernel) rfl
theorem x37_4 : WP d 37 4 [l0] (.ref a :: st) h Q ↔ gF (hRd h a) 5 2 (fun v => WP d 37 5 [l0] (v :: st) h Q) := wp_getfield (show (lcode 37)[4]? = some (.getfield 322) by decide +kernel)
theorem x37_5 : WP d 37 5 [l0] (vI y :: vI x :: st) h Q ↔ ((wr y ≤ wr x → WP d 37 17 [l0] st h Q) ∧ (¬ (wr y ≤ wr x) → WP d 37 6 [l0] st h Q)) := wp_icmp_ge (show (lcode 37)[5]? = some (.if_icmp .ge 17) by decide +kernel)
theorem x37_6 : WP d 37 6 [some (Value.ref a)] st h Q ↔ WP d 37 7 [some (Value.ref a)] (Value.ref a :: st) h Q := wp_aload (show (lcode 37)[6]? = some (.aload 0) by decide +kernel) rfl
theorem x37_7 : WP d 37 7 [l0] (v :: st) h Q ↔ (sh st ∧ CALL d 38 [v] h (fun v h => WP d 37 8 [l0] (v.toList ++ st) h Q)) := wp_call (n := 1) (show (lcode 37)[7]? = some (.invokestatic 38) by decide +kernel) (by decide +kernel) (by simp)
theorem x37_8 : WP d 37 8 [l0] st h Q ↔ WP d 37 9 [l0] (vI 32 :: st) h Q := wp_iconst (show (lcode 37)[8]? = some (.iconst 32) by decide +kernel)
theorem x37_9 : WP d 37 9 [l0] (vI y :: vI x :: st) h Q ↔ ((¬ wr x = wr y → WP d 37 17 [l0] st h Q) ∧ (¬ (¬ wr x = wr y) → WP d 37 10 [l0] st h Q)) := wp_icmp_ne (show (lcode 37)[9]? = some (.if_icmp .ne 17) by decide +kernel)
theorem x37_10 : WP d 37 10 [some (Value.ref a)] st h Q ↔ WP d 37 11 [some (Value.ref a)] (Value.ref a :: st) h Q := wp_aload (show (lcode 37)[10]? = some (.aload 0) by decide +kernel) rfl
theorem x37_11 : WP d 37 11 [l0] (v :: st) h Q ↔ (c1 v ∧ WP d 37 12 [l0] (v :: v :: st) h Q) := wp_dup (show (lcode 37)[11]? = some (.dup) by decide +kernel)
theorem x37_12 : WP d 37 12 [l0] (.ref a :: st) h Q ↔ gF (hRd h a) 5 5 (fun v => WP d 37 13 [l0] (v :: st) h Q) := wp_getfield (show (lcode 37)[12]? = some (.getfield 325) by decide +kernel)
theorem x37_13 : WP d 37 13 [l0] st h Q ↔ WP d 37 14 [l0] (vI 1 :: st) h Q := wp_iconst (show (lcode 37)[13]? = some (.iconst 1) by decide +kernel)
theorem x37_14 : WP d 37 14 [l0] (vI y :: vI x :: st) h Q ↔ WP d 37 15 [l0] (vI (x + y) :: st) h Q := wp_iadd (show (lcode 37)[14]? = some (.iadd) by decide +kernel)
theorem x37_15 : WP d 37 15 [l0] (vI x :: .ref a :: st) h Q ↔ pF (hRd h a) 5 5 (vI x) (fun c => WP d 37 16 [l0] st (hWr h a c) Q) := wp_putfield (show (lcode 37)[15]? = some (.putfield 325) by decide +kernel)
theorem x37_16 : WP d 37 16 [l0] st h Q ↔ WP d 37 0 [l0] st h Q := wp_goto (show (lcode 37)[16]? = some (.goto 0) by decide +kernel)
theorem x37_17 : WP d 37 17 [l0] [] h Q ↔ Q none h := wp_return (show (lcode 37)[17]? = some (.return_) by decide +kernel)
-- 38: WakeOrder$Reader.letterOrNone
theorem x38_0 : WP d 38 0 [some (Value.ref a)] st h Q ↔ WP d 38 1 [some (Value.ref a)] (Value.ref a :: st) h Q := wp_aload (show (lcode 38)[0]? = some (.aload 0) by decide +kernel) rfl
theorem x38_1 : WP d 38 1 [l0] (.ref a :: st) h Q ↔ gF (hRd h a) 5 5 (fun v => WP d 38 2 [l0] (v :: st) h Q) := wp_getfield (show (lcode 38)[1]? = some (.getfield 325) by decide +kernel)
theorem x38_2 : WP d 38 2 [l0] (vI x :: st) h Q ↔ ((wr x < 0 → WP d 38 20 [l0] st h Q) ∧ (¬ (wr x < 0) → WP d 38 3 [l0] st h Q)) := wp_if_lt (show (lcode 38)[2]? = some (.ifCond .lt 20) by decide +kernel)
theorem x38_3 : WP d 38 3 [some (Value.ref a)] st h Q ↔ WP d 38 4 [some (Value.ref a)] (Value.ref a :: st) h Q := wp_aload (show (lcode 38)[3]? = some (.aload 0) by decide +kernel) rfl
theorem x38_4 : WP d 38 4 [l0] (.ref a :: st) h Q ↔ gF (hRd h a) 5 5 (fun v => WP d 38 5 [l0] (v :: st) h Q) := wp_getfield (show (lcode 38)[4]? = some (.getfield 325) by decide +kernel)
theorem x38_5 : WP d 38 5 [some (Value.ref a)] st h Q ↔ WP d 38 6 [some (Value.ref a)] (Value.ref a :: st) h Q := wp_aload (show (lcode 38)[5]? = some (.aload 0) by decide +kernel) rfl
theorem x38_6 : WP d 38 6 [l0] (.ref a :: st) h Q ↔ gF (hRd h a) 5 2 (fun v => WP d 38 7 [l0] (v :: st) h Q) := wp_getfield (show (lcode 38)[6]? = some (.getfield 322) by decide +kernel)
theorem x38_7 : WP d 38 7 [l0] (vI y :: vI x :: st) h Q ↔ ((wr y ≤ wr x → WP d 38 20 [l0] st h Q) ∧ (¬ (wr y ≤ wr x) → WP d 38 8 [l0] st h Q)) := wp_icmp_ge (show (lcode 38)[7]? = some (.if_icmp .ge 20) by decide +kernel)
theorem x38_8 : WP d 38 8 [some (Value.ref a)] st h Q ↔ WP d 38 9 [some (Value.ref a)] (Value.ref a :: st) h Q := wp_aload (show (lcode 38)[8]? = some (.aload 0) by decide +kernel) rfl
theorem x38_9 : WP d 38 9 [l0] (.ref a :: st) h Q ↔ gF (hRd h a) 5 5 (fun v => WP d 38 10 [l0] (v :: st) h Q) := wp_getfield (show (lcode 38)[9]? = some (.getfield 325) by decide +kernel)
theorem x38_10 : WP d 38 10 [some (Value.ref a)] st h Q ↔ WP d 38 11 [some (Value.ref a)] (Value.ref a :: st) h Q := wp_aload (show (lcode 38)[10]? = some (.aload 0) by decide +kernel) rfl
theorem x38_11 : WP d 38 11 [l0] (.ref a :: st) h Q ↔ gF (hRd h a) 5 0 (fun v => WP d 38 12 [l0] (v :: st) h Q) := wp_getfield (show (lcode 38)[11]? = some (.getfield 320) by decide +kernel)
theorem x38_12 : WP d 38 12 [l0] (.ref a :: st) h Q ↔ aL (hRd h a) (fun v => WP d 38 13 [l0] (v :: st) h Q) := wp_arraylength (show (lcode 38)[12]? = some (.arraylength) by decide +kernel)
theorem x38_13 : WP d 38 13 [l0] (vI y :: vI x :: st) h Q ↔ ((wr y ≤ wr x → WP d 38 20 [l0] st h Q) ∧ (¬ (wr y ≤ wr x) → WP d 38 14 [l0] st h Q)) := wp_icmp_ge (show (lcode 38)[13]? = some (.if_icmp .ge 20) by decide +kernel)
theorem x38_14 : WP d 38 14 [some (Value.ref a)] st h Q ↔ WP d 38 15 [some (Value.ref a)] (Value.ref a :: st) h Q := wp_aload (show (lcode 38)[14]? = some (.aload 0) by decide +kernel) rfl
theorem x38_15 : WP d 38 15 [l0] (.ref a :: st) h Q ↔ gF (hRd h a) 5 0 (fun v => WP d 38 16 [l0] (v :: st) h Q) := wp_getfield (show (lcode 38)[15]? = some (.getfield 320) by decide +kernel)
theorem x38_16 : WP d 38 16 [some (Value.ref a)] st h Q ↔ WP d 38 17 [some (Value.ref a)] (Value.ref a :: st) h Q := wp_aload (show (lcode 38)[16]? = some (.aload 0) by decide +kernel) rfl
theorem x38_17 : WP d 38 17 [l0] (.ref a :: st) h Q ↔ gF (hRd h a) 5 5 (fun v => WP d 38 18 [l0] (v :: st) h Q) := wp_getfield (show (lcode 38)[17]? = some (.getfield 325) by decide +kernel)
theorem x38_18 : WP d 38 18 [l0] (vI x :: .ref a :: st) h Q ↔ ldA (hRd h a) x (fun v => WP d 38 19 [l0] (v :: st) h Q) := wp_iaload (show (lcode 38)[18]? = some (.iaload) by decide +kernel)
theorem x38_19 : WP d 38 19 [l0] st h Q ↔ WP d 38 21 [l0] st h Q := wp_goto (show (lcode 38)[19]? = some (.goto 21) by decide +kernel)
theorem x38_20 : WP d 38 20 [l0] st h Q ↔ WP d 38 21 [l0] (vI (-1) :: st) h Q := wp_iconst (show (lcode 38)[20]? = some (.iconst (-1)) by decide +kernel)
theorem x38_21 : WP d 38 21 [l0] [vI x] h Q ↔ Q (some (vI x)) h := wp_ireturn (show (lcode 38)[21]? = some (.ireturn) by decide +kernel)
-- 39: WakeOrder$Reader.atFigure
theorem x39_0 : WP d 39 0 [some (Value.ref a), l1] st h Q ↔ WP d 39 1 [some (Value.ref a), l1] (Value.ref a :: st) h Q := wp_aload (show (lcode 39)[0]? = some (.aload 0) by decide +kernel) rfl
theorem x39_1 : WP d 39 1 [l0, l1] (v :: st) h Q ↔ (sh st ∧ CALL d 38 [v] h (fun v h => WP d 39 2 [l0, l1] (v.toList ++ st) h Q)) := wp_call (n := 1) (show (lcode 39)[1]? = some (.invokestatic 38) by decide +kernel) (by decide +kernel) (by simp)
theorem x39_2 : WP d 39 2 [l0, l1] (vI x :: st) h Q ↔ (nl l0 ∧ WP d 39 3 [l0, some (vI x)] st h Q) := wp_istore (show (lcode 39)[2]? = some (.istore 1) by decide +kernel) (Nat.le_of_ble_eq_true rfl)
theorem x39_3 : WP d 39 3 [l0, some (vI x)] st h Q ↔ WP d 39 4 [l0, some (vI x)] (vI x :: st) h Q := wp_iload (show (lcode 39)[3]? = some (.iload 1) by decide +kernel) rfl
theorem x39_4 : WP d 39 4 [l0, l1] st h Q ↔ WP d 39 5 [l0, l1] (vI 48 :: st) h Q := wp_iconst (show (lcode 39)[4]? = some (.iconst 48) by decide +kernel)
theorem x39_5 : WP d 39 5 [l0, l1] (vI y :: vI x :: st) h Q ↔ ((wr x < wr y → WP d 39 11 [l0, l1] st h Q) ∧ (¬ (wr x < wr y) → WP d 39 6 [l0, l1] st h Q)) := wp_icmp_lt (show (lcode 39)[5]? = some (.if_icmp .lt 11) by decide +kernel)
theorem x39_6 : WP d 39 6 [l0, some (vI x)] st h Q ↔ WP d 39 7 [l0, some (vI x)] (vI x :: st) h Q := wp_iload (show (lcode 39)[6]? = some (.iload 1) by decide +kernel) rfl
theorem x39_7 : WP d 39 7 [l0, l1] st h Q ↔ WP d 39 8 [l0, l1] (vI 57 :: st) h Q := wp_iconst (show (lcode 39)[7]? = some (.iconst 57) by decide +kernel)
theorem x39_8 : WP d 39 8 [l0, l1] (vI y :: vI x :: st) h Q ↔ ((wr y < wr x → WP d 39 11 [l0, l1] st h Q) ∧ (¬ (wr y < wr x) → WP d 39 9 [l0, l1] st h Q)) := wp_icmp_gt (show (lcode 39)[8]? = some (.if_icmp .gt 11) by decide +kernel)
theorem x39_9 : WP d 39 9 [l0, l1] st h Q ↔ WP d 39 10 [l0, l1] (vI 1 :: st) h Q := wp_iconst (show (lcode 39)[9]? = some (.iconst 1) by decide +kernel)
theorem x39_10 : WP d 39 10 [l0, l1] st h Q ↔ WP d 39 12 [l0, l1] st h Q := wp_goto (show (lcode 39)[10]? = some (.goto 12) by decide +kernel)
theorem x39_11 : WP d 39 11 [l0, l1] st h Q ↔ WP d 39 12 [l0, l1] (vI 0 :: st) h Q := wp_iconst (show (lcode 39)[11]? = some (.iconst 0) by decide +kernel)
theorem x39_12 : WP d 39 12 [l0, l1] [vI x] h Q ↔ ((Int32.ofInt x = 0 ∨ Int32.ofInt x = 1) ∧ Q (some (vI x)) h) := wp_areturn (show (lcode 39)[12]? = some (.areturn) by decide +kernel)
-- 40: WakeOrder$Reader.number
theorem x40_0 : WP d 40 0 [some (Value.ref a), l1, l2, l3] st h Q ↔ WP d 40 1 [some (Value.ref a), l1, l2, l3] (Value.ref a :: st) h Q := wp_aload (show (lcode 40)[0]? = some (.aload 0) by decide +kernel) rfl
theorem x40_1 : WP d 40 1 [l0, l1, l2, l3] (v :: st) h Q ↔ (sh st ∧ CALL d 37 [v] h (fun v h => WP d 40 2 [l0, l1, l2, l3] (v.toList ++ st) h Q)) := wp_call (n := 1) (show (lcode 40)[1]? = some (.invokestatic 37) by decide +kernel) (by decide +kernel) (by simp)
theorem x40_2 : WP d 40 2 [some (Value.ref a), l1, l2, l3] st h Q ↔ WP d 40 3 [some (Value.ref a), l1, l2, l3] (Value.ref a :: st) h Q := wp_aload (show (lcode 40)[2]? = some (.aload 0) by decide +kernel) rfl
theorem x40_3 : WP d 40 3 [l0, l1, l2, l3] (.ref a :: st) h Q ↔ gF (hRd h a) 5 3 (fun v => WP d 40 4 [l0, l1, l2, l3] (v :: st) h Q) := wp_getfield (show (lcode 40)[3]? = some (.getfield 323) by decide +kernel)
theorem x40_4 : WP d 40 4 [l0, l1, l2, l3] (vI x :: st) h Q ↔ ((wr x = 0 → WP d 40 7 [l0, l1, l2, l3] st h Q) ∧ (¬ (wr x = 0) → WP d 40 5 [l0, l1, l2, l3] st h Q)) := wp_if_eq (show (lcode 40)[4]? = some (.ifCond .eq 7) by decide +kernel)
theorem x40_5 : WP d 40 5 [l0, l1, l2, l3] st h Q ↔ WP d 40 6 [l0, l1, l2, l3] (vI 0 :: st) h Q := wp_iconst (show (lcode 40)[5]? = some (.iconst 0) by decide +kernel)
theorem x40_6 : WP d 40 6 [l0, l1, l2, l3] [vI x] h Q ↔ Q (some (vI x)) h := wp_ireturn (show (lcode 40)[6]? = some (.ireturn) by decide +kernel)
theorem x40_7 : WP d 40 7 [some (Value.ref a), l1, l2, l3] st h Q ↔ WP d 40 8 [some (Value.ref a), l1, l2, l3] (Value.ref a :: st) h Q := wp_aload (show (lcode 40)[7]? = some (.aload 0) by decide +kernel) rfl
theorem x40_8 : WP d 40 8 [some (Value.ref a), l1, l2, l3] st h Q ↔ WP d 40 9 [some (Value.ref a), l1, l2, l3] (Value.ref a :: st) h Q := wp_aload (show (lcode 40)[8]? = some (.aload 0) by decide +kernel) rfl
theorem x40_9 : WP d 40 9 [l0, l1, l2, l3] (.ref a :: st) h Q ↔ gF (hRd h a) 5 5 (fun v => WP d 40 10 [l0, l1, l2, l3] (v :: st) h Q) := wp_getfield (show (lcode 40)[9]? = some (.getfield 325) by decide +kernel)
theorem x40_10 : WP d 40 10 [l0, l1, l2, l3] (vI x :: .ref a :: st) h Q ↔ pF (hRd h a) 5 6 (vI x) (fun c => WP d 40 11 [l0, l1, l2, l3] st (hWr h a c) Q) := wp_putfield (show (lcode 40)[10]? = some (.putfield 326) by decide +kernel)
theorem x40_11 : WP d 40 11 [l0, l1, l2, l3] st h Q ↔ WP d 40 12 [l0, l1, l2, l3] (vI 0 :: st) h Q := wp_iconst (show (lcode 40)[11]? = some (.iconst 0) by decide +kernel)
theorem x40_12 : WP d 40 12 [l0, l1, l2, l3] (vI x :: st) h Q ↔ (nl l2 ∧ WP d 40 13 [l0, l1, l2, some (vI x)] st h Q) := wp_istore (show (lcode 40)[12]? = some (.istore 3) by decide +kernel) (Nat.le_of_ble_eq_true rfl)
theorem x40_13 : WP d 40 13 [l0, l1, l2, l3] st h Q ↔ WPC d 40 14 [l0, l1, l2, l3] st h Q := wp_nop (show (lcode 40)[13]? = some (.nop) by decide +kernel)
theorem x40_14 : WP d 40 14 [some (Value.ref a), l1, l2, l3] st h Q ↔ WP d 40 15 [some (Value.ref a), l1, l2, l3] (Value.ref a :: st) h Q := wp_aload (show (lcode 40)[14]? = some (.aload 0) by decide +kernel) rfl
theorem x40_15 : WP d 40 15 [l0, l1, l2, l3] (.ref a :: st) h Q ↔ gF (hRd h a) 5 5 (fun v => WP d 40 16 [l0, l1, l2, l3] (v :: st) h Q) := wp_getfield (show (lcode 40)[15]? = some (.getfield 325) by decide +kernel)
theorem x40_16 : WP d 40 16 [some (Value.ref a), l1, l2, l3] st h Q ↔ WP d 40 17 [some (Value.ref a), l1, l2, l3] (Value.ref a :: st) h Q := wp_aload (show (lcode 40)[16]? = some (.aload 0) by decide +kernel) rfl
theorem x40_17 : WP d 40 17 [l0, l1, l2, l3] (.ref a :: st) h Q ↔ gF (hRd h a) 5 2 (fun v => WP d 40 18 [l0, l1, l2, l3] (v :: st) h Q) := wp_getfield (show (lcode 40)[17]? = some (.getfield 322) by decide +kernel)
theorem x40_18 : WP d 40 18 [l0, l1, l2, l3] (vI y :: vI x :: st) h Q ↔ ((wr y ≤ wr x → WP d 40 45 [l0, l1, l2, l3] st h Q) ∧ (¬ (wr y ≤ wr x) → WP d 40 19 [l0, l1, l2, l3] st h Q)) := wp_icmp_ge (show (lcode 40)[18]? = some (.if_icmp .ge 45) by decide +kernel)
theorem x40_19 : WP d 40 19 [some (Value.ref a), l1, l2, l3] st h Q ↔ WP d 40 20 [some (Value.ref a), l1, l2, l3] (Value.ref a :: st) h Q := wp_aload (show (lcode 40)[19]? = some (.aload 0) by decide +kernel) rfl
theorem x40_20 : WP d 40 20 [l0, l1, l2, l3] (v :: st) h Q ↔ (sh st ∧ CALL d 39 [v] h (fun v h => WP d 40 21 [l0, l1, l2, l3] (v.toList ++ st) h Q)) := wp_call (n := 1) (show (lcode 40)[20]? = some (.invokestatic 39) by decide +kernel) (by decide +kernel) (by simp)
theorem x40_21 : WP d 40 21 [l0, l1, l2, l3] (vI x :: st) h Q ↔ ((wr x = 0 → WP d 40 45 [l0, l1, l2, l3] st h Q) ∧ (¬ (wr x = 0) → WP d 40 22 [l0, l1, l2, l3] st h Q)) := wp_if_eq (show (lcode 40)[21]? = some (.ifCond .eq 45) by decide +kernel)
theorem x40_22 : WP d 40 22 [some (Value.ref a), l1, l2, l3] st h Q ↔ WP d 40 23 [some (Value.ref a), l1, l2, l3] (Value.ref a :: st) h Q := wp_aload (show (lcode 40)[22]? = some (.aload 0) by decide +kernel) rfl
theorem x40_23 : WP d 40 23 [l0, l1, l2, l3] (.ref a :: st) h Q ↔ gF (hRd h a) 5 5 (fun v => WP d 40 24 [l0, l1, l2, l3] (v :: st) h Q) := wp_getfield (show (lcode 40)[23]? = some (.getfield 325) by decide +kernel)
theorem x40_24 : WP d 40 24 [some (Value.ref a), l1, l2, l3] st h Q ↔ WP d 40 25 [some (Value.ref a), l1, l2, l3] (Value.ref a :: st) h Q := wp_aload (show (lcode 40)[24]? = some (.aload 0) by decide +kernel) rfl
theorem x40_25 : WP d 40 25 [l0, l1, l2, l3] (.ref a :: st) h Q ↔ gF (hRd h a) 5 6 (fun v => WP d 40 26 [l0, l1, l2, l3] (v :: st) h Q) := wp_getfield (show (lcode 40)[25]? = some (.getfield 326) by decide +kernel)
theorem x40_26 : WP d 40 26 [l0, l1, l2, l3] (vI y :: vI x :: st) h Q ↔ WP d 40 27 [l0, l1, l2, l3] (vI (x - y) :: st) h Q := wp_isub (show (lcode 40)[26]? = some (.isub) by decide +kernel)
theorem x40_27 : WP d 40 27 [l0, l1, l2, l3] st h Q ↔ WP d 40 28 [l0, l1, l2, l3] (vI 3 :: st) h Q := wp_iconst (show (lcode 40)[27]? = some (.iconst 3) by decide +kernel)
theorem x40_28 : WP d 40 28 [l0, l1, l2, l3] (vI y :: vI x :: st) h Q ↔ ((wr y ≤ wr x → WP d 40 38 [l0, l1, l2, l3] st h Q) ∧ (¬ (wr y ≤ wr x) → WP d 40 29 [l0, l1, l2, l3] st h Q)) := wp_icmp_ge (show (lcode 40)[28]? = some (.if_icmp .ge 38) by decide +kernel)
theorem x40_29 : WP d 40 29 [l0, l1, l2, some (vI x)] st h Q ↔ WP d 40 30 [l0, l1, l2, some (vI x)] (vI x :: st) h Q := wp_iload (show (lcode 40)[29]? = some (.iload 3) by decide +kernel) rfl
theorem x40_30 : WP d 40 30 [l0, l1, l2, l3] st h Q ↔ WP d 40 31 [l0, l1, l2, l3] (vI 10 :: st) h Q := wp_iconst (show (lcode 40)[30]? = some (.iconst 10) by decide +kernel)
theorem x40_31 : WP d 40 31 [l0, l1, l2, l3] (vI y :: vI x :: st) h Q ↔ WP d 40 32 [l0, l1, l2, l3] (vI (x * y) :: st) h Q := wp_imul (show (lcode 40)[31]? = some (.imul) by decide +kernel)
theorem x40_32 : WP d 40 32 [some (Value.ref a), l1, l2, l3] st h Q ↔ WP d 40 33 [some (Value.ref a), l1, l2, l3] (Value.ref a :: st) h Q := wp_aload (show (lcode 40)[32]? = some (.aload 0) by decide +kernel) rfl
theorem x40_33 : WP d 40 33 [l0, l1, l2, l3] (v :: st) h Q ↔ (sh st ∧ CALL d 38 [v] h (fun v h => WP d 40 34 [l0, l1, l2, l3] (v.toList ++ st) h Q)) := wp_call (n := 1) (show (lcode 40)[33]? = some (.invokestatic 38) by decide +kernel) (by decide +kernel) (by simp)
theorem x40_34 : WP d 40 34 [l0, l1, l2, l3] (vI y :: vI x :: st) h Q ↔ WP d 40 35 [l0, l1, l2, l3] (vI (x + y) :: st) h Q := wp_iadd (show (lcode 40)[34]? = some (.iadd) by decide +kernel)
theorem x40_35 : WP d 40 35 [l0, l1, l2, l3] st h Q ↔ WP d 40 36 [l0, l1, l2, l3] (vI 48 :: st) h Q := wp_iconst (show (lcode 40)[35]? = some (.iconst 48) by decide +kernel)
theorem x40_36 : WP d 40 36 [l0, l1, l2, l3] (vI y :: vI x :: st) h Q ↔ WP d 40 37 [l0, l1, l2, l3] (vI (x - y) :: st) h Q := wp_isub (show (lcode 40)[36]? = some (.isub) by decide +kernel)
theorem x40_37 : WP d 40 37 [l0, l1, l2, l3] (vI x :: st) h Q ↔ (nl l2 ∧ WP d 40 38 [l0, l1, l2, some (vI x)] st h Q) := wp_istore (show (lcode 40)[37]? = some (.istore 3) by decide +kernel) (Nat.le_of_ble_eq_true rfl)
theorem x40_38 : WP d 40 38 [some (Value.ref a), l1, l2, l3] st h Q ↔ WP d 40 39 [some (Value.ref a), l1, l2, l3] (Value.ref a :: st) h Q := wp_aload (show (lcode 40)[38]? = some (.aload 0) by decide +kernel) rfl
theorem x40_39 : WP d 40 39 [l0, l1, l2, l3] (v :: st) h Q ↔ (c1 v ∧ WP d 40 40 [l0, l1, l2, l3] (v :: v :: st) h Q) := wp_dup (show (lcode 40)[39]? = some (.dup) by decide +kernel)
theorem x40_40 : WP d 40 40 [l0, l1, l2, l3] (.ref a :: st) h Q ↔ gF (hRd h a) 5 5 (fun v => WP d 40 41 [l0, l1, l2, l3] (v :: st) h Q) := wp_getfield (show (lcode 40)[40]? = some (.getfield 325) by decide +kernel)
theorem x40_41 : WP d 40 41 [l0, l1, l2, l3] st h Q ↔ WP d 40 42 [l0, l1, l2, l3] (vI 1 :: st) h Q := wp_iconst (show (lcode 40)[41]? = some (.iconst 1) by decide +kernel)
theorem x40_42 : WP d 40 42 [l0, l1, l2, l3] (vI y :: vI x :: st) h Q ↔ WP d 40 43 [l0, l1, l2, l3] (vI (x + y) :: st) h Q := wp_iadd (show (lcode 40)[42]? = some (.iadd) by decide +kernel)
theorem x40_43 : WP d 40 43 [l0, l1, l2, l3] (vI x :: .ref a :: st) h Q ↔ pF (hRd h a) 5 5 (vI x) (fun c => WP d 40 44 [l0, l1, l2, l3] st (hWr h a c) Q) := wp_putfield (show (lcode 40)[43]? = some (.putfield 325) by decide +kernel)
theorem x40_44 : WP d 40 44 [l0, l1, l2, l3] st h Q ↔ WP d 40 13 [l0, l1, l2, l3] st h Q := wp_goto (show (lcode 40)[44]? = some (.goto 13) by decide +kernel)
theorem x40_45 : WP d 40 45 [some (Value.ref a), l1, l2, l3] st h Q ↔ WP d 40 46 [some (Value.ref a), l1, l2, l3] (Value.ref a :: st) h Q := wp_aload (show (lcode 40)[45]? = some (.aload 0) by decide +kernel) rfl
theorem x40_46 : WP d 40 46 [l0, l1, l2, l3] (.ref a :: st) h Q ↔ gF (hRd h a) 5 5 (fun v => WP d 40 47 [l0, l1, l2, l3] (v :: st) h Q) := wp_getfield (show (lcode 40)[46]? = some (.getfield 325) by decide +kernel)
theorem x40_47 : WP d 40 47 [some (Value.ref a), l1, l2, l3] st h Q ↔ WP d 40 48 [some (Value.ref a), l1, l2, l3] (Value.ref a :: st) h Q := wp_aload (show (lcode 40)[47]? = some (.aload 0) by decide +kernel) rfl
theorem x40_48 : WP d 40 48 [l0, l1, l2, l3] (.ref a :: st) h Q ↔ gF (hRd h a) 5 6 (fun v => WP d 40 49 [l0, l1, l2, l3] (v :: st) h Q) := wp_getfield (show (lcode 40)[48]? = some (.getfield 326) by decide +kernel)
theorem x40_49 : WP d 40 49 [l0, l1, l2, l3] (vI y :: vI x :: st) h Q ↔ ((¬ wr x = wr y → WP d 40 56 [l0, l1, l2, l3] st h Q) ∧ (¬ (¬ wr x = wr y) → WP d 40 50 [l0, l1, l2, l3] st h Q)) := wp_icmp_ne (show (lcode 40)[49]? = some (.if_icmp .ne 56) by decide +kernel)
theorem x40_50 : WP d 40 50 [some (Value.ref a), l1, l2, l3] st h Q ↔ WP d 40 51 [some (Value.ref a), l1, l2, l3] (Value.ref a :: st) h Q := wp_aload (show (lcode 40)[50]? = some (.aload 0) by decide +kernel) rfl
theorem x40_51 : WP d 40 51 [l0, l1, l2, l3] st h Q ↔ WP d 40 52 [l0, l1, l2, l3] (vI 1 :: st) h Q := wp_iconst (show (lcode 40)[51]? = some (.iconst 1) by decide +kernel)
theorem x40_52 : WP d 40 52 [some (Value.ref a), l1, l2, l3] st h Q ↔ WP d 40 53 [some (Value.ref a), l1, l2, l3] (Value.ref a :: st) h Q := wp_aload (show (lcode 40)[52]? = some (.aload 0) by decide +kernel) rfl
theorem x40_53 : WP d 40 53 [l0, l1, l2, l3] (.ref a :: st) h Q ↔ gF (hRd h a) 5 5 (fun v => WP d 40 54 [l0, l1, l2, l3] (v :: st) h Q) := wp_getfield (show (lcode 40)[53]? = some (.getfield 325) by decide +kernel)
theorem x40_54 : WP d 40 54 [l0, l1, l2, l3] (v2 :: v1 :: v :: st) h Q ↔ (sh st ∧ CALL d 42 [v, v1, v2] h (fun v h => WP d 40 55 [l0, l1, l2, l3] (v.toList ++ st) h Q)) := wp_call (n := 3) (show (lcode 40)[54]? = some (.invokestatic 42) by decide +kernel) (by decide +kernel) (by simp)
theorem x40_55 : WP d 40 55 [l0, l1, l2, l3] st h Q ↔ WP d 40 74 [l0, l1, l2, l3] st h Q := wp_goto (show (lcode 40)[55]? = some (.goto 74) by decide +kernel)
theorem x40_56 : WP d 40 56 [some (Value.ref a), l1, l2, l3] st h Q ↔ WP d 40 57 [some (Value.ref a), l1, l2, l3] (Value.ref a :: st) h Q := wp_aload (show (lcode 40)[56]? = some (.aload 0) by decide +kernel) rfl
theorem x40_57 : WP d 40 57 [l0, l1, l2, l3] (.ref a :: st) h Q ↔ gF (hRd h a) 5 5 (fun v => WP d 40 58 [l0, l1, l2, l3] (v :: st) h Q) := wp_getfield (show (lcode 40)[57]? = some (.getfield 325) by decide +kernel)
theorem x40_58 : WP d 40 58 [some (Value.ref a), l1, l2, l3] st h Q ↔ WP d 40 59 [some (Value.ref a), l1, l2, l3] (Value.ref a :: st) h Q := wp_aload (show (lcode 40)[58]? = some (.aload 0) by decide +kernel) rfl
theorem x40_59 : WP d 40 59 [l0, l1, l2, l3] (.ref a :: st) h Q ↔ gF (hRd h a) 5 6 (fun v => WP d 40 60 [l0, l1, l2, l3] (v :: st) h Q) := wp_getfield (show (lcode 40)[59]? = some (.getfield 326) by decide +kernel)
theorem x40_60 : WP d 40 60 [l0, l1, l2, l3] (vI y :: vI x :: st) h Q ↔ WP d 40 61 [l0, l1, l2, l3] (vI (x - y) :: st) h Q := wp_isub (show (lcode 40)[60]? = some (.isub) by decide +kernel)
theorem x40_61 : WP d 40 61 [l0, l1, l2, l3] st h Q ↔ WP d 40 62 [l0, l1, l2, l3] (vI 3 :: st) h Q := wp_iconst (show (lcode 40)[61]? = some (.iconst 3) by decide +kernel)
theorem x40_62 : WP d 40 62 [l0, l1, l2, l3] (vI y :: vI x :: st) h Q ↔ ((wr y < wr x → WP d 40 69 [l0, l1, l2, l3] st h Q) ∧ (¬ (wr y < wr x) → WP d 40 63 [l0, l1, l2, l3] st h Q)) := wp_icmp_gt (show (lcode 40)[62]? = some (.if_icmp .gt 69) by decide +kernel)
theorem x40_63 : WP d 40 63 [l0, l1, l2, some (vI x)] st h Q ↔ WP d 40 64 [l0, l1, l2, some (vI x)] (vI x :: st) h Q := wp_iload (show (lcode 40)[63]? = some (.iload 3) by decide +kernel) rfl
theorem x40_64 : WP d 40 64 [l0, some (vI x), l2, l3] st h Q ↔ WP d 40 65 [l0, some (vI x), l2, l3] (vI x :: st) h Q := wp_iload (show (lcode 40)[64]? = some (.iload 1) by decide +kernel) rfl
theorem x40_65 : WP d 40 65 [l0, l1, l2, l3] (vI y :: vI x :: st) h Q ↔ ((wr x < wr y → WP d 40 69 [l0, l1, l2, l3] st h Q) ∧ (¬ (wr x < wr y) → WP d 40 66 [l0, l1, l2, l3] st h Q)) := wp_icmp_lt (show (lcode 40)[65]? = some (.if_icmp .lt 69) by decide +kernel)
theorem x40_66 : WP d 40 66 [l0, l1, l2, some (vI x)] st h Q ↔ WP d 40 67 [l0, l1, l2, some (vI x)] (vI x :: st) h Q := wp_iload (show (lcode 40)[66]? = some (.iload 3) by decide +kernel) rfl
theorem x40_67 : WP d 40 67 [l0, l1, some (vI x), l3] st h Q ↔ WP d 40 68 [l0, l1, some (vI x), l3] (vI x :: st) h Q := wp_iload (show (lcode 40)[67]? = some (.iload 2) by decide +kernel) rfl
theorem x40_68 : WP d 40 68 [l0, l1, l2, l3] (vI y :: vI x :: st) h Q ↔ ((wr x ≤ wr y → WP d 40 74 [l0, l1, l2, l3] st h Q) ∧ (¬ (wr x ≤ wr y) → WP d 40 69 [l0, l1, l2, l3] st h Q)) := wp_icmp_le (show (lcode 40)[68]? = some (.if_icmp .le 74) by decide +kernel)
theorem x40_69 : WP d 40 69 [some (Value.ref a), l1, l2, l3] st h Q ↔ WP d 40 70 [some (Value.ref a), l1, l2, l3] (Value.ref a :: st) h Q := wp_aload (show (lcode 40)[69]? = some (.aload 0) by decide +kernel) rfl
theorem x40_70 : WP d 40 70 [l0, l1, l2, l3] st h Q ↔ WP d 40 71 [l0, l1, l2, l3] (vI 2 :: st) h Q := wp_iconst (show (lcode 40)[70]? = some (.iconst 2) by decide +kernel)
theorem x40_71 : WP d 40 71 [some (Value.ref a), l1, l2, l3] st h Q ↔ WP d 40 72 [some (Value.ref a), l1, l2, l3] (Value.ref a :: st) h Q := wp_aload (show (lcode 40)[71]? = some (.aload 0) by decide +kernel) rfl
theorem x40_72 : WP d 40 72 [l0, l1, l2, l3] (.ref a :: st) h Q ↔ gF (hRd h a) 5 6 (fun v => WP d 40 73 [l0, l1, l2, l3] (v :: st) h Q) := wp_getfield (show (lcode 40)[72]? = some (.getfield 326) by decide +kernel)
theorem x40_73 : WP d 40 73 [l0, l1, l2, l3] (v2 :: v1 :: v :: st) h Q ↔ (sh st ∧ CALL d 42 [v, v1, v2] h (fun v h => WP d 40 74 [l0, l1, l2, l3] (v.toList ++ st) h Q)) := wp_call (n := 3) (show (lcode 40)[73]? = some (.invokestatic 42) by decide +kernel) (by decide +kernel) (by simp)
theorem x40_74 : WP d 40 74 [l0, l1, l2, some (vI x)] st h Q ↔ WP d 40 75 [l0, l1, l2, some (vI x)] (vI x :: st) h Q := wp_iload (show (lcode 40)[74]? = some (.iload 3) by decide +kernel) rfl
theorem x40_75 : WP d 40 75 [l0, l1, l2, l3] [vI x] h Q ↔ Q (some (vI x)) h := wp_ireturn (show (lcode 40)[75]? = some (.ireturn) by decide +kernel)
-- 41: WakeOrder$Reader.endClause
theorem x41_0 : WP d 41 0 [some (Value.ref a)] st h Q ↔ WP d 41 1 [some (Value.ref a)] (Value.ref a :: st) h Q := wp_aload (show (lcode 41)[0]? = some (.aload 0) by decide +kernel) rfl
theorem x41_1 : WP d 41 1 [l0] (v :: st) h Q ↔ (sh st ∧ CALL d 37 [v] h (fun v h => WP d 41 2 [l0] (v.toList ++ st) h Q)) := wp_call (n := 1) (show (lcode 41)[1]? = some (.invokestatic 37) by decide +kernel) (by decide +kernel) (by simp)
theorem x41_2 : WP d 41 2 [some (Value.ref a)] st h Q ↔ WP d 41 3 [some (Value.ref a)] (Value.ref a :: st) h Q := wp_aload (show (lcode 41)[2]? = some (.aload 0) by decide +kernel) rfl
theorem x41_3 : WP d 41 3 [l0] (v :: st) h Q ↔ (sh st ∧ CALL d 38 [v] h (fun v h => WP d 41 4 [l0] (v.toList ++ st) h Q)) := wp_call (n := 1) (show (lcode 41)[3]? = some (.invokestatic 38) by decide +kernel) (by decide +kernel) (by simp)
theorem x41_4 : WP d 41 4 [l0] st h Q ↔ WP d 41 5 [l0] (vI 59 :: st) h Q := wp_iconst (show (lcode 41)[4]? = some (.iconst 59) by decide +kernel)
theorem x41_5 : WP d 41 5 [l0] (vI y :: vI x :: st) h Q ↔ ((¬ wr x = wr y → WP d 41 13 [l0] st h Q) ∧ (¬ (¬ wr x = wr y) → WP d 41 6 [l0] st h Q)) := wp_icmp_ne (show (lcode 41)[5]? = some (.if_icmp .ne 13) by decide +kernel)
theorem x41_6 : WP d 41 6 [some (Value.ref a)] st h Q ↔ WP d 41 7 [some (Value.ref a)] (Value.ref a :: st) h Q := wp_aload (show (lcode 41)[6]? = some (.aload 0) by decide +kernel) rfl
theorem x41_7 : WP d 41 7 [l0] (v :: st) h Q ↔ (c1 v ∧ WP d 41 8 [l0] (v :: v :: st) h Q) := wp_dup (show (lcode 41)[7]? = some (.dup) by decide +kernel)
theorem x41_8 : WP d 41 8 [l0] (.ref a :: st) h Q ↔ gF (hRd h a) 5 5 (fun v => WP d 41 9 [l0] (v :: st) h Q) := wp_getfield (show (lcode 41)[8]? = some (.getfield 325) by decide +kernel)
theorem x41_9 : WP d 41 9 [l0] st h Q ↔ WP d 41 10 [l0] (vI 1 :: st) h Q := wp_iconst (show (lcode 41)[9]? = some (.iconst 1) by decide +kernel)
theorem x41_10 : WP d 41 10 [l0] (vI y :: vI x :: st) h Q ↔ WP d 41 11 [l0] (vI (x + y) :: st) h Q := wp_iadd (show (lcode 41)[10]? = some (.iadd) by decide +kernel)
theorem x41_11 : WP d 41 11 [l0] (vI x :: .ref a :: st) h Q ↔ pF (hRd h a) 5 5 (vI x) (fun c => WP d 41 12 [l0] st (hWr h a c) Q) := wp_putfield (show (lcode 41)[11]? = some (.putfield 325) by decide +kernel)
theorem x41_12 : WP d 41 12 [l0] st h Q ↔ WP d 41 18 [l0] st h Q := wp_goto (show (lcode 41)[12]? = some (.goto 18) by decide +kernel)
theorem x41_13 : WP d 41 13 [some (Value.ref a)] st h Q ↔ WP d 41 14 [some (Value.ref a)] (Value.ref a :: st) h Q := wp_aload (show (lcode 41)[13]? = some (.aload 0) by decide +kernel) rfl
theorem x41_14 : WP d 41 14 [l0] st h Q ↔ WP d 41 15 [l0] (vI 1 :: st) h Q := wp_iconst (show (lcode 41)[14]? = some (.iconst 1) by decide +kernel)
theorem x41_15 : WP d 41 15 [some (Value.ref a)] st h Q ↔ WP d 41 16 [some (Value.ref a)] (Value.ref a :: st) h Q := wp_aload (show (lcode 41)[15]? = some (.aload 0) by decide +kernel) rfl
theorem x41_16 : WP d 41 16 [l0] (.ref a :: st) h Q ↔ gF (hRd h a) 5 5 (fun v => WP d 41 17 [l0] (v :: st) h Q) := wp_getfield (show (lcode 41)[16]? = some (.getfield 325) by decide +kernel)
theorem x41_17 : WP d 41 17 [l0] (v2 :: v1 :: v :: st) h Q ↔ (sh st ∧ CALL d 42 [v, v1, v2] h (fun v h => WP d 41 18 [l0] (v.toList ++ st) h Q)) := wp_call (n := 3) (show (lcode 41)[17]? = some (.invokestatic 42) by decide +kernel) (by decide +kernel) (by simp)
theorem x41_18 : WP d 41 18 [l0] [] h Q ↔ Q none h := wp_return (show (lcode 41)[18]? = some (.return_) by decide +kernel)
-- 42: WakeOrder$Reader.blame
theorem x42_0 : WP d 42 0 [some (Value.ref a), l1, l2] st h Q ↔ WP d 42 1 [some (Value.ref a), l1, l2] (Value.ref a :: st) h Q := wp_aload (show (lcode 42)[0]? = some (.aload 0) by decide +kernel) rfl
theorem x42_1 : WP d 42 1 [l0, l1, l2] (.ref a :: st) h Q ↔ gF (hRd h a) 5 3 (fun v => WP d 42 2 [l0, l1, l2] (v :: st) h Q) := wp_getfield (show (lcode 42)[1]? = some (.getfield 323) by decide +kernel)
theorem x42_2 : WP d 42 2 [l0, l1, l2] (vI x :: st) h Q ↔ ((¬ wr x = 0 → WP d 42 9 [l0, l1, l2] st h Q) ∧ (¬ (¬ wr x = 0) → WP d 42 3 [l0, l1, l2] st h Q)) := wp_if_ne (show (lcode 42)[2]? = some (.ifCond .ne 9) by decide +kernel)
theorem x42_3 : WP d 42 3 [some (Value.ref a), l1, l2] st h Q ↔ WP d 42 4 [some (Value.ref a), l1, l2] (Value.ref a :: st) h Q := wp_aload (show (lcode 42)[3]? = some (.aload 0) by decide +kernel) rfl
theorem x42_4 : WP d 42 4 [l0, some (vI x), l2] st h Q ↔ WP d 42 5 [l0, some (vI x), l2] (vI x :: st) h Q := wp_iload (show (lcode 42)[4]? = some (.iload 1) by decide +kernel) rfl
theorem x42_5 : WP d 42 5 [l0, l1, l2] (vI x :: .ref a :: st) h Q ↔ pF (hRd h a) 5 3 (vI x) (fun c => WP d 42 6 [l0, l1, l2] st (hWr h a c) Q) := wp_putfield (show (lcode 42)[5]? = some (.putfield 323) by decide +kernel)
theorem x42_6 : WP d 42 6 [some (Value.ref a), l1, l2] st h Q ↔ WP d 42 7 [some (Value.ref a), l1, l2] (Value.ref a :: st) h Q := wp_aload (show (lcode 42)[6]? = some (.aload 0) by decide +kernel) rfl
theorem x42_7 : WP d 42 7 [l0, l1, some (vI x)] st h Q ↔ WP d 42 8 [l0, l1, some (vI x)] (vI x :: st) h Q := wp_iload (show (lcode 42)[7]? = some (.iload 2) by decide +kernel) rfl
theorem x42_8 : WP d 42 8 [l0, l1, l2] (vI x :: .ref a :: st) h Q ↔ pF (hRd h a) 5 4 (vI x) (fun c => WP d 42 9 [l0, l1, l2] st (hWr h a c) Q) := wp_putfield (show (lcode 42)[8]? = some (.putfield 324) by decide +kernel)
theorem x42_9 : WP d 42 9 [l0, l1, l2] [] h Q ↔ Q none h := wp_return (show (lcode 42)[9]? = some (.return_) by decide +kernel)
-- 43: WakeOrder$Row.<init>
theorem x43_0 : WP d 43 0 [some (Value.ref a)] st h Q ↔ WP d 43 1 [some (Value.ref a)] (Value.ref a :: st) h Q := wp_aload (show (lcode 43)[0]? = some (.aload 0) by decide +kernel) rfl
theorem x43_1 : WP d 43 1 [l0] (.ref a :: st) h Q ↔ ((sd d ∧ sh st) ∧ WP d 43 2 [l0] st h Q) := wp_pop (show (lcode 43)[1]? = some (.pop) by decide +kernel)
theorem x43_2 : WP d 43 2 [some (Value.ref a)] st h Q ↔ WP d 43 3 [some (Value.ref a)] (Value.ref a :: st) h Q := wp_aload (show (lcode 43)[2]? = some (.aload 0) by decide +kernel) rfl
theorem x43_3 : WP d 43 3 [l0] st h Q ↔ WP d 43 4 [l0] (vI 6 :: st) h Q := wp_iconst (show (lcode 43)[3]? = some (.iconst 6) by decide +kernel)
theorem x43_5 : WP d 43 5 [l0] (Value.ref b :: .ref a :: st) h Q ↔ pF (hRd h a) 6 0 (Value.ref b) (fun c => WP d 43 6 [l0] st (hWr h a c) Q) := wp_putstatic (show (lcode 43)[5]? = some (.putstatic 384) by decide +kernel)
theorem x43_6 : WP d 43 6 [l0] [] h Q ↔ Q none h := wp_return (show (lcode 43)[6]? = some (.return_) by decide +kernel)
-- 44: WakeOrder$Row.at
theorem x44_0 : WP d 44 0 [l0, some (vI x)] st h Q ↔ WP d 44 1 [l0, some (vI x)] (vI x :: st) h Q := wp_iload (show (lcode 44)[0]? = some (.iload 1) by decide +kernel) rfl
theorem x44_1 : WP d 44 1 [some (Value.ref a), l1] st h Q ↔ WP d 44 2 [some (Value.ref a), l1] (Value.ref a :: st) h Q := wp_aload (show (lcode 44)[1]? = some (.aload 0) by decide +kernel) rfl
theorem x44_2 : WP d 44 2 [l0, l1] (.ref a :: st) h Q ↔ gF (hRd h a) 6 1 (fun v => WP d 44 3 [l0, l1] (v :: st) h Q) := wp_getfield (show (lcode 44)[2]? = some (.getfield 385) by decide +kernel)
theorem x44_3 : WP d 44 3 [l0, l1] (vI y :: vI x :: st) h Q ↔ ((wr y ≤ wr x → WP d 44 9 [l0, l1] st h Q) ∧ (¬ (wr y ≤ wr x) → WP d 44 4 [l0, l1] st h Q)) := wp_icmp_ge (show (lcode 44)[3]? = some (.if_icmp .ge 9) by decide +kernel)
theorem x44_4 : WP d 44 4 [some (Value.ref a), l1] st h Q ↔ WP d 44 5 [some (Value.ref a), l1] (Value.ref a :: st) h Q := wp_aload (show (lcode 44)[4]? = some (.aload 0) by decide +kernel) rfl
theorem x44_5 : WP d 44 5 [l0, l1] (.ref a :: st) h Q ↔ gF (hRd h a) 6 0 (fun v => WP d 44 6 [l0, l1] (v :: st) h Q) := wp_getfield (show (lcode 44)[5]? = some (.getfield 384) by decide +kernel)
theorem x44_6 : WP d 44 6 [l0, some (vI x)] st h Q ↔ WP d 44 7 [l0, some (vI x)] (vI x :: st) h Q := wp_iload (show (lcode 44)[6]? = some (.iload 1) by decide +kernel) rfl
theorem x44_7 : WP d 44 7 [l0, l1] (v1 :: v :: st) h Q ↔ (sh st ∧ CALL d 107 [v, v1] h (fun v h => WP d 44 8 [l0, l1] (v.toList ++ st) h Q)) := wp_call (n := 2) (show (lcode 44)[7]? = some (.invokestatic 107) by decide +kernel) (by decide +kernel) (by simp)
theorem x44_8 : WP d 44 8 [l0, l1] st h Q ↔ WP d 44 10 [l0, l1] st h Q := wp_goto (show (lcode 44)[8]? = some (.goto 10) by decide +kernel)
theorem x44_9 : WP d 44 9 [l0, l1] st h Q ↔ WP d 44 10 [l0, l1] (vI (-1) :: st) h Q := wp_iconst (show (lcode 44)[9]? = some (.iconst (-1)) by decide +kernel)
theorem x44_10 : WP d 44 10 [l0, l1] [vI x] h Q ↔ Q (some (vI x)) h := wp_ireturn (show (lcode 44)[10]? = some (.ireturn) by decide +kernel)
-- 45: WakeOrder$Row.placeOf
theorem x45_0 : WP d 45 0 [l0, l1, l2] st h Q ↔ WP d 45 1 [l0, l1, l2] (vI 0 :: st) h Q := wp_iconst (show (lcode 45)[0]? = some (.iconst 0) by decide +kernel)
theorem x45_1 : WP d 45 1 [l0, l1, l2] (vI x :: st) h Q ↔ (nl l1 ∧ WP d 45 2 [l0, l1, some (vI x)] st h Q) := wp_istore (show (lcode 45)[1]? = some (.istore 2) by decide +kernel) (Nat.le_of_ble_eq_true rfl)
theorem x45_2 : WP d 45 2 [l0, l1, l2] st h Q ↔ WPC d 45 3 [l0, l1, l2] st h Q := wp_nop (show (lcode 45)[2]? = some (.nop) by decide +kernel)
theorem x45_3 : WP d 45 3 [l0, l1, some (vI x)] st h Q ↔ WP d 45 4 [l0, l1, some (vI x)] (vI x :: st) h Q := wp_iload (show (lcode 45)[3]? = some (.iload 2) by decide +kernel) rfl
theorem x45_4 : WP d 45 4 [some (Value.ref a), l1, l2] st h Q ↔ WP d 45 5 [some (Value.ref a), l1, l2] (Value.ref a :: st) h Q := wp_aload (show (lcode 45)[4]? = some (.aload 0) by decide +kernel) rfl
theorem x45_5 : WP d 45 5 [l0, l1, l2] (.ref a :: st) h Q ↔ gF (hRd h a) 6 1 (fun v => WP d 45 6 [l0, l1, l2] (v :: st) h Q) := wp_getfield (show (lcode 45)[5]? = some (.getfield 385) by decide +kernel)
theorem x45_6 : WP d 45 6 [l0, l1, l2] (vI y :: vI x :: st) h Q ↔ ((wr y ≤ wr x → WP d 45 22 [l0, l1, l2] st h Q) ∧ (¬ (wr y ≤ wr x) → WP d 45 7 [l0, l1, l2] st h Q)) := wp_icmp_ge (show (lcode 45)[6]? = some (.if_icmp .ge 22) by decide +kernel)
theorem x45_7 : WP d 45 7 [l0, l1, some (vI x)] st h Q ↔ WP d 45 8 [l0, l1, some (vI x)] (vI x :: st) h Q := wp_iload (show (lcode 45)[7]? = some (.iload 2) by decide +kernel) rfl
theorem x45_8 : WP d 45 8 [some (Value.ref a), l1, l2] st h Q ↔ WP d 45 9 [some (Value.ref a), l1, l2] (Value.ref a :: st) h Q := wp_aload (show (lcode 45)[8]? = some (.aload 0) by decide +kernel) rfl
theorem x45_9 : WP d 45 9 [l0, l1, l2] (.ref a :: st) h Q ↔ gF (hRd h a) 6 0 (fun v => WP d 45 10 [l0, l1, l2] (v :: st) h Q) := wp_getfield (show (lcode 45)[9]? = some (.getfield 384) by decide +kernel)
theorem x45_10 : WP d 45 10 [l0, l1, l2] (.ref a :: st) h Q ↔ aL (hRd h a) (fun v => WP d 45 11 [l0, l1, l2] (v :: st) h Q) := wp_arraylength (show (lcode 45)[10]? = some (.arraylength) by decide +kernel)
theorem x45_11 : WP d 45 11 [l0, l1, l2] (vI y :: vI x :: st) h Q ↔ ((wr y ≤ wr x → WP d 45 22 [l0, l1, l2] st h Q) ∧ (¬ (wr y ≤ wr x) → WP d 45 12 [l0, l1, l2] st h Q)) := wp_icmp_ge (show (lcode 45)[11]? = some (.if_icmp .ge 22) by decide +kernel)
theorem x45_12 : WP d 45 12 [some (Value.ref a), l1, l2] st h Q ↔ WP d 45 13 [some (Value.ref a), l1, l2] (Value.ref a :: st) h Q := wp_aload (show (lcode 45)[12]? = some (.aload 0) by decide +kernel) rfl
theorem x45_13 : WP d 45 13 [l0, l1, l2] (.ref a :: st) h Q ↔ gF (hRd h a) 6 0 (fun v => WP d 45 14 [l0, l1, l2] (v :: st) h Q) := wp_getfield (show (lcode 45)[13]? = some (.getfield 384) by decide +kernel)
theorem x45_14 : WP d 45 14 [l0, l1, some (vI x)] st h Q ↔ WP d 45 15 [l0, l1, some (vI x)] (vI x :: st) h Q := wp_iload (show (lcode 45)[14]? = some (.iload 2) by decide +kernel) rfl
theorem x45_15 : WP d 45 15 [l0, l1, l2] (vI x :: .ref a :: st) h Q ↔ ldA (hRd h a) x (fun v => WP d 45 16 [l0, l1, l2] (v :: st) h Q) := wp_iaload (show (lcode 45)[15]? = some (.iaload) by decide +kernel)
theorem x45_16 : WP d 45 16 [l0, some (vI x), l2] st h Q ↔ WP d 45 17 [l0, some (vI x), l2] (vI x :: st) h Q := wp_iload (show (lcode 45)[16]? = some (.iload 1) by decide +kernel) rfl
theorem x45_17 : WP d 45 17 [l0, l1, l2] (vI y :: vI x :: st) h Q ↔ ((¬ wr x = wr y → WP d 45 20 [l0, l1, l2] st h Q) ∧ (¬ (¬ wr x = wr y) → WP d 45 18 [l0, l1, l2] st h Q)) := wp_icmp_ne (show (lcode 45)[17]? = some (.if_icmp .ne 20) by decide +kernel)
theorem x45_18 : WP d 45 18 [l0, l1, some (vI x)] st h Q ↔ WP d 45 19 [l0, l1, some (vI x)] (vI x :: st) h Q := wp_iload (show (lcode 45)[18]? = some (.iload 2) by decide +kernel) rfl
theorem x45_19 : WP d 45 19 [l0, l1, l2] [vI x] h Q ↔ Q (some (vI x)) h := wp_ireturn (show (lcode 45)[19]? = some (.ireturn) by decide +kernel)
theorem x45_20 : WP d 45 20 [l0, l1, some (vI x)] st h Q ↔ (nl l1 ∧ WP d 45 21 [l0, l1, some (vI (x + 1))] st h Q) := wp_iinc (show (lcode 45)[20]? = some (.iinc 2 1) by decide +kernel) rfl (Nat.le_of_ble_eq_true rfl)
theorem x45_21 : WP d 45 21 [l0, l1, l2] st h Q ↔ WP d 45 2 [l0, l1, l2] st h Q := wp_goto (show (lcode 45)[21]? = some (.goto 2) by decide +kernel)
theorem x45_22 : WP d 45 22 [l0, l1, l2] st h Q ↔ WP d 45 23 [l0, l1, l2] (vI (-1) :: st) h Q := wp_iconst (show (lcode 45)[22]? = some (.iconst (-1)) by decide +kernel)
theorem x45_23 : WP d 45 23 [l0, l1, l2] [vI x] h Q ↔ Q (some (vI x)) h := wp_ireturn (show (lcode 45)[23]? = some (.ireturn) by decide +kernel)
-- 46: WakeOrder$Row.members
theorem x46_0 : WP d 46 0 [l0, l1, l2] st h Q ↔ WP d 46 1 [l0, l1, l2] (vI 0 :: st) h Q := wp_iconst (show (lcode 46)[0]? = some (.iconst 0) by decide +kernel)
theorem x46_1 : WP d 46 1 [l0, l1, l2] (vI x :: st) h Q ↔ (nl l0 ∧ WP d 46 2 [l0, some (vI x), l2] st h Q) := wp_istore (show (lcode 46)[1]? = some (.istore 1) by decide +kernel) (Nat.le_of_ble_eq_true rfl)
theorem x46_2 : WP d 46 2 [l0, l1, l2] st h Q ↔ WP d 46 3 [l0, l1, l2] (vI 0 :: st) h Q := wp_iconst (show (lcode 46)[2]? = some (.iconst 0) by decide +kernel)
theorem x46_3 : WP d 46 3 [l0, l1, l2] (vI x :: st) h Q ↔ (nl l1 ∧ WP d 46 4 [l0, l1, some (vI x)] st h Q) := wp_istore (show (lcode 46)[3]? = some (.istore 2) by decide +kernel) (Nat.le_of_ble_eq_true rfl)
theorem x46_4 : WP d 46 4 [l0, l1, l2] st h Q ↔ WPC d 46 5 [l0, l1, l2] st h Q := wp_nop (show (lcode 46)[4]? = some (.nop) by decide +kernel)
theorem x46_5 : WP d 46 5 [l0, l1, some (vI x)] st h Q ↔ WP d 46 6 [l0, l1, some (vI x)] (vI x :: st) h Q := wp_iload (show (lcode 46)[5]? = some (.iload 2) by decide +kernel) rfl
theorem x46_6 : WP d 46 6 [some (Value.ref a), l1, l2] st h Q ↔ WP d 46 7 [some (Value.ref a), l1, l2] (Value.ref a :: st) h Q := wp_aload (show (lcode 46)[6]? = some (.aload 0) by decide +kernel) rfl
theorem x46_7 : WP d 46 7 [l0, l1, l2] (.ref a :: st) h Q ↔ gF (hRd h a) 6 1 (fun v => WP d 46 8 [l0, l1, l2] (v :: st) h Q) := wp_getfield (show (lcode 46)[7]? = some (.getfield 385) by decide +kernel)
theorem x46_8 : WP d 46 8 [l0, l1, l2] (vI y :: vI x :: st) h Q ↔ ((wr y ≤ wr x → WP d 46 25 [l0, l1, l2] st h Q) ∧ (¬ (wr y ≤ wr x) → WP d 46 9 [l0, l1, l2] st h Q)) := wp_icmp_ge (show (lcode 46)[8]? = some (.if_icmp .ge 25) by decide +kernel)
theorem x46_9 : WP d 46 9 [l0, l1, some (vI x)] st h Q ↔ WP d 46 10 [l0, l1, some (vI x)] (vI x :: st) h Q := wp_iload (show (lcode 46)[9]? = some (.iload 2) by decide +kernel) rfl
theorem x46_10 : WP d 46 10 [some (Value.ref a), l1, l2] st h Q ↔ WP d 46 11 [some (Value.ref a), l1, l2] (Value.ref a :: st) h Q := wp_aload (show (lcode 46)[10]? = some (.aload 0) by decide +kernel) rfl
theorem x46_11 : WP d 46 11 [l0, l1, l2] (.ref a :: st) h Q ↔ gF (hRd h a) 6 0 (fun v => WP d 46 12 [l0, l1, l2] (v :: st) h Q) := wp_getfield (show (lcode 46)[11]? = some (.getfield 384) by decide +kernel)
theorem x46_12 : WP d 46 12 [l0, l1, l2] (.ref a :: st) h Q ↔ aL (hRd h a) (fun v => WP d 46 13 [l0, l1, l2] (v :: st) h Q) := wp_arraylength (show (lcode 46)[12]? = some (.arraylength) by decide +kernel)
theorem x46_13 : WP d 46 13 [l0, l1, l2] (vI y :: vI x :: st) h Q ↔ ((wr y ≤ wr x → WP d 46 25 [l0, l1, l2] st h Q) ∧ (¬ (wr y ≤ wr x) → WP d 46 14 [l0, l1, l2] st h Q)) := wp_icmp_ge (show (lcode 46)[13]? = some (.if_icmp .ge 25) by decide +kernel)
theorem x46_14 : WP d 46 14 [l0, some (vI x), l2] st h Q ↔ WP d 46 15 [l0, some (vI x), l2] (vI x :: st) h Q := wp_iload (show (lcode 46)[14]? = some (.iload 1) by decide +kernel) rfl
theorem x46_15 : WP d 46 15 [l0, l1, l2] st h Q ↔ WP d 46 16 [l0, l1, l2] (vI 1 :: st) h Q := wp_iconst (show (lcode 46)[15]? = some (.iconst 1) by decide +kernel)
theorem x46_16 : WP d 46 16 [some (Value.ref a), l1, l2] st h Q ↔ WP d 46 17 [some (Value.ref a), l1, l2] (Value.ref a :: st) h Q := wp_aload (show (lcode 46)[16]? = some (.aload 0) by decide +kernel) rfl
theorem x46_17 : WP d 46 17 [l0, l1, l2] (.ref a :: st) h Q ↔ gF (hRd h a) 6 0 (fun v => WP d 46 18 [l0, l1, l2] (v :: st) h Q) := wp_getfield (show (lcode 46)[17]? = some (.getfield 384) by decide +kernel)
theorem x46_18 : WP d 46 18 [l0, l1, some (vI x)] st h Q ↔ WP d 46 19 [l0, l1, some (vI x)] (vI x :: st) h Q := wp_iload (show (lcode 46)[18]? = some (.iload 2) by decide +kernel) rfl
theorem x46_19 : WP d 46 19 [l0, l1, l2] (vI x :: .ref a :: st) h Q ↔ ldA (hRd h a) x (fun v => WP d 46 20 [l0, l1, l2] (v :: st) h Q) := wp_iaload (show (lcode 46)[19]? = some (.iaload) by decide +kernel)
theorem x46_20 : WP d 46 20 [l0, l1, l2] (vI y :: vI x :: st) h Q ↔ WP d 46 21 [l0, l1, l2] (vI (zshl x y) :: st) h Q := wp_ishl (show (lcode 46)[20]? = some (.ishl) by decide +kernel)
theorem x46_21 : WP d 46 21 [l0, l1, l2] (vI y :: vI x :: st) h Q ↔ WP d 46 22 [l0, l1, l2] (vI (zor x y) :: st) h Q := wp_ior (show (lcode 46)[21]? = some (.ior) by decide +kernel)
theorem x46_22 : WP d 46 22 [l0, l1, l2] (vI x :: st) h Q ↔ (nl l0 ∧ WP d 46 23 [l0, some (vI x), l2] st h Q) := wp_istore (show (lcode 46)[22]? = some (.istore 1) by decide +kernel) (Nat.le_of_ble_eq_true rfl)
theorem x46_23 : WP d 46 23 [l0, l1, some (vI x)] st h Q ↔ (nl l1 ∧ WP d 46 24 [l0, l1, some (vI (x + 1))] st h Q) := wp_iinc (show (lcode 46)[23]? = some (.iinc 2 1) by decide +kernel) rfl (Nat.le_of_ble_eq_true rfl)
theorem x46_24 : WP d 46 24 [l0, l1, l2] st h Q ↔ WP d 46 4 [l0, l1, l2] st h Q := wp_goto (show (lcode 46)[24]? = some (.goto 4) by decide +kernel)
theorem x46_25 : WP d 46 25 [l0, some (vI x), l2] st h Q ↔ WP d 46 26 [l0, some (vI x), l2] (vI x :: st) h Q := wp_iload (show (lcode 46)[25]? = some (.iload 1) by decide +kernel) rfl
theorem x46_26 : WP d 46 26 [l0, l1, l2] [vI x] h Q ↔ Q (some (vI x)) h := wp_ireturn (show (lcode 46)[26]? = some (.ireturn) by decide +kernel)
-- 47: WakeOrder$Row.become
theorem x47_0 : WP d 47 0 [l0, some (Value.ref a)] st h Q ↔ WP d 47 1 [l0, some (Value.ref a)] (Value.ref a :: st) h Q := wp_aload (show (lcode 47)[0]? = some (.aload 1) by decide +kernel) rfl
theorem x47_1 : WP d 47 1 [l0, l1] (.ref a :: st) h Q ↔ gF (hRd h a) 6 0 (fun v => WP d 47 2 [l0, l1] (v :: st) h Q) := wp_getfield (show (lcode 47)[1]? = some (.getfield 384) by decide +kernel)
theorem x47_2 : WP d 47 2 [l0, l1] st h Q ↔ WP d 47 3 [l0, l1] (vI 0 :: st) h Q := wp_iconst (show (lcode 47)[2]? = some (.iconst 0) by decide +kernel)
theorem x47_3 : WP d 47 3 [some (Value.ref a), l1] st h Q ↔ WP d 47 4 [some (Value.ref a), l1] (Value.ref a :: st) h Q := wp_aload (show (lcode 47)[3]? = some (.aload 0) by decide +kernel) rfl
theorem x47_4 : WP d 47 4 [l0, l1] (.ref a :: st) h Q ↔ gF (hRd h a) 6 0 (fun v => WP d 47 5 [l0, l1] (v :: st) h Q) := wp_getfield (show (lcode 47)[4]? = some (.getfield 384) by decide +kernel)
theorem x47_5 : WP d 47 5 [l0, l1] st h Q ↔ WP d 47 6 [l0, l1] (vI 0 :: st) h Q := wp_iconst (show (lcode 47)[5]? = some (.iconst 0) by decide +kernel)
theorem x47_6 : WP d 47 6 [l0, l1] st h Q ↔ WP d 47 7 [l0, l1] (vI 6 :: st) h Q := wp_iconst (show (lcode 47)[6]? = some (.iconst 6) by decide +kernel)
theorem x47_7 : WP d 47 7 [l0, l1] (vI w :: vI y :: .ref b :: vI x :: .ref a :: st) h Q ↔ ((sd d ∧ sh st) ∧ aC (hRd h a) (hRd h b) a b x y w (fun c => WP d 47 8 [l0, l1] st (hWr h b c) Q)) := wp_arraycopy (show (lcode 47)[7]? = some (.invokedynamic 0) by decide +kernel)
theorem x47_8 : WP d 47 8 [some (Value.ref a), l1] st h Q ↔ WP d 47 9 [some (Value.ref a), l1] (Value.ref a :: st) h Q := wp_aload (show (lcode 47)[8]? = some (.aload 0) by decide +kernel) rfl
theorem x47_9 : WP d 47 9 [l0, some (Value.ref a)] st h Q ↔ WP d 47 10 [l0, some (Value.ref a)] (Value.ref a :: st) h Q := wp_aload (show (lcode 47)[9]? = some (.aload 1) by decide +kernel) rfl
theorem x47_10 : WP d 47 10 [l0, l1] (.ref a :: st) h Q ↔ gF (hRd h a) 6 1 (fun v => WP d 47 11 [l0, l1] (v :: st) h Q) := wp_getfield (show (lcode 47)[10]? = some (.getfield 385) by decide +kernel)
theorem x47_11 : WP d 47 11 [l0, l1] (vI x :: .ref a :: st) h Q ↔ pF (hRd h a) 6 1 (vI x) (fun c => WP d 47 12 [l0, l1] st (hWr h a c) Q) := wp_putfield (show (lcode 47)[11]? = some (.putfield 385) by decide +kernel)
theorem x47_12 : WP d 47 12 [l0, l1] [] h Q ↔ Q none h := wp_return (show (lcode 47)[12]? = some (.return_) by decide +kernel)
-- 48: WakeOrder$Row.fillByNumber
theorem x48_0 : WP d 48 0 [some (Value.ref a), l1, l2] st h Q ↔ WP d 48 1 [some (Value.ref a), l1, l2] (Value.ref a :: st) h Q := wp_aload (show (lcode 48)[0]? = some (.aload 0) by decide +kernel) rfl
theorem x48_1 : WP d 48 1 [l0, l1, l2] st h Q ↔ WP d 48 2 [l0, l1, l2] (vI 0 :: st) h Q := wp_iconst (show (lcode 48)[1]? = some (.iconst 0) by decide +kernel)
theorem x48_2 : WP d 48 2 [l0, l1, l2] (vI x :: .ref a :: st) h Q ↔ pF (hRd h a) 6 1 (vI x) (fun c => WP d 48 3 [l0, l1, l2] st (hWr h a c) Q) := wp_putfield (show (lcode 48)[2]? = some (.putfield 385) by decide +kernel)
theorem x48_3 : WP d 48 3 [l0, l1, l2] st h Q ↔ WP d 48 4 [l0, l1, l2] (vI 0 :: st) h Q := wp_iconst (show (lcode 48)[3]? = some (.iconst 0) by decide +kernel)
theorem x48_4 : WP d 48 4 [l0, l1, l2] (vI x :: st) h Q ↔ (nl l1 ∧ WP d 48 5 [l0, l1, some (vI x)] st h Q) := wp_istore (show (lcode 48)[4]? = some (.istore 2) by decide +kernel) (Nat.le_of_ble_eq_true rfl)
theorem x48_5 : WP d 48 5 [l0, l1, l2] st h Q ↔ WPC d 48 6 [l0, l1, l2] st h Q := wp_nop (show (lcode 48)[5]? = some (.nop) by decide +kernel)
theorem x48_6 : WP d 48 6 [l0, l1, some (vI x)] st h Q ↔ WP d 48 7 [l0, l1, some (vI x)] (vI x :: st) h Q := wp_iload (show (lcode 48)[6]? = some (.iload 2) by decide +kernel) rfl
theorem x48_7 : WP d 48 7 [l0, l1, l2] st h Q ↔ WP d 48 8 [l0, l1, l2] (vI 6 :: st) h Q := wp_iconst (show (lcode 48)[7]? = some (.iconst 6) by decide +kernel)
theorem x48_8 : WP d 48 8 [l0, l1, l2] (vI y :: vI x :: st) h Q ↔ ((wr y ≤ wr x → WP d 48 23 [l0, l1, l2] st h Q) ∧ (¬ (wr y ≤ wr x) → WP d 48 9 [l0, l1, l2] st h Q)) := wp_icmp_ge (show (lcode 48)[8]? = some (.if_icmp .ge 23) by decide +kernel)
theorem x48_9 : WP d 48 9 [l0, some (vI x), l2] st h Q ↔ WP d 48 10 [l0, some (vI x), l2] (vI x :: st) h Q := wp_iload (show (lcode 48)[9]? = some (.iload 1) by decide +kernel) rfl
theorem x48_10 : WP d 48 10 [l0, l1, some (vI x)] st h Q ↔ WP d 48 11 [l0, l1, some (vI x)] (vI x :: st) h Q := wp_iload (show (lcode 48)[10]? = some (.iload 2) by decide +kernel) rfl
theorem x48_11 : WP d 48 11 [l0, l1, l2] (vI y :: vI x :: st) h Q ↔ WP d 48 12 [l0, l1, l2] (vI (zshr x y) :: st) h Q := wp_ishr (show (lcode 48)[11]? = some (.ishr) by decide +kernel)
theorem x48_12 : WP d 48 12 [l0, l1, l2] st h Q ↔ WP d 48 13 [l0, l1, l2] (vI 1 :: st) h Q := wp_iconst (show (lcode 48)[12]? = some (.iconst 1) by decide +kernel)
theorem x48_13 : WP d 48 13 [l0, l1, l2] (vI y :: vI x :: st) h Q ↔ WP d 48 14 [l0, l1, l2] (vI (zand x y) :: st) h Q := wp_iand (show (lcode 48)[13]? = some (.iand) by decide +kernel)
theorem x48_14 : WP d 48 14 [l0, l1, l2] st h Q ↔ WP d 48 15 [l0, l1, l2] (vI 1 :: st) h Q := wp_iconst (show (lcode 48)[14]? = some (.iconst 1) by decide +kernel)
theorem x48_15 : WP d 48 15 [l0, l1, l2] (vI y :: vI x :: st) h Q ↔ ((¬ wr x = wr y → WP d 48 21 [l0, l1, l2] st h Q) ∧ (¬ (¬ wr x = wr y) → WP d 48 16 [l0, l1, l2] st h Q)) := wp_icmp_ne (show (lcode 48)[15]? = some (.if_icmp .ne 21) by decide +kernel)
theorem x48_16 : WP d 48 16 [some (Value.ref a), l1, l2] st h Q ↔ WP d 48 17 [some (Value.ref a), l1, l2] (Value.ref a :: st) h Q := wp_aload (show (lcode 48)[16]? = some (.aload 0) by decide +kernel) rfl
theorem x48_17 : WP d 48 17 [l0, l1, some (vI x)] st h Q ↔ WP d 48 18 [l0, l1, some (vI x)] (vI x :: st) h Q := wp_iload (show (lcode 48)[17]? = some (.iload 2) by decide +kernel) rfl
theorem x48_18 : WP d 48 18 [some (Value.ref a), l1, l2] st h Q ↔ WP d 48 19 [some (Value.ref a), l1, l2] (Value.ref a :: st) h Q := wp_aload (show (lcode 48)[18]? = some (.aload 0) by decide +kernel) rfl
theorem x48_19 : WP d 48 19 [l0, l1, l2] (.ref a :: st) h Q ↔ gF (hRd h a) 6 1 (fun v => WP d 48 20 [l0, l1, l2] (v :: st) h Q) := wp_getfield (show (lcode 48)[19]? = some (.getfield 385) by decide +kernel)
theorem x48_20 : WP d 48 20 [l0, l1, l2] (v2 :: v1 :: v :: st) h Q ↔ (sh st ∧ CALL d 50 [v, v1, v2] h (fun v h => WP d 48 21 [l0, l1, l2] (v.toList ++ st) h Q)) := wp_call (n := 3) (show (lcode 48)[20]? = some (.invokestatic 50) by decide +kernel) (by decide +kernel) (by simp)
theorem x48_21 : WP d 48 21 [l0, l1, some (vI x)] st h Q ↔ (nl l1 ∧ WP d 48 22 [l0, l1, some (vI (x + 1))] st h Q) := wp_iinc (show (lcode 48)[21]? = some (.iinc 2 1) by decide +kernel) rfl (Nat.le_of_ble_eq_true rfl)
theorem x48_22 : WP d 48 22 [l0, l1, l2] st h Q ↔ WP d 48 5 [l0, l1, l2] st h Q := wp_goto (show (lcode 48)[22]? = some (.goto 5) by decide +kernel)
theorem x48_23 : WP d 48 23 [l0, l1, l2] [] h Q ↔ Q none h := wp_return (show (lcode 48)[23]? = some (.return_) by decide +kernel)
-- 49: WakeOrder$Row.takeOut
theorem x49_0 : WP d 49 0 [some (Value.ref a), l1, l2, l3] st h Q ↔ WP d 49 1 [some (Value.ref a), l1, l2, l3] (Value.ref a :: st) h Q := wp_aload (show (lcode 49)[0]? = some (.aload 0) by decide +kernel) rfl
theorem x49_1 : WP d 49 1 [l0, some (vI x), l2, l3] st h Q ↔ WP d 49 2 [l0, some (vI x), l2, l3] (vI x :: st) h Q := wp_iload (show (lcode 49)[1]? = some (.iload 1) by decide +kernel) rfl
theorem x49_2 : WP d 49 2 [l0, l1, l2, l3] (v1 :: v :: st) h Q ↔ (sh st ∧ CALL d 45 [v, v1] h (fun v h => WP d 49 3 [l0, l1, l2, l3] (v.toList ++ st) h Q)) := wp_call (n := 2) (show (lcode 49)[2]? = some (.invokestatic 45) by decide +kernel) (by decide +kernel) (by simp)
theorem x49_3 : WP d 49 3 [l0, l1, l2, l3] (vI x :: st) h Q ↔ (nl l1 ∧ WP d 49 4 [l0, l1, some (vI x), l3] st h Q) := wp_istore (show (lcode 49)[3]? = some (.istore 2) by decide +kernel) (Nat.le_of_ble_eq_true rfl)
theorem x49_4 : WP d 49 4 [l0, l1, some (vI x), l3] st h Q ↔ WP d 49 5 [l0, l1, some (vI x), l3] (vI x :: st) h Q := wp_iload (show (lcode 49)[4]? = some (.iload 2) by decide +kernel) rfl
theorem x49_5 : WP d 49 5 [l0, l1, l2, l3] st h Q ↔ WP d 49 6 [l0, l1, l2, l3] (vI (-1) :: st) h Q := wp_iconst (show (lcode 49)[5]? = some (.iconst (-1)) by decide +kernel)
theorem x49_6 : WP d 49 6 [l0, l1, l2, l3] (vI y :: vI x :: st) h Q ↔ ((¬ wr x = wr y → WP d 49 8 [l0, l1, l2, l3] st h Q) ∧ (¬ (¬ wr x = wr y) → WP d 49 7 [l0, l1, l2, l3] st h Q)) := wp_icmp_ne (show (lcode 49)[6]? = some (.if_icmp .ne 8) by decide +kernel)
theorem x49_7 : WP d 49 7 [l0, l1, l2, l3] [] h Q ↔ Q none h := wp_return (show (lcode 49)[7]? = some (.return_) by decide +kernel)
theorem x49_8 : WP d 49 8 [l0, l1, some (vI x), l3] st h Q ↔ WP d 49 9 [l0, l1, some (vI x), l3] (vI x :: st) h Q := wp_iload (show (lcode 49)[8]? = some (.iload 2) by decide +kernel) rfl
theorem x49_9 : WP d 49 9 [l0, l1, l2, l3] (vI x :: st) h Q ↔ (nl l2 ∧ WP d 49 10 [l0, l1, l2, some (vI x)] st h Q) := wp_istore (show (lcode 49)[9]? = some (.istore 3) by decide +kernel) (Nat.le_of_ble_eq_true rfl)
theorem x49_10 : WP d 49 10 [l0, l1, l2, l3] st h Q ↔ WPC d 49 11 [l0, l1, l2, l3] st h Q := wp_nop (show (lcode 49)[10]? = some (.nop) by decide +kernel)
theorem x49_11 : WP d 49 11 [l0, l1, l2, some (vI x)] st h Q ↔ WP d 49 12 [l0, l1, l2, some (vI x)] (vI x :: st) h Q := wp_iload (show (lcode 49)[11]? = some (.iload 3) by decide +kernel) rfl
theorem x49_12 : WP d 49 12 [l0, l1, l2, l3] st h Q ↔ WP d 49 13 [l0, l1, l2, l3] (vI 1 :: st) h Q := wp_iconst (show (lcode 49)[12]? = some (.iconst 1) by decide +kernel)
theorem x49_13 : WP d 49 13 [l0, l1, l2, l3] (vI y :: vI x :: st) h Q ↔ WP d 49 14 [l0, l1, l2, l3] (vI (x + y) :: st) h Q := wp_iadd (show (lcode 49)[13]? = some (.iadd) by decide +kernel)
theorem x49_14 : WP d 49 14 [some (Value.ref a), l1, l2, l3] st h Q ↔ WP d 49 15 [some (Value.ref a), l1, l2, l3] (Value.ref a :: st) h Q := wp_aload (show (lcode 49)[14]? = some (.aload 0) by decide +kernel) rfl
theorem x49_15 : WP d 49 15 [l0, l1, l2, l3] (.ref a :: st) h Q ↔ gF (hRd h a) 6 1 (fun v => WP d 49 16 [l0, l1, l2, l3] (v :: st) h Q) := wp_getfield (show (lcode 49)[15]? = some (.getfield 385) by decide +kernel)
theorem x49_16 : WP d 49 16 [l0, l1, l2, l3] (vI y :: vI x :: st) h Q ↔ ((wr y ≤ wr x → WP d 49 36 [l0, l1, l2, l3] st h Q) ∧ (¬ (wr y ≤ wr x) → WP d 49 17 [l0, l1, l2, l3] st h Q)) := wp_icmp_ge (show (lcode 49)[16]? = some (.if_icmp .ge 36) by decide +kernel)
theorem x49_17 : WP d 49 17 [l0, l1, l2, some (vI x)] st h Q ↔ WP d 49 18 [l0, l1, l2, some (vI x)] (vI x :: st) h Q := wp_iload (show (lcode 49)[17]? = some (.iload 3) by decide +kernel) rfl
theorem x49_18 : WP d 49 18 [l0, l1, l2, l3] st h Q ↔ WP d 49 19 [l0, l1, l2, l3] (vI 1 :: st) h Q := wp_iconst (show (lcode 49)[18]? = some (.iconst 1) by decide +kernel)
theorem x49_19 : WP d 49 19 [l0, l1, l2, l3] (vI y :: vI x :: st) h Q ↔ WP d 49 20 [l0, l1, l2, l3] (vI (x + y) :: st) h Q := wp_iadd (show (lcode 49)[19]? = some (.iadd) by decide +kernel)
theorem x49_20 : WP d 49 20 [some (Value.ref a), l1, l2, l3] st h Q ↔ WP d 49 21 [some (Value.ref a), l1, l2, l3] (Value.ref a :: st) h Q := wp_aload (show (lcode 49)[20]? = some (.aload 0) by decide +kernel) rfl
theorem x49_21 : WP d 49 21 [l0, l1, l2, l3] (.ref a :: st) h Q ↔ gF (hRd h a) 6 0 (fun v => WP d 49 22 [l0, l1, l2, l3] (v :: st) h Q) := wp_getfield (show (lcode 49)[21]? = some (.getfield 384) by decide +kernel)
theorem x49_22 : WP d 49 22 [l0, l1, l2, l3] (.ref a :: st) h Q ↔ aL (hRd h a) (fun v => WP d 49 23 [l0, l1, l2, l3] (v :: st) h Q) := wp_arraylength (show (lcode 49)[22]? = some (.arraylength) by decide +kernel)
theorem x49_23 : WP d 49 23 [l0, l1, l2, l3] (vI y :: vI x :: st) h Q ↔ ((wr y ≤ wr x → WP d 49 36 [l0, l1, l2, l3] st h Q) ∧ (¬ (wr y ≤ wr x) → WP d 49 24 [l0, l1, l2, l3] st h Q)) := wp_icmp_ge (show (lcode 49)[23]? = some (.if_icmp .ge 36) by decide +kernel)
theorem x49_24 : WP d 49 24 [some (Value.ref a), l1, l2, l3] st h Q ↔ WP d 49 25 [some (Value.ref a), l1, l2, l3] (Value.ref a :: st) h Q := wp_aload (show (lcode 49)[24]? = some (.aload 0) by decide +kernel) rfl
theorem x49_25 : WP d 49 25 [l0, l1, l2, l3] (.ref a :: st) h Q ↔ gF (hRd h a) 6 0 (fun v => WP d 49 26 [l0, l1, l2, l3] (v :: st) h Q) := wp_getfield (show (lcode 49)[25]? = some (.getfield 384) by decide +kernel)
theorem x49_26 : WP d 49 26 [l0, l1, l2, some (vI x)] st h Q ↔ WP d 49 27 [l0, l1, l2, some (vI x)] (vI x :: st) h Q := wp_iload (show (lcode 49)[26]? = some (.iload 3) by decide +kernel) rfl
theorem x49_27 : WP d 49 27 [some (Value.ref a), l1, l2, l3] st h Q ↔ WP d 49 28 [some (Value.ref a), l1, l2, l3] (Value.ref a :: st) h Q := wp_aload (show (lcode 49)[27]? = some (.aload 0) by decide +kernel) rfl
theorem x49_28 : WP d 49 28 [l0, l1, l2, l3] (.ref a :: st) h Q ↔ gF (hRd h a) 6 0 (fun v => WP d 49 29 [l0, l1, l2, l3] (v :: st) h Q) := wp_getfield (show (lcode 49)[28]? = some (.getfield 384) by decide +kernel)
theorem x49_29 : WP d 49 29 [l0, l1, l2, some (vI x)] st h Q ↔ WP d 49 30 [l0, l1, l2, some (vI x)] (vI x :: st) h Q := wp_iload (show (lcode 49)[29]? = some (.iload 3) by decide +kernel) rfl
theorem x49_30 : WP d 49 30 [l0, l1, l2, l3] st h Q ↔ WP d 49 31 [l0, l1, l2, l3] (vI 1 :: st) h Q := wp_iconst (show (lcode 49)[30]? = some (.iconst 1) by decide +kernel)
theorem x49_31 : WP d 49 31 [l0, l1, l2, l3] (vI y :: vI x :: st) h Q ↔ WP d 49 32 [l0, l1, l2, l3] (vI (x + y) :: st) h Q := wp_iadd (show (lcode 49)[31]? = some (.iadd) by decide +kernel)
theorem x49_32 : WP d 49 32 [l0, l1, l2, l3] (vI x :: .ref a :: st) h Q ↔ ldA (hRd h a) x (fun v => WP d 49 33 [l0, l1, l2, l3] (v :: st) h Q) := wp_iaload (show (lcode 49)[32]? = some (.iaload) by decide +kernel)
theorem x49_33 : WP d 49 33 [l0, l1, l2, l3] (vI y :: vI x :: .ref a :: st) h Q ↔ stA (hRd h a) a x (vI y) (fun c => WP d 49 34 [l0, l1, l2, l3] st (hWr h a c) Q) := wp_iastore (show (lcode 49)[33]? = some (.iastore) by decide +kernel)
theorem x49_34 : WP d 49 34 [l0, l1, l2, some (vI x)] st h Q ↔ (nl l2 ∧ WP d 49 35 [l0, l1, l2, some (vI (x + 1))] st h Q) := wp_iinc (show (lcode 49)[34]? = some (.iinc 3 1) by decide +kernel) rfl (Nat.le_of_ble_eq_true rfl)
theorem x49_35 : WP d 49 35 [l0, l1, l2, l3] st h Q ↔ WP d 49 10 [l0, l1, l2, l3] st h Q := wp_goto (show (lcode 49)[35]? = some (.goto 10) by decide +kernel)
theorem x49_36 : WP d 49 36 [some (Value.ref a), l1, l2, l3] st h Q ↔ WP d 49 37 [some (Value.ref a), l1, l2, l3] (Value.ref a :: st) h Q := wp_aload (show (lcode 49)[36]? = some (.aload 0) by decide +kernel) rfl
theorem x49_37 : WP d 49 37 [l0, l1, l2, l3] (v :: st) h Q ↔ (c1 v ∧ WP d 49 38 [l0, l1, l2, l3] (v :: v :: st) h Q) := wp_dup (show (lcode 49)[37]? = some (.dup) by decide +kernel)
theorem x49_38 : WP d 49 38 [l0, l1, l2, l3] (.ref a :: st) h Q ↔ gF (hRd h a) 6 1 (fun v => WP d 49 39 [l0, l1, l2, l3] (v :: st) h Q) := wp_getfield (show (lcode 49)[38]? = some (.getfield 385) by decide +kernel)
theorem x49_39 : WP d 49 39 [l0, l1, l2, l3] st h Q ↔ WP d 49 40 [l0, l1, l2, l3] (vI 1 :: st) h Q := wp_iconst (show (lcode 49)[39]? = some (.iconst 1) by decide +kernel)
theorem x49_40 : WP d 49 40 [l0, l1, l2, l3] (vI y :: vI x :: st) h Q ↔ WP d 49 41 [l0, l1, l2, l3] (vI (x - y) :: st) h Q := wp_isub (show (lcode 49)[40]? = some (.isub) by decide +kernel)
theorem x49_41 : WP d 49 41 [l0, l1, l2, l3] (vI x :: .ref a :: st) h Q ↔ pF (hRd h a) 6 1 (vI x) (fun c => WP d 49 42 [l0, l1, l2, l3] st (hWr h a c) Q) := wp_putfield (show (lcode 49)[41]? = some (.putfield 385) by decide +kernel)
theorem x49_42 : WP d 49 42 [l0, l1, l2, l3] [] h Q ↔ Q none h := wp_return (show (lcode 49)[42]? = some (.return_) by decide +kernel)
-- 50: WakeOrder$Row.putIn
theorem x50_0 : WP d 50 0 [some (Value.ref a), l1, l2, l3] st h Q ↔ WP d 50 1 [some (Value.ref a), l1, l2, l3] (Value.ref a :: st) h Q := wp_aload (show (lcode 50)[0]? = some (.aload 0) by decide +kernel) rfl
theorem x50_1 : WP d 50 1 [l0, l1, l2, l3] (.ref a :: st) h Q ↔ gF (hRd h a) 6 1 (fun v => WP d 50 2 [l0, l1, l2, l3] (v :: st) h Q) := wp_getfield (show (lcode 50)[1]? = some (.getfield 385) by decide +kernel)
theorem x50_2 : WP d 50 2 [some (Value.ref a), l1, l2, l3] st h Q ↔ WP d 50 3 [some (Value.ref a), l1, l2, l3] (Value.ref a :: st) h Q := wp_aload (show (lcode 50)[2]? = some (.aload 0) by decide +kernel) rfl
theorem x50_3 : WP d 50 3 [l0, l1, l2, l3] (.ref a :: st) h Q ↔ gF (hRd h a) 6 0 (fun v => WP d 50 4 [l0, l1, l2, l3] (v :: st) h Q) := wp_getfield (show (lcode 50)[3]? = some (.getfield 384) by decide +kernel)
theorem x50_4 : WP d 50 4 [l0, l1, l2, l3] (.ref a :: st) h Q ↔ aL (hRd h a) (fun v => WP d 50 5 [l0, l1, l2, l3] (v :: st) h Q) := wp_arraylength (show (lcode 50)[4]? = some (.arraylength) by decide +kernel)
theorem x50_5 : WP d 50 5 [l0, l1, l2, l3] (vI y :: vI x :: st) h Q ↔ ((wr y ≤ wr x → WP d 50 12 [l0, l1, l2, l3] st h Q) ∧ (¬ (wr y ≤ wr x) → WP d 50 6 [l0, l1, l2, l3] st h Q)) := wp_icmp_ge (show (lcode 50)[5]? = some (.if_icmp .ge 12) by decide +kernel)
theorem x50_6 : WP d 50 6 [l0, l1, some (vI x), l3] st h Q ↔ WP d 50 7 [l0, l1, some (vI x), l3] (vI x :: st) h Q := wp_iload (show (lcode 50)[6]? = some (.iload 2) by decide +kernel) rfl
theorem x50_7 : WP d 50 7 [l0, l1, l2, l3] (vI x :: st) h Q ↔ ((wr x < 0 → WP d 50 12 [l0, l1, l2, l3] st h Q) ∧ (¬ (wr x < 0) → WP d 50 8 [l0, l1, l2, l3] st h Q)) := wp_if_lt (show (lcode 50)[7]? = some (.ifCond .lt 12) by decide +kernel)
theorem x50_8 : WP d 50 8 [l0, l1, some (vI x), l3] st h Q ↔ WP d 50 9 [l0, l1, some (vI x), l3] (vI x :: st) h Q := wp_iload (show (lcode 50)[8]? = some (.iload 2) by decide +kernel) rfl
theorem x50_9 : WP d 50 9 [some (Value.ref a), l1, l2, l3] st h Q ↔ WP d 50 10 [some (Value.ref a), l1, l2, l3] (Value.ref a :: st) h Q := wp_aload (show (lcode 50)[9]? = some (.aload 0) by decide +kernel) rfl
theorem x50_10 : WP d 50 10 [l0, l1, l2, l3] (.ref a :: st) h Q ↔ gF (hRd h a) 6 1 (fun v => WP d 50 11 [l0, l1, l2, l3] (v :: st) h Q) := wp_getfield (show (lcode 50)[10]? = some (.getfield 385) by decide +kernel)
theorem x50_11 : WP d 50 11 [l0, l1, l2, l3] (vI y :: vI x :: st) h Q ↔ ((wr x ≤ wr y → WP d 50 13 [l0, l1, l2, l3] st h Q) ∧ (¬ (wr x ≤ wr y) → WP d 50 12 [l0, l1, l2, l3] st h Q)) := wp_icmp_le (show (lcode 50)[11]? = some (.if_icmp .le 13) by decide +kernel)
theorem x50_12 : WP d 50 12 [l0, l1, l2, l3] [] h Q ↔ Q none h := wp_return (show (lcode 50)[12]? = some (.return_) by decide +kernel)
theorem x50_13 : WP d 50 13 [some (Value.ref a), l1, l2, l3] st h Q ↔ WP d 50 14 [some (Value.ref a), l1, l2, l3] (Value.ref a :: st) h Q := wp_aload (show (lcode 50)[13]? = some (.aload 0) by decide +kernel) rfl
theorem x50_14 : WP d 50 14 [l0, l1, l2, l3] (.ref a :: st) h Q ↔ gF (hRd h a) 6 1 (fun v => WP d 50 15 [l0, l1, l2, l3] (v :: st) h Q) := wp_getfield (show (lcode 50)[14]? = some (.getfield 385) by decide +kernel)
theorem x50_15 : WP d 50 15 [l0, l1, l2, l3] (vI x :: st) h Q ↔ (nl l2 ∧ WP d 50 16 [l0, l1, l2, some (vI x)] st h Q) := wp_istore (show (lcode 50)[15]? = some (.istore 3) by decide +kernel) (Nat.le_of_ble_eq_true rfl)
theorem x50_16 : WP d 50 16 [l0, l1, l2, l3] st h Q ↔ WPC d 50 17 [l0, l1, l2, l3] st h Q := wp_nop (show (lcode 50)[16]? = some (.nop) by decide +kernel)
theorem x50_17 : WP d 50 17 [l0, l1, l2, some (vI x)] st h Q ↔ WP d 50 18 [l0, l1, l2, some (vI x)] (vI x :: st) h Q := wp_iload (show (lcode 50)[17]? = some (.iload 3) by decide +kernel) rfl
theorem x50_18 : WP d 50 18 [l0, l1, some (vI x), l3] st h Q ↔ WP d 50 19 [l0, l1, some (vI x), l3] (vI x :: st) h Q := wp_iload (show (lcode 50)[18]? = some (.iload 2) by decide +kernel) rfl
theorem x50_19 : WP d 50 19 [l0, l1, l2, l3] (vI y :: vI x :: st) h Q ↔ ((wr x ≤ wr y → WP d 50 32 [l0, l1, l2, l3] st h Q) ∧ (¬ (wr x ≤ wr y) → WP d 50 20 [l0, l1, l2, l3] st h Q)) := wp_icmp_le (show (lcode 50)[19]? = some (.if_icmp .le 32) by decide +kernel)
theorem x50_20 : WP d 50 20 [some (Value.ref a), l1, l2, l3] st h Q ↔ WP d 50 21 [some (Value.ref a), l1, l2, l3] (Value.ref a :: st) h Q := wp_aload (show (lcode 50)[20]? = some (.aload 0) by decide +kernel) rfl
theorem x50_21 : WP d 50 21 [l0, l1, l2, l3] (.ref a :: st) h Q ↔ gF (hRd h a) 6 0 (fun v => WP d 50 22 [l0, l1, l2, l3] (v :: st) h Q) := wp_getfield (show (lcode 50)[21]? = some (.getfield 384) by decide +kernel)
theorem x50_22 : WP d 50 22 [l0, l1, l2, some (vI x)] st h Q ↔ WP d 50 23 [l0, l1, l2, some (vI x)] (vI x :: st) h Q := wp_iload (show (lcode 50)[22]? = some (.iload 3) by decide +kernel) rfl
theorem x50_23 : WP d 50 23 [some (Value.ref a), l1, l2, l3] st h Q ↔ WP d 50 24 [some (Value.ref a), l1, l2, l3] (Value.ref a :: st) h Q := wp_aload (show (lcode 50)[23]? = some (.aload 0) by decide +kernel) rfl
theorem x50_24 : WP d 50 24 [l0, l1, l2, l3] (.ref a :: st) h Q ↔ gF (hRd h a) 6 0 (fun v => WP d 50 25 [l0, l1, l2, l3] (v :: st) h Q) := wp_getfield (show (lcode 50)[24]? = some (.getfield 384) by decide +kernel)
theorem x50_25 : WP d 50 25 [l0, l1, l2, some (vI x)] st h Q ↔ WP d 50 26 [l0, l1, l2, some (vI x)] (vI x :: st) h Q := wp_iload (show (lcode 50)[25]? = some (.iload 3) by decide +kernel) rfl
theorem x50_26 : WP d 50 26 [l0, l1, l2, l3] st h Q ↔ WP d 50 27 [l0, l1, l2, l3] (vI 1 :: st) h Q := wp_iconst (show (lcode 50)[26]? = some (.iconst 1) by decide +kernel)
theorem x50_27 : WP d 50 27 [l0, l1, l2, l3] (vI y :: vI x :: st) h Q ↔ WP d 50 28 [l0, l1, l2, l3] (vI (x - y) :: st) h Q := wp_isub (show (lcode 50)[27]? = some (.isub) by decide +kernel)
theorem x50_28 : WP d 50 28 [l0, l1, l2, l3] (vI x :: .ref a :: st) h Q ↔ ldA (hRd h a) x (fun v => WP d 50 29 [l0, l1, l2, l3] (v :: st) h Q) := wp_iaload (show (lcode 50)[28]? = some (.iaload) by decide +kernel)
theorem x50_29 : WP d 50 29 [l0, l1, l2, l3] (vI y :: vI x :: .ref a :: st) h Q ↔ stA (hRd h a) a x (vI y) (fun c => WP d 50 30 [l0, l1, l2, l3] st (hWr h a c) Q) := wp_iastore (show (lcode 50)[29]? = some (.iastore) by decide +kernel)
theorem x50_30 : WP d 50 30 [l0, l1, l2, some (vI x)] st h Q ↔ (nl l2 ∧ WP d 50 31 [l0, l1, l2, some (vI (x + (-1)))] st h Q) := wp_iinc (show (lcode 50)[30]? = some (.iinc 3 (-1)) by decide +kernel) rfl (Nat.le_of_ble_eq_true rfl)
theorem x50_31 : WP d 50 31 [l0, l1, l2, l3] st h Q ↔ WP d 50 16 [l0, l1, l2, l3] st h Q := wp_goto (show (lcode 50)[31]? = some (.goto 16) by decide +kernel)
theorem x50_32 : WP d 50 32 [some (Value.ref a), l1, l2, l3] st h Q ↔ WP d 50 33 [some (Value.ref a), l1, l2, l3] (Value.ref a :: st) h Q := wp_aload (show (lcode 50)[32]? = some (.aload 0) by decide +kernel) rfl
theorem x50_33 : WP d 50 33 [l0, l1, l2, l3] (.ref a :: st) h Q ↔ gF (hRd h a) 6 0 (fun v => WP d 50 34 [l0, l1, l2, l3] (v :: st) h Q) := wp_getfield (show (lcode 50)[33]? = some (.getfield 384) by decide +kernel)
theorem x50_34 : WP d 50 34 [l0, l1, some (vI x), l3] st h Q ↔ WP d 50 35 [l0, l1, some (vI x), l3] (vI x :: st) h Q := wp_iload (show (lcode 50)[34]? = some (.iload 2) by decide +kernel) rfl
theorem x50_35 : WP d 50 35 [l0, some (vI x), l2, l3] st h Q ↔ WP d 50 36 [l0, some (vI x), l2, l3] (vI x :: st) h Q := wp_iload (show (lcode 50)[35]? = some (.iload 1) by decide +kernel) rfl
theorem x50_36 : WP d 50 36 [l0, l1, l2, l3] (vI y :: vI x :: .ref a :: st) h Q ↔ stA (hRd h a) a x (vI y) (fun c => WP d 50 37 [l0, l1, l2, l3] st (hWr h a c) Q) := wp_iastore (show (lcode 50)[36]? = some (.iastore) by decide +kernel)
theorem x50_37 : WP d 50 37 [some (Value.ref a), l1, l2, l3] st h Q ↔ WP d 50 38 [some (Value.ref a), l1, l2, l3] (Value.ref a :: st) h Q := wp_aload (show (lcode 50)[37]? = some (.aload 0) by decide +kernel) rfl
theorem x50_38 : WP d 50 38 [l0, l1, l2, l3] (v :: st) h Q ↔ (c1 v ∧ WP d 50 39 [l0, l1, l2, l3] (v :: v :: st) h Q) := wp_dup (show (lcode 50)[38]? = some (.dup) by decide +kernel)
theorem x50_39 : WP d 50 39 [l0, l1, l2, l3] (.ref a :: st) h Q ↔ gF (hRd h a) 6 1 (fun v => WP d 50 40 [l0, l1, l2, l3] (v :: st) h Q) := wp_getfield (show (lcode 50)[39]? = some (.getfield 385) by decide +kernel)
theorem x50_40 : WP d 50 40 [l0, l1, l2, l3] st h Q ↔ WP d 50 41 [l0, l1, l2, l3] (vI 1 :: st) h Q := wp_iconst (show (lcode 50)[40]? = some (.iconst 1) by decide +kernel)
theorem x50_41 : WP d 50 41 [l0, l1, l2, l3] (vI y :: vI x :: st) h Q ↔ WP d 50 42 [l0, l1, l2, l3] (vI (x + y) :: st) h Q := wp_iadd (show (lcode 50)[41]? = some (.iadd) by decide +kernel)
theorem x50_42 : WP d 50 42 [l0, l1, l2, l3] (vI x :: .ref a :: st) h Q ↔ pF (hRd h a) 6 1 (vI x) (fun c => WP d 50 43 [l0, l1, l2, l3] st (hWr h a c) Q) := wp_putfield (show (lcode 50)[42]? = some (.putfield 385) by decide +kernel)
theorem x50_43 : WP d 50 43 [l0, l1, l2, l3] [] h Q ↔ Q none h := wp_return (show (lcode 50)[43]? = some (.return_) by decide +kernel)
-- 51: WakeOrder$Row.nearerHeadThanIn
theorem x51_0 : WP d 51 0 [l0, l1, l2, l3] st h Q ↔ WP d 51 1 [l0, l1, l2, l3] (vI 0 :: st) h Q := wp_iconst (show (lcode 51)[0]? = some (.iconst 0) by decide +kernel)
theorem x51_1 : WP d 51 1 [l0, l1, l2, l3] (vI x :: st) h Q ↔ (nl l1 ∧ WP d 51 2 [l0, l1, some (vI x), l3] st h Q) := wp_istore (show (lcode 51)[1]? = some (.istore 2) by decide +kernel) (Nat.le_of_ble_eq_true rfl)
theorem x51_2 : WP d 51 2 [l0, l1, l2, l3] st h Q ↔ WP d 51 3 [l0, l1, l2, l3] (vI 0 :: st) h Q := wp_iconst (show (lcode 51)[2]? = some (.iconst 0) by decide +kernel)
theorem x51_3 : WP d 51 3 [l0, l1, l2, l3] (vI x :: st) h Q ↔ (nl l2 ∧ WP d 51 4 [l0, l1, l2, some (vI x)] st h Q) := wp_istore (show (lcode 51)[3]? = some (.istore 3) by decide +kernel) (Nat.le_of_ble_eq_true rfl)
theorem x51_4 : WP d 51 4 [l0, l1, l2, l3] st h Q ↔ WPC d 51 5 [l0, l1, l2, l3] st h Q := wp_nop (show (lcode 51)[4]? = some (.nop) by decide +kernel)
theorem x51_5 : WP d 51 5 [l0, l1, l2, some (vI x)] st h Q ↔ WP d 51 6 [l0, l1, l2, some (vI x)] (vI x :: st) h Q := wp_iload (show (lcode 51)[5]? = some (.iload 3) by decide +kernel) rfl
theorem x51_6 : WP d 51 6 [some (Value.ref a), l1, l2, l3] st h Q ↔ WP d 51 7 [some (Value.ref a), l1, l2, l3] (Value.ref a :: st) h Q := wp_aload (show (lcode 51)[6]? = some (.aload 0) by decide +kernel) rfl
theorem x51_7 : WP d 51 7 [l0, l1, l2, l3] (.ref a :: st) h Q ↔ gF (hRd h a) 6 1 (fun v => WP d 51 8 [l0, l1, l2, l3] (v :: st) h Q) := wp_getfield (show (lcode 51)[7]? = some (.getfield 385) by decide +kernel)
theorem x51_8 : WP d 51 8 [l0, l1, l2, l3] (vI y :: vI x :: st) h Q ↔ ((wr y ≤ wr x → WP d 51 19 [l0, l1, l2, l3] st h Q) ∧ (¬ (wr y ≤ wr x) → WP d 51 9 [l0, l1, l2, l3] st h Q)) := wp_icmp_ge (show (lcode 51)[8]? = some (.if_icmp .ge 19) by decide +kernel)
theorem x51_9 : WP d 51 9 [l0, l1, l2, some (vI x)] st h Q ↔ WP d 51 10 [l0, l1, l2, some (vI x)] (vI x :: st) h Q := wp_iload (show (lcode 51)[9]? = some (.iload 3) by decide +kernel) rfl
theorem x51_10 : WP d 51 10 [l0, some (Value.ref a), l2, l3] st h Q ↔ WP d 51 11 [l0, some (Value.ref a), l2, l3] (Value.ref a :: st) h Q := wp_aload (show (lcode 51)[10]? = some (.aload 1) by decide +kernel) rfl
theorem x51_11 : WP d 51 11 [some (Value.ref a), l1, l2, l3] st h Q ↔ WP d 51 12 [some (Value.ref a), l1, l2, l3] (Value.ref a :: st) h Q := wp_aload (show (lcode 51)[11]? = some (.aload 0) by decide +kernel) rfl
theorem x51_12 : WP d 51 12 [l0, l1, l2, some (vI x)] st h Q ↔ WP d 51 13 [l0, l1, l2, some (vI x)] (vI x :: st) h Q := wp_iload (show (lcode 51)[12]? = some (.iload 3) by decide +kernel) rfl
theorem x51_13 : WP d 51 13 [l0, l1, l2, l3] (v1 :: v :: st) h Q ↔ (sh st ∧ CALL d 44 [v, v1] h (fun v h => WP d 51 14 [l0, l1, l2, l3] (v.toList ++ st) h Q)) := wp_call (n := 2) (show (lcode 51)[13]? = some (.invokestatic 44) by decide +kernel) (by decide +kernel) (by simp)
theorem x51_14 : WP d 51 14 [l0, l1, l2, l3] (v1 :: v :: st) h Q ↔ (sh st ∧ CALL d 45 [v, v1] h (fun v h => WP d 51 15 [l0, l1, l2, l3] (v.toList ++ st) h Q)) := wp_call (n := 2) (show (lcode 51)[14]? = some (.invokestatic 45) by decide +kernel) (by decide +kernel) (by simp)
theorem x51_15 : WP d 51 15 [l0, l1, l2, l3] (vI y :: vI x :: st) h Q ↔ ((wr y ≤ wr x → WP d 51 17 [l0, l1, l2, l3] st h Q) ∧ (¬ (wr y ≤ wr x) → WP d 51 16 [l0, l1, l2, l3] st h Q)) := wp_icmp_ge (show (lcode 51)[15]? = some (.if_icmp .ge 17) by decide +kernel)
theorem x51_16 : WP d 51 16 [l0, l1, some (vI x), l3] st h Q ↔ (nl l1 ∧ WP d 51 17 [l0, l1, some (vI (x + 1)), l3] st h Q) := wp_iinc (show (lcode 51)[16]? = some (.iinc 2 1) by decide +kernel) rfl (Nat.le_of_ble_eq_true rfl)
theorem x51_17 : WP d 51 17 [l0, l1, l2, some (vI x)] st h Q ↔ (nl l2 ∧ WP d 51 18 [l0, l1, l2, some (vI (x + 1))] st h Q) := wp_iinc (show (lcode 51)[17]? = some (.iinc 3 1) by decide +kernel) rfl (Nat.le_of_ble_eq_true rfl)
theorem x51_18 : WP d 51 18 [l0, l1, l2, l3] st h Q ↔ WP d 51 4 [l0, l1, l2, l3] st h Q := wp_goto (show (lcode 51)[18]? = some (.goto 4) by decide +kernel)
theorem x51_19 : WP d 51 19 [l0, l1, some (vI x), l3] st h Q ↔ WP d 51 20 [l0, l1, some (vI x), l3] (vI x :: st) h Q := wp_iload (show (lcode 51)[19]? = some (.iload 2) by decide +kernel) rfl
theorem x51_20 : WP d 51 20 [l0, l1, l2, l3] [vI x] h Q ↔ Q (some (vI x)) h := wp_ireturn (show (lcode 51)[20]? = some (.ireturn) by decide +kernel)
-- 52: WakeOrder$Row.toNextOrder
theorem x52_0 : WP d 52 0 [some (Value.ref a), l1, l2, l3, l4] st h Q ↔ WP d 52 1 [some (Value.ref a), l1, l2, l3, l4] (Value.ref a :: st) h Q := wp_aload (show (lcode 52)[0]? = some (.aload 0) by decide +kernel) rfl
theorem x52_1 : WP d 52 1 [l0, l1, l2, l3, l4] (.ref a :: st) h Q ↔ gF (hRd h a) 6 1 (fun v => WP d 52 2 [l0, l1, l2, l3, l4] (v :: st) h Q) := wp_getfield (show (lcode 52)[1]? = some (.getfield 385) by decide +kernel)
theorem x52_2 : WP d 52 2 [l0, l1, l2, l3, l4] st h Q ↔ WP d 52 3 [l0, l1, l2, l3, l4] (vI 2 :: st) h Q := wp_iconst (show (lcode 52)[2]? = some (.iconst 2) by decide +kernel)
theorem x52_3 : WP d 52 3 [l0, l1, l2, l3, l4] (vI y :: vI x :: st) h Q ↔ WP d 52 4 [l0, l1, l2, l3, l4] (vI (x - y) :: st) h Q := wp_isub (show (lcode 52)[3]? = some (.isub) by decide +kernel)
theorem x52_4 : WP d 52 4 [l0, l1, l2, l3, l4] (vI x :: st) h Q ↔ (nl l0 ∧ WP d 52 5 [l0, some (vI x), l2, l3, l4] st h Q) := wp_istore (show (lcode 52)[4]? = some (.istore 1) by decide +kernel) (Nat.le_of_ble_eq_true rfl)
theorem x52_5 : WP d 52 5 [l0, l1, l2, l3, l4] st h Q ↔ WPC d 52 6 [l0, l1, l2, l3, l4] st h Q := wp_nop (show (lcode 52)[5]? = some (.nop) by decide +kernel)
theorem x52_6 : WP d 52 6 [l0, some (vI x), l2, l3, l4] st h Q ↔ WP d 52 7 [l0, some (vI x), l2, l3, l4] (vI x :: st) h Q := wp_iload (show (lcode 52)[6]? = some (.iload 1) by decide +kernel) rfl
theorem x52_7 : WP d 52 7 [l0, l1, l2, l3, l4] (vI x :: st) h Q ↔ ((wr x < 0 → WP d 52 19 [l0, l1, l2, l3, l4] st h Q) ∧ (¬ (wr x < 0) → WP d 52 8 [l0, l1, l2, l3, l4] st h Q)) := wp_if_lt (show (lcode 52)[7]? = some (.ifCond .lt 19) by decide +kernel)
theorem x52_8 : WP d 52 8 [some (Value.ref a), l1, l2, l3, l4] st h Q ↔ WP d 52 9 [some (Value.ref a), l1, l2, l3, l4] (Value.ref a :: st) h Q := wp_aload (show (lcode 52)[8]? = some (.aload 0) by decide +kernel) rfl
theorem x52_9 : WP d 52 9 [l0, some (vI x), l2, l3, l4] st h Q ↔ WP d 52 10 [l0, some (vI x), l2, l3, l4] (vI x :: st) h Q := wp_iload (show (lcode 52)[9]? = some (.iload 1) by decide +kernel) rfl
theorem x52_10 : WP d 52 10 [l0, l1, l2, l3, l4] (v1 :: v :: st) h Q ↔ (sh st ∧ CALL d 44 [v, v1] h (fun v h => WP d 52 11 [l0, l1, l2, l3, l4] (v.toList ++ st) h Q)) := wp_call (n := 2) (show (lcode 52)[10]? = some (.invokestatic 44) by decide +kernel) (by decide +kernel) (by simp)
theorem x52_11 : WP d 52 11 [some (Value.ref a), l1, l2, l3, l4] st h Q ↔ WP d 52 12 [some (Value.ref a), l1, l2, l3, l4] (Value.ref a :: st) h Q := wp_aload (show (lcode 52)[11]? = some (.aload 0) by decide +kernel) rfl
theorem x52_12 : WP d 52 12 [l0, some (vI x), l2, l3, l4] st h Q ↔ WP d 52 13 [l0, some (vI x), l2, l3, l4] (vI x :: st) h Q := wp_iload (show (lcode 52)[12]? = some (.iload 1) by decide +kernel) rfl
theorem x52_13 : WP d 52 13 [l0, l1, l2, l3, l4] st h Q ↔ WP d 52 14 [l0, l1, l2, l3, l4] (vI 1 :: st) h Q := wp_iconst (show (lcode 52)[13]? = some (.iconst 1) by decide +kernel)
theorem x52_14 : WP d 52 14 [l0, l1, l2, l3, l4] (vI y :: vI x :: st) h Q ↔ WP d 52 15 [l0, l1, l2, l3, l4] (vI (x + y) :: st) h Q := wp_iadd (show (lcode 52)[14]? = some (.iadd) by decide +kernel)
theorem x52_15 : WP d 52 15 [l0, l1, l2, l3, l4] (v1 :: v :: st) h Q ↔ (sh st ∧ CALL d 44 [v, v1] h (fun v h => WP d 52 16 [l0, l1, l2, l3, l4] (v.toList ++ st) h Q)) := wp_call (n := 2) (show (lcode 52)[15]? = some (.invokestatic 44) by decide +kernel) (by decide +kernel) (by simp)
theorem x52_16 : WP d 52 16 [l0, l1, l2, l3, l4] (vI y :: vI x :: st) h Q ↔ ((wr x ≤ wr y → WP d 52 19 [l0, l1, l2, l3, l4] st h Q) ∧ (¬ (wr x ≤ wr y) → WP d 52 17 [l0, l1, l2, l3, l4] st h Q)) := wp_icmp_le (show (lcode 52)[16]? = some (.if_icmp .le 19) by decide +kernel)
theorem x52_17 : WP d 52 17 [l0, some (vI x), l2, l3, l4] st h Q ↔ (nl l0 ∧ WP d 52 18 [l0, some (vI (x + (-1))), l2, l3, l4] st h Q) := wp_iinc (show (lcode 52)[17]? = some (.iinc 1 (-1)) by decide +kernel) rfl (Nat.le_of_ble_eq_true rfl)
theorem x52_18 : WP d 52 18 [l0, l1, l2, l3, l4] st h Q ↔ WP d 52 5 [l0, l1, l2, l3, l4] st h Q := wp_goto (show (lcode 52)[18]? = some (.goto 5) by decide +kernel)
theorem x52_19 : WP d 52 19 [l0, some (vI x), l2, l3, l4] st h Q ↔ WP d 52 20 [l0, some (vI x), l2, l3, l4] (vI x :: st) h Q := wp_iload (show (lcode 52)[19]? = some (.iload 1) by decide +kernel) rfl
theorem x52_20 : WP d 52 20 [l0, l1, l2, l3, l4] (vI x :: st) h Q ↔ ((0 ≤ wr x → WP d 52 23 [l0, l1, l2, l3, l4] st h Q) ∧ (¬ (0 ≤ wr x) → WP d 52 21 [l0, l1, l2, l3, l4] st h Q)) := wp_if_ge (show (lcode 52)[20]? = some (.ifCond .ge 23) by decide +kernel)
theorem x52_21 : WP d 52 21 [l0, l1, l2, l3, l4] st h Q ↔ WP d 52 22 [l0, l1, l2, l3, l4] (vI 0 :: st) h Q := wp_iconst (show (lcode 52)[21]? = some (.iconst 0) by decide +kernel)
theorem x52_22 : WP d 52 22 [l0, l1, l2, l3, l4] [vI x] h Q ↔ ((Int32.ofInt x = 0 ∨ Int32.ofInt x = 1) ∧ Q (some (vI x)) h) := wp_areturn (show (lcode 52)[22]? = some (.areturn) by decide +kernel)
theorem x52_23 : WP d 52 23 [some (Value.ref a), l1, l2, l3, l4] st h Q ↔ WP d 52 24 [some (Value.ref a), l1, l2, l3, l4] (Value.ref a :: st) h Q := wp_aload (show (lcode 52)[23]? = some (.aload 0) by decide +kernel) rfl
theorem x52_24 : WP d 52 24 [l0, l1, l2, l3, l4] (.ref a :: st) h Q ↔ gF (hRd h a) 6 1 (fun v => WP d 52 25 [l0, l1, l2, l3, l4] (v :: st) h Q) := wp_getfield (show (lcode 52)[24]? = some (.getfield 385) by decide +kernel)
theorem x52_25 : WP d 52 25 [l0, l1, l2, l3, l4] st h Q ↔ WP d 52 26 [l0, l1, l2, l3, l4] (vI 1 :: st) h Q := wp_iconst (show (lcode 52)[25]? = some (.iconst 1) by decide +kernel)
theorem x52_26 : WP d 52 26 [l0, l1, l2, l3, l4] (vI y :: vI x :: st) h Q ↔ WP d 52 27 [l0, l1, l2, l3, l4] (vI (x - y) :: st) h Q := wp_isub (show (lcode 52)[26]? = some (.isub) by decide +kernel)
theorem x52_27 : WP d 52 27 [l0, l1, l2, l3, l4] (vI x :: st) h Q ↔ (nl l1 ∧ WP d 52 28 [l0, l1, some (vI x), l3, l4] st h Q) := wp_istore (show (lcode 52)[27]? = some (.istore 2) by decide +kernel) (Nat.le_of_ble_eq_true rfl)
theorem x52_28 : WP d 52 28 [l0, l1, l2, l3, l4] st h Q ↔ WPC d 52 29 [l0, l1, l2, l3, l4] st h Q := wp_nop (show (lcode 52)[28]? = some (.nop) by decide +kernel)
theorem x52_29 : WP d 52 29 [l0, l1, some (vI x), l3, l4] st h Q ↔ WP d 52 30 [l0, l1, some (vI x), l3, l4] (vI x :: st) h Q := wp_iload (show (lcode 52)[29]? = some (.iload 2) by decide +kernel) rfl
theorem x52_30 : WP d 52 30 [l0, some (vI x), l2, l3, l4] st h Q ↔ WP d 52 31 [l0, some (vI x), l2, l3, l4] (vI x :: st) h Q := wp_iload (show (lcode 52)[30]? = some (.iload 1) by decide +kernel) rfl
theorem x52_31 : WP d 52 31 [l0, l1, l2, l3, l4] (vI y :: vI x :: st) h Q ↔ ((wr x ≤ wr y → WP d 52 41 [l0, l1, l2, l3, l4] st h Q) ∧ (¬ (wr x ≤ wr y) → WP d 52 32 [l0, l1, l2, l3, l4] st h Q)) := wp_icmp_le (show (lcode 52)[31]? = some (.if_icmp .le 41) by decide +kernel)
theorem x52_32 : WP d 52 32 [some (Value.ref a), l1, l2, l3, l4] st h Q ↔ WP d 52 33 [some (Value.ref a), l1, l2, l3, l4] (Value.ref a :: st) h Q := wp_aload (show (lcode 52)[32]? = some (.aload 0) by decide +kernel) rfl
theorem x52_33 : WP d 52 33 [l0, l1, some (vI x), l3, l4] st h Q ↔ WP d 52 34 [l0, l1, some (vI x), l3, l4] (vI x :: st) h Q := wp_iload (show (lcode 52)[33]? = some (.iload 2) by decide +kernel) rfl
theorem x52_34 : WP d 52 34 [l0, l1, l2, l3, l4] (v1 :: v :: st) h Q ↔ (sh st ∧ CALL d 44 [v, v1] h (fun v h => WP d 52 35 [l0, l1, l2, l3, l4] (v.toList ++ st) h Q)) := wp_call (n := 2) (show (lcode 52)[34]? = some (.invokestatic 44) by decide +kernel) (by decide +kernel) (by simp)
theorem x52_35 : WP d 52 35 [some (Value.ref a), l1, l2, l3, l4] st h Q ↔ WP d 52 36 [some (Value.ref a), l1, l2, l3, l4] (Value.ref a :: st) h Q := wp_aload (show (lcode 52)[35]? = some (.aload 0) by decide +kernel) rfl
theorem x52_36 : WP d 52 36 [l0, some (vI x), l2, l3, l4] st h Q ↔ WP d 52 37 [l0, some (vI x), l2, l3, l4] (vI x :: st) h Q := wp_iload (show (lcode 52)[36]? = some (.iload 1) by decide +kernel) rfl
theorem x52_37 : WP d 52 37 [l0, l1, l2, l3, l4] (v1 :: v :: st) h Q ↔ (sh st ∧ CALL d 44 [v, v1] h (fun v h => WP d 52 38 [l0, l1, l2, l3, l4] (v.toList ++ st) h Q)) := wp_call (n := 2) (show (lcode 52)[37]? = some (.invokestatic 44) by decide +kernel) (by decide +kernel) (by simp)
theorem x52_38 : WP d 52 38 [l0, l1, l2, l3, l4] (vI y :: vI x :: st) h Q ↔ ((wr y ≤ wr x → WP d 52 41 [l0, l1, l2, l3, l4] st h Q) ∧ (¬ (wr y ≤ wr x) → WP d 52 39 [l0, l1, l2, l3, l4] st h Q)) := wp_icmp_ge (show (lcode 52)[38]? = some (.if_icmp .ge 41) by decide +kernel)
theorem x52_39 : WP d 52 39 [l0, l1, some (vI x), l3, l4] st h Q ↔ (nl l1 ∧ WP d 52 40 [l0, l1, some (vI (x + (-1))), l3, l4] st h Q) := wp_iinc (show (lcode 52)[39]? = some (.iinc 2 (-1)) by decide +kernel) rfl (Nat.le_of_ble_eq_true rfl)
theorem x52_40 : WP d 52 40 [l0, l1, l2, l3, l4] st h Q ↔ WP d 52 28 [l0, l1, l2, l3, l4] st h Q := wp_goto (show (lcode 52)[40]? = some (.goto 28) by decide +kernel)
theorem x52_41 : WP d 52 41 [some (Value.ref a), l1, l2, l3, l4] st h Q ↔ WP d 52 42 [some (Value.ref a), l1, l2, l3, l4] (Value.ref a :: st) h Q := wp_aload (show (lcode 52)[41]? = some (.aload 0) by decide +kernel) rfl
theorem x52_42 : WP d 52 42 [l0, some (vI x), l2, l3, l4] st h Q ↔ WP d 52 43 [l0, some (vI x), l2, l3, l4] (vI x :: st) h Q := wp_iload (show (lcode 52)[42]? = some (.iload 1) by decide +kernel) rfl
theorem x52_43 : WP d 52 43 [l0, l1, some (vI x), l3, l4] st h Q ↔ WP d 52 44 [l0, l1, some (vI x), l3, l4] (vI x :: st) h Q := wp_iload (show (lcode 52)[43]? = some (.iload 2) by decide +kernel) rfl
theorem x52_44 : WP d 52 44 [l0, l1, l2, l3, l4] (v2 :: v1 :: v :: st) h Q ↔ (sh st ∧ CALL d 53 [v, v1, v2] h (fun v h => WP d 52 45 [l0, l1, l2, l3, l4] (v.toList ++ st) h Q)) := wp_call (n := 3) (show (lcode 52)[44]? = some (.invokestatic 53) by decide +kernel) (by decide +kernel) (by simp)
theorem x52_45 : WP d 52 45 [l0, some (vI x), l2, l3, l4] st h Q ↔ WP d 52 46 [l0, some (vI x), l2, l3, l4] (vI x :: st) h Q := wp_iload (show (lcode 52)[45]? = some (.iload 1) by decide +kernel) rfl
theorem x52_46 : WP d 52 46 [l0, l1, l2, l3, l4] st h Q ↔ WP d 52 47 [l0, l1, l2, l3, l4] (vI 1 :: st) h Q := wp_iconst (show (lcode 52)[46]? = some (.iconst 1) by decide +kernel)
theorem x52_47 : WP d 52 47 [l0, l1, l2, l3, l4] (vI y :: vI x :: st) h Q ↔ WP d 52 48 [l0, l1, l2, l3, l4] (vI (x + y) :: st) h Q := wp_iadd (show (lcode 52)[47]? = some (.iadd) by decide +kernel)
theorem x52_48 : WP d 52 48 [l0, l1, l2, l3, l4] (vI x :: st) h Q ↔ (nl l2 ∧ WP d 52 49 [l0, l1, l2, some (vI x), l4] st h Q) := wp_istore (show (lcode 52)[48]? = some (.istore 3) by decide +kernel) (Nat.le_of_ble_eq_true rfl)
theorem x52_49 : WP d 52 49 [some (Value.ref a), l1, l2, l3, l4] st h Q ↔ WP d 52 50 [some (Value.ref a), l1, l2, l3, l4] (Value.ref a :: st) h Q := wp_aload (show (lcode 52)[49]? = some (.aload 0) by decide +kernel) rfl
theorem x52_50 : WP d 52 50 [l0, l1, l2, l3, l4] (.ref a :: st) h Q ↔ gF (hRd h a) 6 1 (fun v => WP d 52 51 [l0, l1, l2, l3, l4] (v :: st) h Q) := wp_getfield (show (lcode 52)[50]? = some (.getfield 385) by decide +kernel)
theorem x52_51 : WP d 52 51 [l0, l1, l2, l3, l4] st h Q ↔ WP d 52 52 [l0, l1, l2, l3, l4] (vI 1 :: st) h Q := wp_iconst (show (lcode 52)[51]? = some (.iconst 1) by decide +kernel)
theorem x52_52 : WP d 52 52 [l0, l1, l2, l3, l4] (vI y :: vI x :: st) h Q ↔ WP d 52 53 [l0, l1, l2, l3, l4] (vI (x - y) :: st) h Q := wp_isub (show (lcode 52)[52]? = some (.isub) by decide +kernel)
theorem x52_53 : WP d 52 53 [l0, l1, l2, l3, l4] (vI x :: st) h Q ↔ (nl l3 ∧ WP d 52 54 [l0, l1, l2, l3, some (vI x)] st h Q) := wp_istore (show (lcode 52)[53]? = some (.istore 4) by decide +kernel) (Nat.le_of_ble_eq_true rfl)
theorem x52_54 : WP d 52 54 [l0, l1, l2, l3, l4] st h Q ↔ WPC d 52 55 [l0, l1, l2, l3, l4] st h Q := wp_nop (show (lcode 52)[54]? = some (.nop) by decide +kernel)
theorem x52_55 : WP d 52 55 [l0, l1, l2, some (vI x), l4] st h Q ↔ WP d 52 56 [l0, l1, l2, some (vI x), l4] (vI x :: st) h Q := wp_iload (show (lcode 52)[55]? = some (.iload 3) by decide +kernel) rfl
theorem x52_56 : WP d 52 56 [l0, l1, l2, l3, some (vI x)] st h Q ↔ WP d 52 57 [l0, l1, l2, l3, some (vI x)] (vI x :: st) h Q := wp_iload (show (lcode 52)[56]? = some (.iload 4) by decide +kernel) rfl
theorem x52_57 : WP d 52 57 [l0, l1, l2, l3, l4] (vI y :: vI x :: st) h Q ↔ ((wr y ≤ wr x → WP d 52 65 [l0, l1, l2, l3, l4] st h Q) ∧ (¬ (wr y ≤ wr x) → WP d 52 58 [l0, l1, l2, l3, l4] st h Q)) := wp_icmp_ge (show (lcode 52)[57]? = some (.if_icmp .ge 65) by decide +kernel)
theorem x52_58 : WP d 52 58 [some (Value.ref a), l1, l2, l3, l4] st h Q ↔ WP d 52 59 [some (Value.ref a), l1, l2, l3, l4] (Value.ref a :: st) h Q := wp_aload (show (lcode 52)[58]? = some (.aload 0) by decide +kernel) rfl
theorem x52_59 : WP d 52 59 [l0, l1, l2, some (vI x), l4] st h Q ↔ WP d 52 60 [l0, l1, l2, some (vI x), l4] (vI x :: st) h Q := wp_iload (show (lcode 52)[59]? = some (.iload 3) by decide +kernel) rfl
theorem x52_60 : WP d 52 60 [l0, l1, l2, l3, some (vI x)] st h Q ↔ WP d 52 61 [l0, l1, l2, l3, some (vI x)] (vI x :: st) h Q := wp_iload (show (lcode 52)[60]? = some (.iload 4) by decide +kernel) rfl
theorem x52_61 : WP d 52 61 [l0, l1, l2, l3, l4] (v2 :: v1 :: v :: st) h Q ↔ (sh st ∧ CALL d 53 [v, v1, v2] h (fun v h => WP d 52 62 [l0, l1, l2, l3, l4] (v.toList ++ st) h Q)) := wp_call (n := 3) (show (lcode 52)[61]? = some (.invokestatic 53) by decide +kernel) (by decide +kernel) (by simp)
theorem x52_62 : WP d 52 62 [l0, l1, l2, some (vI x), l4] st h Q ↔ (nl l2 ∧ WP d 52 63 [l0, l1, l2, some (vI (x + 1)), l4] st h Q) := wp_iinc (show (lcode 52)[62]? = some (.iinc 3 1) by decide +kernel) rfl (Nat.le_of_ble_eq_true rfl)
theorem x52_63 : WP d 52 63 [l0, l1, l2, l3, some (vI x)] st h Q ↔ (nl l3 ∧ WP d 52 64 [l0, l1, l2, l3, some (vI (x + (-1)))] st h Q) := wp_iinc (show (lcode 52)[63]? = some (.iinc 4 (-1)) by decide +kernel) rfl (Nat.le_of_ble_eq_true rfl)
theorem x52_64 : WP d 52 64 [l0, l1, l2, l3, l4] st h Q ↔ WP d 52 54 [l0, l1, l2, l3, l4] st h Q := wp_goto (show (lcode 52)[64]? = some (.goto 54) by decide +kernel)
theorem x52_65 : WP d 52 65 [l0, l1, l2, l3, l4] st h Q ↔ WP d 52 66 [l0, l1, l2, l3, l4] (vI 1 :: st) h Q := wp_iconst (show (lcode 52)[65]? = some (.iconst 1) by decide +kernel)
theorem x52_66 : WP d 52 66 [l0, l1, l2, l3, l4] [vI x] h Q ↔ ((Int32.ofInt x = 0 ∨ Int32.ofInt x = 1) ∧ Q (some (vI x)) h) := wp_areturn (show (lcode 52)[66]? = some (.areturn) by decide +kernel)
-- 53: WakeOrder$Row.swap
theorem x53_0 : WP d 53 0 [some (Value.ref a), l1, l2, l3] st h Q ↔ WP d 53 1 [some (Value.ref a), l1, l2, l3] (Value.ref a :: st) h Q := wp_aload (show (lcode 53)[0]? = some (.aload 0) by decide +kernel) rfl
theorem x53_1 : WP d 53 1 [l0, l1, l2, l3] (.ref a :: st) h Q ↔ gF (hRd h a) 6 0 (fun v => WP d 53 2 [l0, l1, l2, l3] (v :: st) h Q) := wp_getfield (show (lcode 53)[1]? = some (.getfield 384) by decide +kernel)
theorem x53_2 : WP d 53 2 [l0, some (vI x), l2, l3] st h Q ↔ WP d 53 3 [l0, some (vI x), l2, l3] (vI x :: st) h Q := wp_iload (show (lcode 53)[2]? = some (.iload 1) by decide +kernel) rfl
theorem x53_3 : WP d 53 3 [l0, l1, l2, l3] (v1 :: v :: st) h Q ↔ (sh st ∧ CALL d 106 [v, v1] h (fun v h => WP d 53 4 [l0, l1, l2, l3] (v.toList ++ st) h Q)) := wp_call (n := 2) (show (lcode 53)[3]? = some (.invokestatic 106) by decide +kernel) (by decide +kernel) (by simp)
theorem x53_4 : WP d 53 4 [l0, l1, l2, l3] (vI x :: st) h Q ↔ ((wr x = 0 → WP d 53 28 [l0, l1, l2, l3] st h Q) ∧ (¬ (wr x = 0) → WP d 53 5 [l0, l1, l2, l3] st h Q)) := wp_if_eq (show (lcode 53)[4]? = some (.ifCond .eq 28) by decide +kernel)
theorem x53_5 : WP d 53 5 [some (Value.ref a), l1, l2, l3] st h Q ↔ WP d 53 6 [some (Value.ref a), l1, l2, l3] (Value.ref a :: st) h Q := wp_aload (show (lcode 53)[5]? = some (.aload 0) by decide +kernel) rfl
theorem x53_6 : WP d 53 6 [l0, l1, l2, l3] (.ref a :: st) h Q ↔ gF (hRd h a) 6 0 (fun v => WP d 53 7 [l0, l1, l2, l3] (v :: st) h Q) := wp_getfield (show (lcode 53)[6]? = some (.getfield 384) by decide +kernel)
theorem x53_7 : WP d 53 7 [l0, l1, some (vI x), l3] st h Q ↔ WP d 53 8 [l0, l1, some (vI x), l3] (vI x :: st) h Q := wp_iload (show (lcode 53)[7]? = some (.iload 2) by decide +kernel) rfl
theorem x53_8 : WP d 53 8 [l0, l1, l2, l3] (v1 :: v :: st) h Q ↔ (sh st ∧ CALL d 106 [v, v1] h (fun v h => WP d 53 9 [l0, l1, l2, l3] (v.toList ++ st) h Q)) := wp_call (n := 2) (show (lcode 53)[8]? = some (.invokestatic 106) by decide +kernel) (by decide +kernel) (by simp)
theorem x53_9 : WP d 53 9 [l0, l1, l2, l3] (vI x :: st) h Q ↔ ((wr x = 0 → WP d 53 28 [l0, l1, l2, l3] st h Q) ∧ (¬ (wr x = 0) → WP d 53 10 [l0, l1, l2, l3] st h Q)) := wp_if_eq (show (lcode 53)[9]? = some (.ifCond .eq 28) by decide +kernel)
theorem x53_10 : WP d 53 10 [some (Value.ref a), l1, l2, l3] st h Q ↔ WP d 53 11 [some (Value.ref a), l1, l2, l3] (Value.ref a :: st) h Q := wp_aload (show (lcode 53)[10]? = some (.aload 0) by decide +kernel) rfl
theorem x53_11 : WP d 53 11 [l0, l1, l2, l3] (.ref a :: st) h Q ↔ gF (hRd h a) 6 0 (fun v => WP d 53 12 [l0, l1, l2, l3] (v :: st) h Q) := wp_getfield (show (lcode 53)[11]? = some (.getfield 384) by decide +kernel)
theorem x53_12 : WP d 53 12 [l0, some (vI x), l2, l3] st h Q ↔ WP d 53 13 [l0, some (vI x), l2, l3] (vI x :: st) h Q := wp_iload (show (lcode 53)[12]? = some (.iload 1) by decide +kernel) rfl
theorem x53_13 : WP d 53 13 [l0, l1, l2, l3] (vI x :: .ref a :: st) h Q ↔ ldA (hRd h a) x (fun v => WP d 53 14 [l0, l1, l2, l3] (v :: st) h Q) := wp_iaload (show (lcode 53)[13]? = some (.iaload) by decide +kernel)
theorem x53_14 : WP d 53 14 [l0, l1, l2, l3] (vI x :: st) h Q ↔ (nl l2 ∧ WP d 53 15 [l0, l1, l2, some (vI x)] st h Q) := wp_istore (show (lcode 53)[14]? = some (.istore 3) by decide +kernel) (Nat.le_of_ble_eq_true rfl)
theorem x53_15 : WP d 53 15 [some (Value.ref a), l1, l2, l3] st h Q ↔ WP d 53 16 [some (Value.ref a), l1, l2, l3] (Value.ref a :: st) h Q := wp_aload (show (lcode 53)[15]? = some (.aload 0) by decide +kernel) rfl
theorem x53_16 : WP d 53 16 [l0, l1, l2, l3] (.ref a :: st) h Q ↔ gF (hRd h a) 6 0 (fun v => WP d 53 17 [l0, l1, l2, l3] (v :: st) h Q) := wp_getfield (show (lcode 53)[16]? = some (.getfield 384) by decide +kernel)
theorem x53_17 : WP d 53 17 [l0, some (vI x), l2, l3] st h Q ↔ WP d 53 18 [l0, some (vI x), l2, l3] (vI x :: st) h Q := wp_iload (show (lcode 53)[17]? = some (.iload 1) by decide +kernel) rfl
theorem x53_18 : WP d 53 18 [some (Value.ref a), l1, l2, l3] st h Q ↔ WP d 53 19 [some (Value.ref a), l1, l2, l3] (Value.ref a :: st) h Q := wp_aload (show (lcode 53)[18]? = some (.aload 0) by decide +kernel) rfl
theorem x53_19 : WP d 53 19 [l0, l1, l2, l3] (.ref a :: st) h Q ↔ gF (hRd h a) 6 0 (fun v => WP d 53 20 [l0, l1, l2, l3] (v :: st) h Q) := wp_getfield (show (lcode 53)[19]? = some (.getfield 384) by decide +kernel)
theorem x53_20 : WP d 53 20 [l0, l1, some (vI x), l3] st h Q ↔ WP d 53 21 [l0, l1, some (vI x), l3] (vI x :: st) h Q := wp_iload (show (lcode 53)[20]? = some (.iload 2) by decide +kernel) rfl
theorem x53_21 : WP d 53 21 [l0, l1, l2, l3] (vI x :: .ref a :: st) h Q ↔ ldA (hRd h a) x (fun v => WP d 53 22 [l0, l1, l2, l3] (v :: st) h Q) := wp_iaload (show (lcode 53)[21]? = some (.iaload) by decide +kernel)
theorem x53_22 : WP d 53 22 [l0, l1, l2, l3] (vI y :: vI x :: .ref a :: st) h Q ↔ stA (hRd h a) a x (vI y) (fun c => WP d 53 23 [l0, l1, l2, l3] st (hWr h a c) Q) := wp_iastore (show (lcode 53)[22]? = some (.iastore) by decide +kernel)
theorem x53_23 : WP d 53 23 [some (Value.ref a), l1, l2, l3] st h Q ↔ WP d 53 24 [some (Value.ref a), l1, l2, l3] (Value.ref a :: st) h Q := wp_aload (show (lcode 53)[23]? = some (.aload 0) by decide +kernel) rfl
theorem x53_24 : WP d 53 24 [l0, l1, l2, l3] (.ref a :: st) h Q ↔ gF (hRd h a) 6 0 (fun v => WP d 53 25 [l0, l1, l2, l3] (v :: st) h Q) := wp_getfield (show (lcode 53)[24]? = some (.getfield 384) by decide +kernel)
theorem x53_25 : WP d 53 25 [l0, l1, some (vI x), l3] st h Q ↔ WP d 53 26 [l0, l1, some (vI x), l3] (vI x :: st) h Q := wp_iload (show (lcode 53)[25]? = some (.iload 2) by decide +kernel) rfl
theorem x53_26 : WP d 53 26 [l0, l1, l2, some (vI x)] st h Q ↔ WP d 53 27 [l0, l1, l2, some (vI x)] (vI x :: st) h Q := wp_iload (show (lcode 53)[26]? = some (.iload 3) by decide +kernel) rfl
theorem x53_27 : WP d 53 27 [l0, l1, l2, l3] (vI y :: vI x :: .ref a :: st) h Q ↔ stA (hRd h a) a x (vI y) (fun c => WP d 53 28 [l0, l1, l2, l3] st (hWr h a c) Q) := wp_iastore (show (lcode 53)[27]? = some (.iastore) by decide +kernel)
theorem x53_28 : WP d 53 28 [l0, l1, l2, l3] [] h Q ↔ Q none h := wp_return (show (lcode 53)[28]? = some (.return_) by decide +kernel)
-- 54: WakeOrder$State.<init>
theorem x54_0 : WP d 54 0 [some (Value.ref a)] st h Q ↔ WP d 54 1 [some (Value.ref a)] (Value.ref a :: st) h Q := wp_aload (show (lcode 54)[0]? = some (.aload 0) by decide +kernel) rfl
theorem x54_1 : WP d 54 1 [l0] (.ref a :: st) h Q ↔ ((sd d ∧ sh st) ∧ WP d 54 2 [l0] st h Q) := wp_pop (show (lcode 54)[1]? = some (.pop) by decide +kernel)
theorem x54_2 : WP d 54 2 [some (Value.ref a)] st h Q ↔ WP d 54 3 [some (Value.ref a)] (Value.ref a :: st) h Q := wp_aload (show (lcode 54)[2]? = some (.aload 0) by decide +kernel) rfl
theorem x54_4 : WP d 54 4 [l0] (v :: st) h Q ↔ (c1 v ∧ WP d 54 5 [l0] (v :: v :: st) h Q) := wp_dup (show (lcode 54)[4]? = some (.dup) by decide +kernel)
theorem x54_5 : WP d 54 5 [l0] (v :: st) h Q ↔ (sh st ∧ CALL d 43 [v] h (fun v h => WP d 54 6 [l0] (v.toList ++ st) h Q)) := wp_call (n := 1) (show (lcode 54)[5]? = some (.invokestatic 43) by decide +kernel) (by decide +kernel) (by simp)
theorem x54_6 : WP d 54 6 [l0] (Value.ref b :: .ref a :: st) h Q ↔ pF (hRd h a) 7 0 (Value.ref b) (fun c => WP d 54 7 [l0] st (hWr h a c) Q) := wp_putstatic (show (lcode 54)[6]? = some (.putstatic 448) by decide +kernel)
theorem x54_7 : WP d 54 7 [some (Value.ref a)] st h Q ↔ WP d 54 8 [some (Value.ref a)] (Value.ref a :: st) h Q := wp_aload (show (lcode 54)[7]? = some (.aload 0) by decide +kernel) rfl
theorem x54_8 : WP d 54 8 [l0] st h Q ↔ WP d 54 9 [l0] (vI 6 :: st) h Q := wp_iconst (show (lcode 54)[8]? = some (.iconst 6) by decide +kernel)
theorem x54_10 : WP d 54 10 [l0] (Value.ref b :: .ref a :: st) h Q ↔ pF (hRd h a) 7 1 (Value.ref b) (fun c => WP d 54 11 [l0] st (hWr h a c) Q) := wp_putstatic (show (lcode 54)[10]? = some (.putstatic 449) by decide +kernel)
theorem x54_11 : WP d 54 11 [some (Value.ref a)] st h Q ↔ WP d 54 12 [some (Value.ref a)] (Value.ref a :: st) h Q := wp_aload (show (lcode 54)[11]? = some (.aload 0) by decide +kernel) rfl
theorem x54_12 : WP d 54 12 [l0] st h Q ↔ WP d 54 13 [l0] (vI 8 :: st) h Q := wp_iconst (show (lcode 54)[12]? = some (.iconst 8) by decide +kernel)
theorem x54_14 : WP d 54 14 [l0] (Value.ref b :: .ref a :: st) h Q ↔ pF (hRd h a) 7 2 (Value.ref b) (fun c => WP d 54 15 [l0] st (hWr h a c) Q) := wp_putstatic (show (lcode 54)[14]? = some (.putstatic 450) by decide +kernel)
theorem x54_15 : WP d 54 15 [l0] [] h Q ↔ Q none h := wp_return (show (lcode 54)[15]? = some (.return_) by decide +kernel)
-- 55: WakeOrder$State.begin
theorem x55_0 : WP d 55 0 [some (Value.ref a), l1] st h Q ↔ WP d 55 1 [some (Value.ref a), l1] (Value.ref a :: st) h Q := wp_aload (show (lcode 55)[0]? = some (.aload 0) by decide +kernel) rfl
theorem x55_1 : WP d 55 1 [l0, l1] (.ref a :: st) h Q ↔ gF (hRd h a) 7 0 (fun v => WP d 55 2 [l0, l1] (v :: st) h Q) := wp_getfield (show (lcode 55)[1]? = some (.getfield 448) by decide +kernel)
theorem x55_2 : WP d 55 2 [l0, some (Value.ref a)] st h Q ↔ WP d 55 3 [l0, some (Value.ref a)] (Value.ref a :: st) h Q := wp_aload (show (lcode 55)[2]? = some (.aload 1) by decide +kernel) rfl
theorem x55_3 : WP d 55 3 [l0, l1] (.ref a :: st) h Q ↔ gF (hRd h a) 2 1 (fun v => WP d 55 4 [l0, l1] (v :: st) h Q) := wp_getfield (show (lcode 55)[3]? = some (.getfield 129) by decide +kernel)
theorem x55_4 : WP d 55 4 [l0, l1] (v :: st) h Q ↔ (sh st ∧ CALL d 101 [v] h (fun v h => WP d 55 5 [l0, l1] (v.toList ++ st) h Q)) := wp_call (n := 1) (show (lcode 55)[4]? = some (.invokestatic 101) by decide +kernel) (by decide +kernel) (by simp)
theorem x55_5 : WP d 55 5 [l0, l1] (v1 :: v :: st) h Q ↔ (sh st ∧ CALL d 48 [v, v1] h (fun v h => WP d 55 6 [l0, l1] (v.toList ++ st) h Q)) := wp_call (n := 2) (show (lcode 55)[5]? = some (.invokestatic 48) by decide +kernel) (by decide +kernel) (by simp)
theorem x55_6 : WP d 55 6 [l0, some (Value.ref a)] st h Q ↔ WP d 55 7 [l0, some (Value.ref a)] (Value.ref a :: st) h Q := wp_aload (show (lcode 55)[6]? = some (.aload 1) by decide +kernel) rfl
theorem x55_7 : WP d 55 7 [l0, l1] (.ref a :: st) h Q ↔ gF (hRd h a) 2 3 (fun v => WP d 55 8 [l0, l1] (v :: st) h Q) := wp_getfield (show (lcode 55)[7]? = some (.getfield 131) by decide +kernel)
theorem x55_8 : WP d 55 8 [l0, l1] st h Q ↔ WP d 55 9 [l0, l1] (vI 0 :: st) h Q := wp_iconst (show (lcode 55)[8]? = some (.iconst 0) by decide +kernel)
theorem x55_9 : WP d 55 9 [some (Value.ref a), l1] st h Q ↔ WP d 55 10 [some (Value.ref a), l1] (Value.ref a :: st) h Q := wp_aload (show (lcode 55)[9]? = some (.aload 0) by decide +kernel) rfl
theorem x55_10 : WP d 55 10 [l0, l1] (.ref a :: st) h Q ↔ gF (hRd h a) 7 1 (fun v => WP d 55 11 [l0, l1] (v :: st) h Q) := wp_getfield (show (lcode 55)[10]? = some (.getfield 449) by decide +kernel)
theorem x55_11 : WP d 55 11 [l0, l1] st h Q ↔ WP d 55 12 [l0, l1] (vI 0 :: st) h Q := wp_iconst (show (lcode 55)[11]? = some (.iconst 0) by decide +kernel)
theorem x55_12 : WP d 55 12 [l0, l1] st h Q ↔ WP d 55 13 [l0, l1] (vI 6 :: st) h Q := wp_iconst (show (lcode 55)[12]? = some (.iconst 6) by decide +kernel)
theorem x55_13 : WP d 55 13 [l0, l1] (vI w :: vI y :: .ref b :: vI x :: .ref a :: st) h Q ↔ ((sd d ∧ sh st) ∧ aC (hRd h a) (hRd h b) a b x y w (fun c => WP d 55 14 [l0, l1] st (hWr h b c) Q)) := wp_arraycopy (show (lcode 55)[13]? = some (.invokedynamic 0) by decide +kernel)
theorem x55_14 : WP d 55 14 [l0, some (Value.ref a)] st h Q ↔ WP d 55 15 [l0, some (Value.ref a)] (Value.ref a :: st) h Q := wp_aload (show (lcode 55)[14]? = some (.aload 1) by decide +kernel) rfl
theorem x55_15 : WP d 55 15 [l0, l1] (.ref a :: st) h Q ↔ gF (hRd h a) 2 5 (fun v => WP d 55 16 [l0, l1] (v :: st) h Q) := wp_getfield (show (lcode 55)[15]? = some (.getfield 133) by decide +kernel)
theorem x55_16 : WP d 55 16 [l0, l1] st h Q ↔ WP d 55 17 [l0, l1] (vI 0 :: st) h Q := wp_iconst (show (lcode 55)[16]? = some (.iconst 0) by decide +kernel)
theorem x55_17 : WP d 55 17 [some (Value.ref a), l1] st h Q ↔ WP d 55 18 [some (Value.ref a), l1] (Value.ref a :: st) h Q := wp_aload (show (lcode 55)[17]? = some (.aload 0) by decide +kernel) rfl
theorem x55_18 : WP d 55 18 [l0, l1] (.ref a :: st) h Q ↔ gF (hRd h a) 7 2 (fun v => WP d 55 19 [l0, l1] (v :: st) h Q) := wp_getfield (show (lcode 55)[18]? = some (.getfield 450) by decide +kernel)
theorem x55_19 : WP d 55 19 [l0, l1] st h Q ↔ WP d 55 20 [l0, l1] (vI 0 :: st) h Q := wp_iconst (show (lcode 55)[19]? = some (.iconst 0) by decide +kernel)
theorem x55_20 : WP d 55 20 [l0, l1] st h Q ↔ WP d 55 21 [l0, l1] (vI 8 :: st) h Q := wp_iconst (show (lcode 55)[20]? = some (.iconst 8) by decide +kernel)
theorem x55_21 : WP d 55 21 [l0, l1] (vI w :: vI y :: .ref b :: vI x :: .ref a :: st) h Q ↔ ((sd d ∧ sh st) ∧ aC (hRd h a) (hRd h b) a b x y w (fun c => WP d 55 22 [l0, l1] st (hWr h b c) Q)) := wp_arraycopy (show (lcode 55)[21]? = some (.invokedynamic 0) by decide +kernel)
theorem x55_22 : WP d 55 22 [some (Value.ref a), l1] st h Q ↔ WP d 55 23 [some (Value.ref a), l1] (Value.ref a :: st) h Q := wp_aload (show (lcode 55)[22]? = some (.aload 0) by decide +kernel) rfl
theorem x55_23 : WP d 55 23 [l0, l1] st h Q ↔ WP d 55 24 [l0, l1] (vI 0 :: st) h Q := wp_iconst (show (lcode 55)[23]? = some (.iconst 0) by decide +kernel)
theorem x55_24 : WP d 55 24 [l0, l1] (vI x :: .ref a :: st) h Q ↔ pF (hRd h a) 7 3 (vI x) (fun c => WP d 55 25 [l0, l1] st (hWr h a c) Q) := wp_putfield (show (lcode 55)[24]? = some (.putfield 451) by decide +kernel)
theorem x55_25 : WP d 55 25 [some (Value.ref a), l1] st h Q ↔ WP d 55 26 [some (Value.ref a), l1] (Value.ref a :: st) h Q := wp_aload (show (lcode 55)[25]? = some (.aload 0) by decide +kernel) rfl
theorem x55_26 : WP d 55 26 [l0, l1] st h Q ↔ WP d 55 27 [l0, l1] (vI 0 :: st) h Q := wp_iconst (show (lcode 55)[26]? = some (.iconst 0) by decide +kernel)
theorem x55_27 : WP d 55 27 [l0, l1] (vI x :: .ref a :: st) h Q ↔ pF (hRd h a) 7 4 (vI x) (fun c => WP d 55 28 [l0, l1] st (hWr h a c) Q) := wp_putfield (show (lcode 55)[27]? = some (.putfield 452) by decide +kernel)
theorem x55_28 : WP d 55 28 [l0, l1] [] h Q ↔ Q none h := wp_return (show (lcode 55)[28]? = some (.return_) by decide +kernel)
-- 56: WakeOrder$State.become
theorem x56_0 : WP d 56 0 [some (Value.ref a), l1] st h Q ↔ WP d 56 1 [some (Value.ref a), l1] (Value.ref a :: st) h Q := wp_aload (show (lcode 56)[0]? = some (.aload 0) by decide +kernel) rfl
theorem x56_1 : WP d 56 1 [l0, l1] (.ref a :: st) h Q ↔ gF (hRd h a) 7 0 (fun v => WP d 56 2 [l0, l1] (v :: st) h Q) := wp_getfield (show (lcode 56)[1]? = some (.getfield 448) by decide +kernel)
theorem x56_2 : WP d 56 2 [l0, some (Value.ref a)] st h Q ↔ WP d 56 3 [l0, some (Value.ref a)] (Value.ref a :: st) h Q := wp_aload (show (lcode 56)[2]? = some (.aload 1) by decide +kernel) rfl
theorem x56_3 : WP d 56 3 [l0, l1] (.ref a :: st) h Q ↔ gF (hRd h a) 7 0 (fun v => WP d 56 4 [l0, l1] (v :: st) h Q) := wp_getfield (show (lcode 56)[3]? = some (.getfield 448) by decide +kernel)
theorem x56_4 : WP d 56 4 [l0, l1] (v1 :: v :: st) h Q ↔ (sh st ∧ CALL d 47 [v, v1] h (fun v h => WP d 56 5 [l0, l1] (v.toList ++ st) h Q)) := wp_call (n := 2) (show (lcode 56)[4]? = some (.invokestatic 47) by decide +kernel) (by decide +kernel) (by simp)
theorem x56_5 : WP d 56 5 [l0, some (Value.ref a)] st h Q ↔ WP d 56 6 [l0, some (Value.ref a)] (Value.ref a :: st) h Q := wp_aload (show (lcode 56)[5]? = some (.aload 1) by decide +kernel) rfl
theorem x56_6 : WP d 56 6 [l0, l1] (.ref a :: st) h Q ↔ gF (hRd h a) 7 1 (fun v => WP d 56 7 [l0, l1] (v :: st) h Q) := wp_getfield (show (lcode 56)[6]? = some (.getfield 449) by decide +kernel)
theorem x56_7 : WP d 56 7 [l0, l1] st h Q ↔ WP d 56 8 [l0, l1] (vI 0 :: st) h Q := wp_iconst (show (lcode 56)[7]? = some (.iconst 0) by decide +kernel)
theorem x56_8 : WP d 56 8 [some (Value.ref a), l1] st h Q ↔ WP d 56 9 [some (Value.ref a), l1] (Value.ref a :: st) h Q := wp_aload (show (lcode 56)[8]? = some (.aload 0) by decide +kernel) rfl
theorem x56_9 : WP d 56 9 [l0, l1] (.ref a :: st) h Q ↔ gF (hRd h a) 7 1 (fun v => WP d 56 10 [l0, l1] (v :: st) h Q) := wp_getfield (show (lcode 56)[9]? = some (.getfield 449) by decide +kernel)
theorem x56_10 : WP d 56 10 [l0, l1] st h Q ↔ WP d 56 11 [l0, l1] (vI 0 :: st) h Q := wp_iconst (show (lcode 56)[10]? = some (.iconst 0) by decide +kernel)
theorem x56_11 : WP d 56 11 [l0, l1] st h Q ↔ WP d 56 12 [l0, l1] (vI 6 :: st) h Q := wp_iconst (show (lcode 56)[11]? = some (.iconst 6) by decide +kernel)
theorem x56_12 : WP d 56 12 [l0, l1] (vI w :: vI y :: .ref b :: vI x :: .ref a :: st) h Q ↔ ((sd d ∧ sh st) ∧ aC (hRd h a) (hRd h b) a b x y w (fun c => WP d 56 13 [l0, l1] st (hWr h b c) Q)) := wp_arraycopy (show (lcode 56)[12]? = some (.invokedynamic 0) by decide +kernel)
theorem x56_13 : WP d 56 13 [l0, some (Value.ref a)] st h Q ↔ WP d 56 14 [l0, some (Value.ref a)] (Value.ref a :: st) h Q := wp_aload (show (lcode 56)[13]? = some (.aload 1) by decide +kernel) rfl
theorem x56_14 : WP d 56 14 [l0, l1] (.ref a :: st) h Q ↔ gF (hRd h a) 7 2 (fun v => WP d 56 15 [l0, l1] (v :: st) h Q) := wp_getfield (show (lcode 56)[14]? = some (.getfield 450) by decide +kernel)
theorem x56_15 : WP d 56 15 [l0, l1] st h Q ↔ WP d 56 16 [l0, l1] (vI 0 :: st) h Q := wp_iconst (show (lcode 56)[15]? = some (.iconst 0) by decide +kernel)
theorem x56_16 : WP d 56 16 [some (Value.ref a), l1] st h Q ↔ WP d 56 17 [some (Value.ref a), l1] (Value.ref a :: st) h Q := wp_aload (show (lcode 56)[16]? = some (.aload 0) by decide +kernel) rfl
theorem x56_17 : WP d 56 17 [l0, l1] (.ref a :: st) h Q ↔ gF (hRd h a) 7 2 (fun v => WP d 56 18 [l0, l1] (v :: st) h Q) := wp_getfield (show (lcode 56)[17]? = some (.getfield 450) by decide +kernel)
theorem x56_18 : WP d 56 18 [l0, l1] st h Q ↔ WP d 56 19 [l0, l1] (vI 0 :: st) h Q := wp_iconst (show (lcode 56)[18]? = some (.iconst 0) by decide +kernel)
theorem x56_19 : WP d 56 19 [l0, l1] st h Q ↔ WP d 56 20 [l0, l1] (vI 8 :: st) h Q := wp_iconst (show (lcode 56)[19]? = some (.iconst 8) by decide +kernel)
theorem x56_20 : WP d 56 20 [l0, l1] (vI w :: vI y :: .ref b :: vI x :: .ref a :: st) h Q ↔ ((sd d ∧ sh st) ∧ aC (hRd h a) (hRd h b) a b x y w (fun c => WP d 56 21 [l0, l1] st (hWr h b c) Q)) := wp_arraycopy (show (lcode 56)[20]? = some (.invokedynamic 0) by decide +kernel)
theorem x56_21 : WP d 56 21 [some (Value.ref a), l1] st h Q ↔ WP d 56 22 [some (Value.ref a), l1] (Value.ref a :: st) h Q := wp_aload (show (lcode 56)[21]? = some (.aload 0) by decide +kernel) rfl
theorem x56_22 : WP d 56 22 [l0, some (Value.ref a)] st h Q ↔ WP d 56 23 [l0, some (Value.ref a)] (Value.ref a :: st) h Q := wp_aload (show (lcode 56)[22]? = some (.aload 1) by decide +kernel) rfl
theorem x56_23 : WP d 56 23 [l0, l1] (.ref a :: st) h Q ↔ gF (hRd h a) 7 3 (fun v => WP d 56 24 [l0, l1] (v :: st) h Q) := wp_getfield (show (lcode 56)[23]? = some (.getfield 451) by decide +kernel)
theorem x56_24 : WP d 56 24 [l0, l1] (vI x :: .ref a :: st) h Q ↔ pF (hRd h a) 7 3 (vI x) (fun c => WP d 56 25 [l0, l1] st (hWr h a c) Q) := wp_putfield (show (lcode 56)[24]? = some (.putfield 451) by decide +kernel)
theorem x56_25 : WP d 56 25 [some (Value.ref a), l1] st h Q ↔ WP d 56 26 [some (Value.ref a), l1] (Value.ref a :: st) h Q := wp_aload (show (lcode 56)[25]? = some (.aload 0) by decide +kernel) rfl
theorem x56_26 : WP d 56 26 [l0, some (Value.ref a)] st h Q ↔ WP d 56 27 [l0, some (Value.ref a)] (Value.ref a :: st) h Q := wp_aload (show (lcode 56)[26]? = some (.aload 1) by decide +kernel) rfl
theorem x56_27 : WP d 56 27 [l0, l1] (.ref a :: st) h Q ↔ gF (hRd h a) 7 4 (fun v => WP d 56 28 [l0, l1] (v :: st) h Q) := wp_getfield (show (lcode 56)[27]? = some (.getfield 452) by decide +kernel)
theorem x56_28 : WP d 56 28 [l0, l1] (vI x :: .ref a :: st) h Q ↔ pF (hRd h a) 7 4 (vI x) (fun c => WP d 56 29 [l0, l1] st (hWr h a c) Q) := wp_putfield (show (lcode 56)[28]? = some (.putfield 452) by decide +kernel)
theorem x56_29 : WP d 56 29 [l0, l1] [] h Q ↔ Q none h := wp_return (show (lcode 56)[29]? = some (.return_) by decide +kernel)
-- 57: WakeOrder$Trials.<init>
theorem x57_0 : WP d 57 0 [some (Value.ref a)] st h Q ↔ WP d 57 1 [some (Value.ref a)] (Value.ref a :: st) h Q := wp_aload (show (lcode 57)[0]? = some (.aload 0) by decide +kernel) rfl
theorem x57_1 : WP d 57 1 [l0] (.ref a :: st) h Q ↔ ((sd d ∧ sh st) ∧ WP d 57 2 [l0] st h Q) := wp_pop (show (lcode 57)[1]? = some (.pop) by decide +kernel)
theorem x57_2 : WP d 57 2 [some (Value.ref a)] st h Q ↔ WP d 57 3 [some (Value.ref a)] (Value.ref a :: st) h Q := wp_aload (show (lcode 57)[2]? = some (.aload 0) by decide +kernel) rfl
theorem x57_4 : WP d 57 4 [l0] (v :: st) h Q ↔ (c1 v ∧ WP d 57 5 [l0] (v :: v :: st) h Q) := wp_dup (show (lcode 57)[4]? = some (.dup) by decide +kernel)
theorem x57_5 : WP d 57 5 [l0] (v :: st) h Q ↔ (sh st ∧ CALL d 43 [v] h (fun v h => WP d 57 6 [l0] (v.toList ++ st) h Q)) := wp_call (n := 1) (show (lcode 57)[5]? = some (.invokestatic 43) by decide +kernel) (by decide +kernel) (by simp)
theorem x57_6 : WP d 57 6 [l0] (Value.ref b :: .ref a :: st) h Q ↔ pF (hRd h a) 8 0 (Value.ref b) (fun c => WP d 57 7 [l0] st (hWr h a c) Q) := wp_putstatic (show (lcode 57)[6]? = some (.putstatic 512) by decide +kernel)
theorem x57_7 : WP d 57 7 [some (Value.ref a)] st h Q ↔ WP d 57 8 [some (Value.ref a)] (Value.ref a :: st) h Q := wp_aload (show (lcode 57)[7]? = some (.aload 0) by decide +kernel) rfl
theorem x57_9 : WP d 57 9 [l0] (v :: st) h Q ↔ (c1 v ∧ WP d 57 10 [l0] (v :: v :: st) h Q) := wp_dup (show (lcode 57)[9]? = some (.dup) by decide +kernel)
theorem x57_10 : WP d 57 10 [l0] (v :: st) h Q ↔ (sh st ∧ CALL d 43 [v] h (fun v h => WP d 57 11 [l0] (v.toList ++ st) h Q)) := wp_call (n := 1) (show (lcode 57)[10]? = some (.invokestatic 43) by decide +kernel) (by decide +kernel) (by simp)
theorem x57_11 : WP d 57 11 [l0] (Value.ref b :: .ref a :: st) h Q ↔ pF (hRd h a) 8 1 (Value.ref b) (fun c => WP d 57 12 [l0] st (hWr h a c) Q) := wp_putstatic (show (lcode 57)[11]? = some (.putstatic 513) by decide +kernel)
theorem x57_12 : WP d 57 12 [l0] [] h Q ↔ Q none h := wp_return (show (lcode 57)[12]? = some (.return_) by decide +kernel)
end

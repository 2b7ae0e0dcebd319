-- one rewriting rule an instruction: by program (wip/whole/xgen.py)
section
variable {d : Nat} {h : LHeap} {st : List Value} {Q : Option Value → LHeap → Prop} {x y w : Int} {a b u : Nat} {v v1 v2 v3 q0 q1 q2 q3 q4 q5 : Value} {v0 l0 l1 l2 l3 l4 l5 l6 l7 l8 : Option Value}
-- 116: WakeOrderModel.here
theorem x116_0 : WP d 116 0 [l0] st h Q ↔ WPC d 116 1 [l0] st h Q := wp_nop (show (lcode 116)[0]? = some (.nop) by decide +kernel)
theorem x116_1 : WP d 116 1 [some (Value.ref a)] st h Q ↔ WP d 116 2 [some (Value.ref a)] (Value.ref a :: st) h Q := wp_aload (show (lcode 116)[1]? = some (.aload 0) by decide +kernel) rfl
theorem x116_2 : WP d 116 2 [l0] (.ref a :: st) h Q ↔ gF (hRd h a) 11 11 (fun v => WP d 116 3 [l0] (v :: st) h Q) := wp_getfield (show (lcode 116)[2]? = some (.getfield 715) by decide +kernel)
theorem x116_3 : WP d 116 3 [some (Value.ref a)] st h Q ↔ WP d 116 4 [some (Value.ref a)] (Value.ref a :: st) h Q := wp_aload (show (lcode 116)[3]? = some (.aload 0) by decide +kernel) rfl
theorem x116_4 : WP d 116 4 [l0] (.ref a :: st) h Q ↔ gF (hRd h a) 11 9 (fun v => WP d 116 5 [l0] (v :: st) h Q) := wp_getfield (show (lcode 116)[4]? = some (.getfield 713) by decide +kernel)
theorem x116_5 : WP d 116 5 [l0] (vI y :: vI x :: st) h Q ↔ ((wr y ≤ wr x → WP d 116 20 [l0] st h Q) ∧ (¬ (wr y ≤ wr x) → WP d 116 6 [l0] st h Q)) := wp_icmp_ge (show (lcode 116)[5]? = some (.if_icmp .ge 20) by decide +kernel)
theorem x116_6 : WP d 116 6 [some (Value.ref a)] st h Q ↔ WP d 116 7 [some (Value.ref a)] (Value.ref a :: st) h Q := wp_aload (show (lcode 116)[6]? = some (.aload 0) by decide +kernel) rfl
theorem x116_7 : WP d 116 7 [l0] (.ref a :: st) h Q ↔ gF (hRd h a) 11 8 (fun v => WP d 116 8 [l0] (v :: st) h Q) := wp_getfield (show (lcode 116)[7]? = some (.getfield 712) by decide +kernel)
theorem x116_8 : WP d 116 8 [some (Value.ref a)] st h Q ↔ WP d 116 9 [some (Value.ref a)] (Value.ref a :: st) h Q := wp_aload (show (lcode 116)[8]? = some (.aload 0) by decide +kernel) rfl
theorem x116_9 : WP d 116 9 [l0] (.ref a :: st) h Q ↔ gF (hRd h a) 11 11 (fun v => WP d 116 10 [l0] (v :: st) h Q) := wp_getfield (show (lcode 116)[9]? = some (.getfield 715) by decide +kernel)
theorem x116_10 : WP d 116 10 [l0] (vI x :: .ref a :: st) h Q ↔ ldA (hRd h a) x (fun v => WP d 116 11 [l0] (v :: st) h Q) := wp_iaload (show (lcode 116)[10]? = some (.iaload) by decide +kernel)
theorem x116_11 : WP d 116 11 [l0] st h Q ↔ WP d 116 12 [l0] (vI 32 :: st) h Q := wp_iconst (show (lcode 116)[11]? = some (.iconst 32) by decide +kernel)
theorem x116_12 : WP d 116 12 [l0] (vI y :: vI x :: st) h Q ↔ ((¬ wr x = wr y → WP d 116 20 [l0] st h Q) ∧ (¬ (¬ wr x = wr y) → WP d 116 13 [l0] st h Q)) := wp_icmp_ne (show (lcode 116)[12]? = some (.if_icmp .ne 20) by decide +kernel)
theorem x116_13 : WP d 116 13 [some (Value.ref a)] st h Q ↔ WP d 116 14 [some (Value.ref a)] (Value.ref a :: st) h Q := wp_aload (show (lcode 116)[13]? = some (.aload 0) by decide +kernel) rfl
theorem x116_14 : WP d 116 14 [l0] (v :: st) h Q ↔ (c1 v ∧ WP d 116 15 [l0] (v :: v :: st) h Q) := wp_dup (show (lcode 116)[14]? = some (.dup) by decide +kernel)
theorem x116_15 : WP d 116 15 [l0] (.ref a :: st) h Q ↔ gF (hRd h a) 11 11 (fun v => WP d 116 16 [l0] (v :: st) h Q) := wp_getfield (show (lcode 116)[15]? = some (.getfield 715) by decide +kernel)
theorem x116_16 : WP d 116 16 [l0] st h Q ↔ WP d 116 17 [l0] (vI 1 :: st) h Q := wp_iconst (show (lcode 116)[16]? = some (.iconst 1) by decide +kernel)
theorem x116_17 : WP d 116 17 [l0] (vI y :: vI x :: st) h Q ↔ WP d 116 18 [l0] (vI (x + y) :: st) h Q := wp_iadd (show (lcode 116)[17]? = some (.iadd) by decide +kernel)
theorem x116_18 : WP d 116 18 [l0] (vI x :: .ref a :: st) h Q ↔ pF (hRd h a) 11 11 (vI x) (fun c => WP d 116 19 [l0] st (hWr h a c) Q) := wp_putfield (show (lcode 116)[18]? = some (.putfield 715) by decide +kernel)
theorem x116_19 : WP d 116 19 [l0] st h Q ↔ WP d 116 0 [l0] st h Q := wp_goto (show (lcode 116)[19]? = some (.goto 0) by decide +kernel)
theorem x116_20 : WP d 116 20 [some (Value.ref a)] st h Q ↔ WP d 116 21 [some (Value.ref a)] (Value.ref a :: st) h Q := wp_aload (show (lcode 116)[20]? = some (.aload 0) by decide +kernel) rfl
theorem x116_21 : WP d 116 21 [l0] (.ref a :: st) h Q ↔ gF (hRd h a) 11 11 (fun v => WP d 116 22 [l0] (v :: st) h Q) := wp_getfield (show (lcode 116)[21]? = some (.getfield 715) by decide +kernel)
theorem x116_22 : WP d 116 22 [some (Value.ref a)] st h Q ↔ WP d 116 23 [some (Value.ref a)] (Value.ref a :: st) h Q := wp_aload (show (lcode 116)[22]? = some (.aload 0) by decide +kernel) rfl
theorem x116_23 : WP d 116 23 [l0] (.ref a :: st) h Q ↔ gF (hRd h a) 11 9 (fun v => WP d 116 24 [l0] (v :: st) h Q) := wp_getfield (show (lcode 116)[23]? = some (.getfield 713) by decide +kernel)
theorem x116_24 : WP d 116 24 [l0] (vI y :: vI x :: st) h Q ↔ ((wr y ≤ wr x → WP d 116 31 [l0] st h Q) ∧ (¬ (wr y ≤ wr x) → WP d 116 25 [l0] st h Q)) := wp_icmp_ge (show (lcode 116)[24]? = some (.if_icmp .ge 31) by decide +kernel)
theorem x116_25 : WP d 116 25 [some (Value.ref a)] st h Q ↔ WP d 116 26 [some (Value.ref a)] (Value.ref a :: st) h Q := wp_aload (show (lcode 116)[25]? = some (.aload 0) by decide +kernel) rfl
theorem x116_26 : WP d 116 26 [l0] (.ref a :: st) h Q ↔ gF (hRd h a) 11 8 (fun v => WP d 116 27 [l0] (v :: st) h Q) := wp_getfield (show (lcode 116)[26]? = some (.getfield 712) by decide +kernel)
theorem x116_27 : WP d 116 27 [some (Value.ref a)] st h Q ↔ WP d 116 28 [some (Value.ref a)] (Value.ref a :: st) h Q := wp_aload (show (lcode 116)[27]? = some (.aload 0) by decide +kernel) rfl
theorem x116_28 : WP d 116 28 [l0] (.ref a :: st) h Q ↔ gF (hRd h a) 11 11 (fun v => WP d 116 29 [l0] (v :: st) h Q) := wp_getfield (show (lcode 116)[28]? = some (.getfield 715) by decide +kernel)
theorem x116_29 : WP d 116 29 [l0] (vI x :: .ref a :: st) h Q ↔ ldA (hRd h a) x (fun v => WP d 116 30 [l0] (v :: st) h Q) := wp_iaload (show (lcode 116)[29]? = some (.iaload) by decide +kernel)
theorem x116_30 : WP d 116 30 [l0] st h Q ↔ WP d 116 32 [l0] st h Q := wp_goto (show (lcode 116)[30]? = some (.goto 32) by decide +kernel)
theorem x116_31 : WP d 116 31 [l0] st h Q ↔ WP d 116 32 [l0] (vI (-1) :: st) h Q := wp_iconst (show (lcode 116)[31]? = some (.iconst (-1)) by decide +kernel)
theorem x116_32 : WP d 116 32 [l0] [vI x] h Q ↔ Q (some (vI x)) h := wp_ireturn (show (lcode 116)[32]? = some (.ireturn) by decide +kernel)
-- 117: WakeOrderModel.fails
theorem x117_0 : WP d 117 0 [some (Value.ref a), l1, l2] st h Q ↔ WP d 117 1 [some (Value.ref a), l1, l2] (Value.ref a :: st) h Q := wp_aload (show (lcode 117)[0]? = some (.aload 0) by decide +kernel) rfl
theorem x117_1 : WP d 117 1 [l0, l1, some (vI x)] st h Q ↔ WP d 117 2 [l0, l1, some (vI x)] (vI x :: st) h Q := wp_iload (show (lcode 117)[1]? = some (.iload 2) by decide +kernel) rfl
theorem x117_2 : WP d 117 2 [l0, l1, l2] (vI x :: .ref a :: st) h Q ↔ pF (hRd h a) 11 10 (vI x) (fun c => WP d 117 3 [l0, l1, l2] st (hWr h a c) Q) := wp_putfield (show (lcode 117)[2]? = some (.putfield 714) by decide +kernel)
theorem x117_3 : WP d 117 3 [l0, some (vI x), l2] st h Q ↔ WP d 117 4 [l0, some (vI x), l2] (vI x :: st) h Q := wp_iload (show (lcode 117)[3]? = some (.iload 1) by decide +kernel) rfl
theorem x117_4 : WP d 117 4 [l0, l1, l2] [vI x] h Q ↔ Q (some (vI x)) h := wp_ireturn (show (lcode 117)[4]? = some (.ireturn) by decide +kernel)
-- 118: WakeOrderModel.takeNumber
theorem x118_0 : WP d 118 0 [some (Value.ref a), l1, l2, l3] st h Q ↔ WP d 118 1 [some (Value.ref a), l1, l2, l3] (Value.ref a :: st) h Q := wp_aload (show (lcode 118)[0]? = some (.aload 0) by decide +kernel) rfl
theorem x118_1 : WP d 118 1 [l0, l1, l2, l3] (v :: st) h Q ↔ (sh st ∧ CALL d 116 [v] h (fun v h => WP d 118 2 [l0, l1, l2, l3] (v.toList ++ st) h Q)) := wp_call (n := 1) (show (lcode 118)[1]? = some (.invokestatic 116) by decide +kernel) (by decide +kernel) (by simp)
theorem x118_2 : WP d 118 2 [l0, l1, l2, l3] (vI x :: st) h Q ↔ (nl l2 ∧ WP d 118 3 [l0, l1, l2, some (vI x)] st h Q) := wp_istore (show (lcode 118)[2]? = some (.istore 3) by decide +kernel) (Nat.le_of_ble_eq_true rfl)
theorem x118_3 : WP d 118 3 [l0, l1, l2, some (vI x)] st h Q ↔ WP d 118 4 [l0, l1, l2, some (vI x)] (vI x :: st) h Q := wp_iload (show (lcode 118)[3]? = some (.iload 3) by decide +kernel) rfl
theorem x118_4 : WP d 118 4 [l0, l1, l2, l3] (vI x :: st) h Q ↔ WP d 118 5 [l0, l1, l2, l3] (vL (wr x) :: st) h Q := wp_i2l (show (lcode 118)[4]? = some (.i2l) by decide +kernel)
theorem x118_5 : WP d 118 5 [l0, l1, l2, l3] st h Q ↔ WP d 118 6 [l0, l1, l2, l3] (vL 48 :: st) h Q := wp_lconst (show (lcode 118)[5]? = some (.jsr_w 48) by decide +kernel)
theorem x118_6 : WP d 118 6 [l0, l1, l2, l3] st h Q ↔ WP d 118 7 [l0, l1, l2, l3] (vL 57 :: st) h Q := wp_lconst (show (lcode 118)[6]? = some (.jsr_w 57) by decide +kernel)
theorem x118_7 : WP d 118 7 [l0, l1, l2, l3] (v2 :: v1 :: v :: st) h Q ↔ (sh st ∧ CALL d 110 [v, v1, v2] h (fun v h => WP d 118 8 [l0, l1, l2, l3] (v.toList ++ st) h Q)) := wp_call (n := 3) (show (lcode 118)[7]? = some (.invokestatic 110) by decide +kernel) (by decide +kernel) (by simp)
theorem x118_8 : WP d 118 8 [l0, l1, l2, l3] (vI x :: st) h Q ↔ ((¬ wr x = 0 → WP d 118 15 [l0, l1, l2, l3] st h Q) ∧ (¬ (¬ wr x = 0) → WP d 118 9 [l0, l1, l2, l3] st h Q)) := wp_if_ne (show (lcode 118)[8]? = some (.ifCond .ne 15) by decide +kernel)
theorem x118_9 : WP d 118 9 [some (Value.ref a), l1, l2, l3] st h Q ↔ WP d 118 10 [some (Value.ref a), l1, l2, l3] (Value.ref a :: st) h Q := wp_aload (show (lcode 118)[9]? = some (.aload 0) by decide +kernel) rfl
theorem x118_10 : WP d 118 10 [l0, l1, l2, l3] st h Q ↔ WP d 118 11 [l0, l1, l2, l3] (vI 1 :: st) h Q := wp_iconst (show (lcode 118)[10]? = some (.iconst 1) by decide +kernel)
theorem x118_11 : WP d 118 11 [some (Value.ref a), l1, l2, l3] st h Q ↔ WP d 118 12 [some (Value.ref a), l1, l2, l3] (Value.ref a :: st) h Q := wp_aload (show (lcode 118)[11]? = some (.aload 0) by decide +kernel) rfl
theorem x118_12 : WP d 118 12 [l0, l1, l2, l3] (.ref a :: st) h Q ↔ gF (hRd h a) 11 11 (fun v => WP d 118 13 [l0, l1, l2, l3] (v :: st) h Q) := wp_getfield (show (lcode 118)[12]? = some (.getfield 715) by decide +kernel)
theorem x118_13 : WP d 118 13 [l0, l1, l2, l3] (v2 :: v1 :: v :: st) h Q ↔ (sh st ∧ CALL d 117 [v, v1, v2] h (fun v h => WP d 118 14 [l0, l1, l2, l3] (v.toList ++ st) h Q)) := wp_call (n := 3) (show (lcode 118)[13]? = some (.invokestatic 117) by decide +kernel) (by decide +kernel) (by simp)
theorem x118_14 : WP d 118 14 [l0, l1, l2, l3] [vI x] h Q ↔ Q (some (vI x)) h := wp_ireturn (show (lcode 118)[14]? = some (.ireturn) by decide +kernel)
theorem x118_15 : WP d 118 15 [some (Value.ref a), l1, l2, l3] st h Q ↔ WP d 118 16 [some (Value.ref a), l1, l2, l3] (Value.ref a :: st) h Q := wp_aload (show (lcode 118)[15]? = some (.aload 0) by decide +kernel) rfl
theorem x118_16 : WP d 118 16 [some (Value.ref a), l1, l2, l3] st h Q ↔ WP d 118 17 [some (Value.ref a), l1, l2, l3] (Value.ref a :: st) h Q := wp_aload (show (lcode 118)[16]? = some (.aload 0) by decide +kernel) rfl
theorem x118_17 : WP d 118 17 [l0, l1, l2, l3] (.ref a :: st) h Q ↔ gF (hRd h a) 11 11 (fun v => WP d 118 18 [l0, l1, l2, l3] (v :: st) h Q) := wp_getfield (show (lcode 118)[17]? = some (.getfield 715) by decide +kernel)
theorem x118_18 : WP d 118 18 [l0, l1, l2, l3] (vI x :: .ref a :: st) h Q ↔ pF (hRd h a) 11 13 (vI x) (fun c => WP d 118 19 [l0, l1, l2, l3] st (hWr h a c) Q) := wp_putfield (show (lcode 118)[18]? = some (.putfield 717) by decide +kernel)
theorem x118_19 : WP d 118 19 [some (Value.ref a), l1, l2, l3] st h Q ↔ WP d 118 20 [some (Value.ref a), l1, l2, l3] (Value.ref a :: st) h Q := wp_aload (show (lcode 118)[19]? = some (.aload 0) by decide +kernel) rfl
theorem x118_20 : WP d 118 20 [l0, l1, l2, l3] st h Q ↔ WP d 118 21 [l0, l1, l2, l3] (vI 0 :: st) h Q := wp_iconst (show (lcode 118)[20]? = some (.iconst 0) by decide +kernel)
theorem x118_21 : WP d 118 21 [l0, l1, l2, l3] (vI x :: .ref a :: st) h Q ↔ pF (hRd h a) 11 12 (vI x) (fun c => WP d 118 22 [l0, l1, l2, l3] st (hWr h a c) Q) := wp_putfield (show (lcode 118)[21]? = some (.putfield 716) by decide +kernel)
theorem x118_22 : WP d 118 22 [l0, l1, l2, l3] st h Q ↔ WPC d 118 23 [l0, l1, l2, l3] st h Q := wp_nop (show (lcode 118)[22]? = some (.nop) by decide +kernel)
theorem x118_23 : WP d 118 23 [some (Value.ref a), l1, l2, l3] st h Q ↔ WP d 118 24 [some (Value.ref a), l1, l2, l3] (Value.ref a :: st) h Q := wp_aload (show (lcode 118)[23]? = some (.aload 0) by decide +kernel) rfl
theorem x118_24 : WP d 118 24 [l0, l1, l2, l3] (.ref a :: st) h Q ↔ gF (hRd h a) 11 11 (fun v => WP d 118 25 [l0, l1, l2, l3] (v :: st) h Q) := wp_getfield (show (lcode 118)[24]? = some (.getfield 715) by decide +kernel)
theorem x118_25 : WP d 118 25 [some (Value.ref a), l1, l2, l3] st h Q ↔ WP d 118 26 [some (Value.ref a), l1, l2, l3] (Value.ref a :: st) h Q := wp_aload (show (lcode 118)[25]? = some (.aload 0) by decide +kernel) rfl
theorem x118_26 : WP d 118 26 [l0, l1, l2, l3] (.ref a :: st) h Q ↔ gF (hRd h a) 11 9 (fun v => WP d 118 27 [l0, l1, l2, l3] (v :: st) h Q) := wp_getfield (show (lcode 118)[26]? = some (.getfield 713) by decide +kernel)
theorem x118_27 : WP d 118 27 [l0, l1, l2, l3] (vI y :: vI x :: st) h Q ↔ ((wr y ≤ wr x → WP d 118 66 [l0, l1, l2, l3] st h Q) ∧ (¬ (wr y ≤ wr x) → WP d 118 28 [l0, l1, l2, l3] st h Q)) := wp_icmp_ge (show (lcode 118)[27]? = some (.if_icmp .ge 66) by decide +kernel)
theorem x118_28 : WP d 118 28 [some (Value.ref a), l1, l2, l3] st h Q ↔ WP d 118 29 [some (Value.ref a), l1, l2, l3] (Value.ref a :: st) h Q := wp_aload (show (lcode 118)[28]? = some (.aload 0) by decide +kernel) rfl
theorem x118_29 : WP d 118 29 [l0, l1, l2, l3] (.ref a :: st) h Q ↔ gF (hRd h a) 11 8 (fun v => WP d 118 30 [l0, l1, l2, l3] (v :: st) h Q) := wp_getfield (show (lcode 118)[29]? = some (.getfield 712) by decide +kernel)
theorem x118_30 : WP d 118 30 [some (Value.ref a), l1, l2, l3] st h Q ↔ WP d 118 31 [some (Value.ref a), l1, l2, l3] (Value.ref a :: st) h Q := wp_aload (show (lcode 118)[30]? = some (.aload 0) by decide +kernel) rfl
theorem x118_31 : WP d 118 31 [l0, l1, l2, l3] (.ref a :: st) h Q ↔ gF (hRd h a) 11 11 (fun v => WP d 118 32 [l0, l1, l2, l3] (v :: st) h Q) := wp_getfield (show (lcode 118)[31]? = some (.getfield 715) by decide +kernel)
theorem x118_32 : WP d 118 32 [l0, l1, l2, l3] (vI x :: .ref a :: st) h Q ↔ ldA (hRd h a) x (fun v => WP d 118 33 [l0, l1, l2, l3] (v :: st) h Q) := wp_iaload (show (lcode 118)[32]? = some (.iaload) by decide +kernel)
theorem x118_33 : WP d 118 33 [l0, l1, l2, l3] (vI x :: st) h Q ↔ WP d 118 34 [l0, l1, l2, l3] (vL (wr x) :: st) h Q := wp_i2l (show (lcode 118)[33]? = some (.i2l) by decide +kernel)
theorem x118_34 : WP d 118 34 [l0, l1, l2, l3] st h Q ↔ WP d 118 35 [l0, l1, l2, l3] (vL 48 :: st) h Q := wp_lconst (show (lcode 118)[34]? = some (.jsr_w 48) by decide +kernel)
theorem x118_35 : WP d 118 35 [l0, l1, l2, l3] st h Q ↔ WP d 118 36 [l0, l1, l2, l3] (vL 57 :: st) h Q := wp_lconst (show (lcode 118)[35]? = some (.jsr_w 57) by decide +kernel)
theorem x118_36 : WP d 118 36 [l0, l1, l2, l3] (v2 :: v1 :: v :: st) h Q ↔ (sh st ∧ CALL d 110 [v, v1, v2] h (fun v h => WP d 118 37 [l0, l1, l2, l3] (v.toList ++ st) h Q)) := wp_call (n := 3) (show (lcode 118)[36]? = some (.invokestatic 110) by decide +kernel) (by decide +kernel) (by simp)
theorem x118_37 : WP d 118 37 [l0, l1, l2, l3] (vI x :: st) h Q ↔ ((wr x = 0 → WP d 118 66 [l0, l1, l2, l3] st h Q) ∧ (¬ (wr x = 0) → WP d 118 38 [l0, l1, l2, l3] st h Q)) := wp_if_eq (show (lcode 118)[37]? = some (.ifCond .eq 66) by decide +kernel)
theorem x118_38 : WP d 118 38 [some (Value.ref a), l1, l2, l3] st h Q ↔ WP d 118 39 [some (Value.ref a), l1, l2, l3] (Value.ref a :: st) h Q := wp_aload (show (lcode 118)[38]? = some (.aload 0) by decide +kernel) rfl
theorem x118_39 : WP d 118 39 [some (Value.ref a), l1, l2, l3] st h Q ↔ WP d 118 40 [some (Value.ref a), l1, l2, l3] (Value.ref a :: st) h Q := wp_aload (show (lcode 118)[39]? = some (.aload 0) by decide +kernel) rfl
theorem x118_40 : WP d 118 40 [l0, l1, l2, l3] (.ref a :: st) h Q ↔ gF (hRd h a) 11 12 (fun v => WP d 118 41 [l0, l1, l2, l3] (v :: st) h Q) := wp_getfield (show (lcode 118)[40]? = some (.getfield 716) by decide +kernel)
theorem x118_41 : WP d 118 41 [l0, l1, l2, l3] st h Q ↔ WP d 118 42 [l0, l1, l2, l3] (vI 10000 :: st) h Q := wp_iconst (show (lcode 118)[41]? = some (.iconst 10000) by decide +kernel)
theorem x118_42 : WP d 118 42 [l0, l1, l2, l3] (vI y :: vI x :: st) h Q ↔ ((wr x ≤ wr y → WP d 118 46 [l0, l1, l2, l3] st h Q) ∧ (¬ (wr x ≤ wr y) → WP d 118 43 [l0, l1, l2, l3] st h Q)) := wp_icmp_le (show (lcode 118)[42]? = some (.if_icmp .le 46) by decide +kernel)
theorem x118_43 : WP d 118 43 [some (Value.ref a), l1, l2, l3] st h Q ↔ WP d 118 44 [some (Value.ref a), l1, l2, l3] (Value.ref a :: st) h Q := wp_aload (show (lcode 118)[43]? = some (.aload 0) by decide +kernel) rfl
theorem x118_44 : WP d 118 44 [l0, l1, l2, l3] (.ref a :: st) h Q ↔ gF (hRd h a) 11 12 (fun v => WP d 118 45 [l0, l1, l2, l3] (v :: st) h Q) := wp_getfield (show (lcode 118)[44]? = some (.getfield 716) by decide +kernel)
theorem x118_45 : WP d 118 45 [l0, l1, l2, l3] st h Q ↔ WP d 118 58 [l0, l1, l2, l3] st h Q := wp_goto (show (lcode 118)[45]? = some (.goto 58) by decide +kernel)
theorem x118_46 : WP d 118 46 [l0, l1, l2, l3] st h Q ↔ WP d 118 47 [l0, l1, l2, l3] (vI 10 :: st) h Q := wp_iconst (show (lcode 118)[46]? = some (.iconst 10) by decide +kernel)
theorem x118_47 : WP d 118 47 [some (Value.ref a), l1, l2, l3] st h Q ↔ WP d 118 48 [some (Value.ref a), l1, l2, l3] (Value.ref a :: st) h Q := wp_aload (show (lcode 118)[47]? = some (.aload 0) by decide +kernel) rfl
theorem x118_48 : WP d 118 48 [l0, l1, l2, l3] (.ref a :: st) h Q ↔ gF (hRd h a) 11 12 (fun v => WP d 118 49 [l0, l1, l2, l3] (v :: st) h Q) := wp_getfield (show (lcode 118)[48]? = some (.getfield 716) by decide +kernel)
theorem x118_49 : WP d 118 49 [l0, l1, l2, l3] (vI y :: vI x :: st) h Q ↔ WP d 118 50 [l0, l1, l2, l3] (vI (x * y) :: st) h Q := wp_imul (show (lcode 118)[49]? = some (.imul) by decide +kernel)
theorem x118_50 : WP d 118 50 [some (Value.ref a), l1, l2, l3] st h Q ↔ WP d 118 51 [some (Value.ref a), l1, l2, l3] (Value.ref a :: st) h Q := wp_aload (show (lcode 118)[50]? = some (.aload 0) by decide +kernel) rfl
theorem x118_51 : WP d 118 51 [l0, l1, l2, l3] (.ref a :: st) h Q ↔ gF (hRd h a) 11 8 (fun v => WP d 118 52 [l0, l1, l2, l3] (v :: st) h Q) := wp_getfield (show (lcode 118)[51]? = some (.getfield 712) by decide +kernel)
theorem x118_52 : WP d 118 52 [some (Value.ref a), l1, l2, l3] st h Q ↔ WP d 118 53 [some (Value.ref a), l1, l2, l3] (Value.ref a :: st) h Q := wp_aload (show (lcode 118)[52]? = some (.aload 0) by decide +kernel) rfl
theorem x118_53 : WP d 118 53 [l0, l1, l2, l3] (.ref a :: st) h Q ↔ gF (hRd h a) 11 11 (fun v => WP d 118 54 [l0, l1, l2, l3] (v :: st) h Q) := wp_getfield (show (lcode 118)[53]? = some (.getfield 715) by decide +kernel)
theorem x118_54 : WP d 118 54 [l0, l1, l2, l3] (vI x :: .ref a :: st) h Q ↔ ldA (hRd h a) x (fun v => WP d 118 55 [l0, l1, l2, l3] (v :: st) h Q) := wp_iaload (show (lcode 118)[54]? = some (.iaload) by decide +kernel)
theorem x118_55 : WP d 118 55 [l0, l1, l2, l3] (vI y :: vI x :: st) h Q ↔ WP d 118 56 [l0, l1, l2, l3] (vI (x + y) :: st) h Q := wp_iadd (show (lcode 118)[55]? = some (.iadd) by decide +kernel)
theorem x118_56 : WP d 118 56 [l0, l1, l2, l3] st h Q ↔ WP d 118 57 [l0, l1, l2, l3] (vI 48 :: st) h Q := wp_iconst (show (lcode 118)[56]? = some (.iconst 48) by decide +kernel)
theorem x118_57 : WP d 118 57 [l0, l1, l2, l3] (vI y :: vI x :: st) h Q ↔ WP d 118 58 [l0, l1, l2, l3] (vI (x - y) :: st) h Q := wp_isub (show (lcode 118)[57]? = some (.isub) by decide +kernel)
theorem x118_58 : WP d 118 58 [l0, l1, l2, l3] (vI x :: .ref a :: st) h Q ↔ pF (hRd h a) 11 12 (vI x) (fun c => WP d 118 59 [l0, l1, l2, l3] st (hWr h a c) Q) := wp_putfield (show (lcode 118)[58]? = some (.putfield 716) by decide +kernel)
theorem x118_59 : WP d 118 59 [some (Value.ref a), l1, l2, l3] st h Q ↔ WP d 118 60 [some (Value.ref a), l1, l2, l3] (Value.ref a :: st) h Q := wp_aload (show (lcode 118)[59]? = some (.aload 0) by decide +kernel) rfl
theorem x118_60 : WP d 118 60 [l0, l1, l2, l3] (v :: st) h Q ↔ (c1 v ∧ WP d 118 61 [l0, l1, l2, l3] (v :: v :: st) h Q) := wp_dup (show (lcode 118)[60]? = some (.dup) by decide +kernel)
theorem x118_61 : WP d 118 61 [l0, l1, l2, l3] (.ref a :: st) h Q ↔ gF (hRd h a) 11 11 (fun v => WP d 118 62 [l0, l1, l2, l3] (v :: st) h Q) := wp_getfield (show (lcode 118)[61]? = some (.getfield 715) by decide +kernel)
theorem x118_62 : WP d 118 62 [l0, l1, l2, l3] st h Q ↔ WP d 118 63 [l0, l1, l2, l3] (vI 1 :: st) h Q := wp_iconst (show (lcode 118)[62]? = some (.iconst 1) by decide +kernel)
theorem x118_63 : WP d 118 63 [l0, l1, l2, l3] (vI y :: vI x :: st) h Q ↔ WP d 118 64 [l0, l1, l2, l3] (vI (x + y) :: st) h Q := wp_iadd (show (lcode 118)[63]? = some (.iadd) by decide +kernel)
theorem x118_64 : WP d 118 64 [l0, l1, l2, l3] (vI x :: .ref a :: st) h Q ↔ pF (hRd h a) 11 11 (vI x) (fun c => WP d 118 65 [l0, l1, l2, l3] st (hWr h a c) Q) := wp_putfield (show (lcode 118)[64]? = some (.putfield 715) by decide +kernel)
theorem x118_65 : WP d 118 65 [l0, l1, l2, l3] st h Q ↔ WP d 118 22 [l0, l1, l2, l3] st h Q := wp_goto (show (lcode 118)[65]? = some (.goto 22) by decide +kernel)
theorem x118_66 : WP d 118 66 [some (Value.ref a), l1, l2, l3] st h Q ↔ WP d 118 67 [some (Value.ref a), l1, l2, l3] (Value.ref a :: st) h Q := wp_aload (show (lcode 118)[66]? = some (.aload 0) by decide +kernel) rfl
theorem x118_67 : WP d 118 67 [l0, l1, l2, l3] (.ref a :: st) h Q ↔ gF (hRd h a) 11 11 (fun v => WP d 118 68 [l0, l1, l2, l3] (v :: st) h Q) := wp_getfield (show (lcode 118)[67]? = some (.getfield 715) by decide +kernel)
theorem x118_68 : WP d 118 68 [some (Value.ref a), l1, l2, l3] st h Q ↔ WP d 118 69 [some (Value.ref a), l1, l2, l3] (Value.ref a :: st) h Q := wp_aload (show (lcode 118)[68]? = some (.aload 0) by decide +kernel) rfl
theorem x118_69 : WP d 118 69 [l0, l1, l2, l3] (.ref a :: st) h Q ↔ gF (hRd h a) 11 13 (fun v => WP d 118 70 [l0, l1, l2, l3] (v :: st) h Q) := wp_getfield (show (lcode 118)[69]? = some (.getfield 717) by decide +kernel)
theorem x118_70 : WP d 118 70 [l0, l1, l2, l3] (vI y :: vI x :: st) h Q ↔ WP d 118 71 [l0, l1, l2, l3] (vI (x - y) :: st) h Q := wp_isub (show (lcode 118)[70]? = some (.isub) by decide +kernel)
theorem x118_71 : WP d 118 71 [l0, l1, l2, l3] st h Q ↔ WP d 118 72 [l0, l1, l2, l3] (vI 3 :: st) h Q := wp_iconst (show (lcode 118)[71]? = some (.iconst 3) by decide +kernel)
theorem x118_72 : WP d 118 72 [l0, l1, l2, l3] (vI y :: vI x :: st) h Q ↔ ((wr y < wr x → WP d 118 82 [l0, l1, l2, l3] st h Q) ∧ (¬ (wr y < wr x) → WP d 118 73 [l0, l1, l2, l3] st h Q)) := wp_icmp_gt (show (lcode 118)[72]? = some (.if_icmp .gt 82) by decide +kernel)
theorem x118_73 : WP d 118 73 [some (Value.ref a), l1, l2, l3] st h Q ↔ WP d 118 74 [some (Value.ref a), l1, l2, l3] (Value.ref a :: st) h Q := wp_aload (show (lcode 118)[73]? = some (.aload 0) by decide +kernel) rfl
theorem x118_74 : WP d 118 74 [l0, l1, l2, l3] (.ref a :: st) h Q ↔ gF (hRd h a) 11 12 (fun v => WP d 118 75 [l0, l1, l2, l3] (v :: st) h Q) := wp_getfield (show (lcode 118)[74]? = some (.getfield 716) by decide +kernel)
theorem x118_75 : WP d 118 75 [l0, l1, l2, l3] (vI x :: st) h Q ↔ WP d 118 76 [l0, l1, l2, l3] (vL (wr x) :: st) h Q := wp_i2l (show (lcode 118)[75]? = some (.i2l) by decide +kernel)
theorem x118_76 : WP d 118 76 [l0, some (vI x), l2, l3] st h Q ↔ WP d 118 77 [l0, some (vI x), l2, l3] (vI x :: st) h Q := wp_iload (show (lcode 118)[76]? = some (.iload 1) by decide +kernel) rfl
theorem x118_77 : WP d 118 77 [l0, l1, l2, l3] (vI x :: st) h Q ↔ WP d 118 78 [l0, l1, l2, l3] (vL (wr x) :: st) h Q := wp_i2l (show (lcode 118)[77]? = some (.i2l) by decide +kernel)
theorem x118_78 : WP d 118 78 [l0, l1, some (vI x), l3] st h Q ↔ WP d 118 79 [l0, l1, some (vI x), l3] (vI x :: st) h Q := wp_iload (show (lcode 118)[78]? = some (.iload 2) by decide +kernel) rfl
theorem x118_79 : WP d 118 79 [l0, l1, l2, l3] (vI x :: st) h Q ↔ WP d 118 80 [l0, l1, l2, l3] (vL (wr x) :: st) h Q := wp_i2l (show (lcode 118)[79]? = some (.i2l) by decide +kernel)
theorem x118_80 : WP d 118 80 [l0, l1, l2, l3] (v2 :: v1 :: v :: st) h Q ↔ (sh st ∧ CALL d 110 [v, v1, v2] h (fun v h => WP d 118 81 [l0, l1, l2, l3] (v.toList ++ st) h Q)) := wp_call (n := 3) (show (lcode 118)[80]? = some (.invokestatic 110) by decide +kernel) (by decide +kernel) (by simp)
theorem x118_81 : WP d 118 81 [l0, l1, l2, l3] (vI x :: st) h Q ↔ ((¬ wr x = 0 → WP d 118 88 [l0, l1, l2, l3] st h Q) ∧ (¬ (¬ wr x = 0) → WP d 118 82 [l0, l1, l2, l3] st h Q)) := wp_if_ne (show (lcode 118)[81]? = some (.ifCond .ne 88) by decide +kernel)
theorem x118_82 : WP d 118 82 [some (Value.ref a), l1, l2, l3] st h Q ↔ WP d 118 83 [some (Value.ref a), l1, l2, l3] (Value.ref a :: st) h Q := wp_aload (show (lcode 118)[82]? = some (.aload 0) by decide +kernel) rfl
theorem x118_83 : WP d 118 83 [l0, l1, l2, l3] st h Q ↔ WP d 118 84 [l0, l1, l2, l3] (vI 2 :: st) h Q := wp_iconst (show (lcode 118)[83]? = some (.iconst 2) by decide +kernel)
theorem x118_84 : WP d 118 84 [some (Value.ref a), l1, l2, l3] st h Q ↔ WP d 118 85 [some (Value.ref a), l1, l2, l3] (Value.ref a :: st) h Q := wp_aload (show (lcode 118)[84]? = some (.aload 0) by decide +kernel) rfl
theorem x118_85 : WP d 118 85 [l0, l1, l2, l3] (.ref a :: st) h Q ↔ gF (hRd h a) 11 13 (fun v => WP d 118 86 [l0, l1, l2, l3] (v :: st) h Q) := wp_getfield (show (lcode 118)[85]? = some (.getfield 717) by decide +kernel)
theorem x118_86 : WP d 118 86 [l0, l1, l2, l3] (v2 :: v1 :: v :: st) h Q ↔ (sh st ∧ CALL d 117 [v, v1, v2] h (fun v h => WP d 118 87 [l0, l1, l2, l3] (v.toList ++ st) h Q)) := wp_call (n := 3) (show (lcode 118)[86]? = some (.invokestatic 117) by decide +kernel) (by decide +kernel) (by simp)
theorem x118_87 : WP d 118 87 [l0, l1, l2, l3] st h Q ↔ WP d 118 89 [l0, l1, l2, l3] st h Q := wp_goto (show (lcode 118)[87]? = some (.goto 89) by decide +kernel)
theorem x118_88 : WP d 118 88 [l0, l1, l2, l3] st h Q ↔ WP d 118 89 [l0, l1, l2, l3] (vI 0 :: st) h Q := wp_iconst (show (lcode 118)[88]? = some (.iconst 0) by decide +kernel)
theorem x118_89 : WP d 118 89 [l0, l1, l2, l3] [vI x] h Q ↔ Q (some (vI x)) h := wp_ireturn (show (lcode 118)[89]? = some (.ireturn) by decide +kernel)
-- 119: WakeOrderModel.into
theorem x119_0 : WP d 119 0 [some (Value.ref a), l1, l2, l3, l4, l5] st h Q ↔ WP d 119 1 [some (Value.ref a), l1, l2, l3, l4, l5] (Value.ref a :: st) h Q := wp_aload (show (lcode 119)[0]? = some (.aload 0) by decide +kernel) rfl
theorem x119_1 : WP d 119 1 [l0, l1, l2, some (vI x), l4, l5] st h Q ↔ WP d 119 2 [l0, l1, l2, some (vI x), l4, l5] (vI x :: st) h Q := wp_iload (show (lcode 119)[1]? = some (.iload 3) by decide +kernel) rfl
theorem x119_2 : WP d 119 2 [l0, l1, l2, l3, some (vI x), l5] st h Q ↔ WP d 119 3 [l0, l1, l2, l3, some (vI x), l5] (vI x :: st) h Q := wp_iload (show (lcode 119)[2]? = some (.iload 4) by decide +kernel) rfl
theorem x119_3 : WP d 119 3 [l0, l1, l2, l3, l4, l5] (v2 :: v1 :: v :: st) h Q ↔ (sh st ∧ CALL d 118 [v, v1, v2] h (fun v h => WP d 119 4 [l0, l1, l2, l3, l4, l5] (v.toList ++ st) h Q)) := wp_call (n := 3) (show (lcode 119)[3]? = some (.invokestatic 118) by decide +kernel) (by decide +kernel) (by simp)
theorem x119_4 : WP d 119 4 [l0, l1, l2, l3, l4, l5] (vI x :: st) h Q ↔ (nl l4 ∧ WP d 119 5 [l0, l1, l2, l3, l4, some (vI x)] st h Q) := wp_istore (show (lcode 119)[4]? = some (.istore 5) by decide +kernel) (Nat.le_of_ble_eq_true rfl)
theorem x119_5 : WP d 119 5 [l0, some (Value.ref a), l2, l3, l4, l5] st h Q ↔ WP d 119 6 [l0, some (Value.ref a), l2, l3, l4, l5] (Value.ref a :: st) h Q := wp_aload (show (lcode 119)[5]? = some (.aload 1) by decide +kernel) rfl
theorem x119_6 : WP d 119 6 [l0, l1, some (vI x), l3, l4, l5] st h Q ↔ WP d 119 7 [l0, l1, some (vI x), l3, l4, l5] (vI x :: st) h Q := wp_iload (show (lcode 119)[6]? = some (.iload 2) by decide +kernel) rfl
theorem x119_7 : WP d 119 7 [some (Value.ref a), l1, l2, l3, l4, l5] st h Q ↔ WP d 119 8 [some (Value.ref a), l1, l2, l3, l4, l5] (Value.ref a :: st) h Q := wp_aload (show (lcode 119)[7]? = some (.aload 0) by decide +kernel) rfl
theorem x119_8 : WP d 119 8 [l0, l1, l2, l3, l4, l5] (.ref a :: st) h Q ↔ gF (hRd h a) 11 12 (fun v => WP d 119 9 [l0, l1, l2, l3, l4, l5] (v :: st) h Q) := wp_getfield (show (lcode 119)[8]? = some (.getfield 716) by decide +kernel)
theorem x119_9 : WP d 119 9 [l0, l1, l2, l3, l4, l5] (vI y :: vI x :: .ref a :: st) h Q ↔ stA (hRd h a) a x (vI y) (fun c => WP d 119 10 [l0, l1, l2, l3, l4, l5] st (hWr h a c) Q) := wp_iastore (show (lcode 119)[9]? = some (.iastore) by decide +kernel)
theorem x119_10 : WP d 119 10 [l0, l1, l2, l3, l4, some (vI x)] st h Q ↔ WP d 119 11 [l0, l1, l2, l3, l4, some (vI x)] (vI x :: st) h Q := wp_iload (show (lcode 119)[10]? = some (.iload 5) by decide +kernel) rfl
theorem x119_11 : WP d 119 11 [l0, l1, l2, l3, l4, l5] [vI x] h Q ↔ Q (some (vI x)) h := wp_ireturn (show (lcode 119)[11]? = some (.ireturn) by decide +kernel)
-- 120: WakeOrderModel.takePerson
theorem x120_0 : WP d 120 0 [some (Value.ref a), l1] st h Q ↔ WP d 120 1 [some (Value.ref a), l1] (Value.ref a :: st) h Q := wp_aload (show (lcode 120)[0]? = some (.aload 0) by decide +kernel) rfl
theorem x120_1 : WP d 120 1 [l0, l1] (.ref a :: st) h Q ↔ gF (hRd h a) 11 15 (fun v => WP d 120 2 [l0, l1] (v :: st) h Q) := wp_getfield (show (lcode 120)[1]? = some (.getfield 719) by decide +kernel)
theorem x120_2 : WP d 120 2 [l0, l1] (vI x :: st) h Q ↔ (nl l0 ∧ WP d 120 3 [l0, some (vI x)] st h Q) := wp_istore (show (lcode 120)[2]? = some (.istore 1) by decide +kernel) (Nat.le_of_ble_eq_true rfl)
theorem x120_3 : WP d 120 3 [some (Value.ref a), l1] st h Q ↔ WP d 120 4 [some (Value.ref a), l1] (Value.ref a :: st) h Q := wp_aload (show (lcode 120)[3]? = some (.aload 0) by decide +kernel) rfl
theorem x120_4 : WP d 120 4 [l0, l1] (v :: st) h Q ↔ (c1 v ∧ WP d 120 5 [l0, l1] (v :: v :: st) h Q) := wp_dup (show (lcode 120)[4]? = some (.dup) by decide +kernel)
theorem x120_5 : WP d 120 5 [l0, l1] (.ref a :: st) h Q ↔ gF (hRd h a) 11 15 (fun v => WP d 120 6 [l0, l1] (v :: st) h Q) := wp_getfield (show (lcode 120)[5]? = some (.getfield 719) by decide +kernel)
theorem x120_6 : WP d 120 6 [l0, l1] st h Q ↔ WP d 120 7 [l0, l1] (vI 1 :: st) h Q := wp_iconst (show (lcode 120)[6]? = some (.iconst 1) by decide +kernel)
theorem x120_7 : WP d 120 7 [l0, l1] (vI y :: vI x :: st) h Q ↔ WP d 120 8 [l0, l1] (vI (x + y) :: st) h Q := wp_iadd (show (lcode 120)[7]? = some (.iadd) by decide +kernel)
theorem x120_8 : WP d 120 8 [l0, l1] (vI x :: .ref a :: st) h Q ↔ pF (hRd h a) 11 15 (vI x) (fun c => WP d 120 9 [l0, l1] st (hWr h a c) Q) := wp_putfield (show (lcode 120)[8]? = some (.putfield 719) by decide +kernel)
theorem x120_9 : WP d 120 9 [some (Value.ref a), l1] st h Q ↔ WP d 120 10 [some (Value.ref a), l1] (Value.ref a :: st) h Q := wp_aload (show (lcode 120)[9]? = some (.aload 0) by decide +kernel) rfl
theorem x120_10 : WP d 120 10 [l0, l1] (.ref a :: st) h Q ↔ gF (hRd h a) 11 21 (fun v => WP d 120 11 [l0, l1] (v :: st) h Q) := wp_getfield (show (lcode 120)[10]? = some (.getfield 725) by decide +kernel)
theorem x120_11 : WP d 120 11 [l0, some (vI x)] st h Q ↔ WP d 120 12 [l0, some (vI x)] (vI x :: st) h Q := wp_iload (show (lcode 120)[11]? = some (.iload 1) by decide +kernel) rfl
theorem x120_12 : WP d 120 12 [l0, l1] st h Q ↔ WP d 120 13 [l0, l1] (vI (-1) :: st) h Q := wp_iconst (show (lcode 120)[12]? = some (.iconst (-1)) by decide +kernel)
theorem x120_13 : WP d 120 13 [l0, l1] (vI y :: vI x :: .ref a :: st) h Q ↔ stA (hRd h a) a x (vI y) (fun c => WP d 120 14 [l0, l1] st (hWr h a c) Q) := wp_iastore (show (lcode 120)[13]? = some (.iastore) by decide +kernel)
theorem x120_14 : WP d 120 14 [some (Value.ref a), l1] st h Q ↔ WP d 120 15 [some (Value.ref a), l1] (Value.ref a :: st) h Q := wp_aload (show (lcode 120)[14]? = some (.aload 0) by decide +kernel) rfl
theorem x120_15 : WP d 120 15 [some (Value.ref a), l1] st h Q ↔ WP d 120 16 [some (Value.ref a), l1] (Value.ref a :: st) h Q := wp_aload (show (lcode 120)[15]? = some (.aload 0) by decide +kernel) rfl
theorem x120_16 : WP d 120 16 [l0, l1] (.ref a :: st) h Q ↔ gF (hRd h a) 11 16 (fun v => WP d 120 17 [l0, l1] (v :: st) h Q) := wp_getfield (show (lcode 120)[16]? = some (.getfield 720) by decide +kernel)
theorem x120_17 : WP d 120 17 [l0, some (vI x)] st h Q ↔ WP d 120 18 [l0, some (vI x)] (vI x :: st) h Q := wp_iload (show (lcode 120)[17]? = some (.iload 1) by decide +kernel) rfl
theorem x120_18 : WP d 120 18 [l0, l1] st h Q ↔ WP d 120 19 [l0, l1] (vI 0 :: st) h Q := wp_iconst (show (lcode 120)[18]? = some (.iconst 0) by decide +kernel)
theorem x120_19 : WP d 120 19 [l0, l1] st h Q ↔ WP d 120 20 [l0, l1] (vI 999 :: st) h Q := wp_iconst (show (lcode 120)[19]? = some (.iconst 999) by decide +kernel)
theorem x120_20 : WP d 120 20 [l0, l1] (q4 :: q3 :: q2 :: q1 :: q0 :: st) h Q ↔ (sh st ∧ CALL d 119 [q0, q1, q2, q3, q4] h (fun v h => WP d 120 21 [l0, l1] (v.toList ++ st) h Q)) := wp_call (n := 5) (show (lcode 120)[20]? = some (.invokestatic 119) by decide +kernel) (by decide +kernel) (by simp)
theorem x120_21 : WP d 120 21 [l0, l1] [vI x] h Q ↔ Q (some (vI x)) h := wp_ireturn (show (lcode 120)[21]? = some (.ireturn) by decide +kernel)
-- 121: WakeOrderModel.takeJob
theorem x121_0 : WP d 121 0 [some (Value.ref a), l1, l2] st h Q ↔ WP d 121 1 [some (Value.ref a), l1, l2] (Value.ref a :: st) h Q := wp_aload (show (lcode 121)[0]? = some (.aload 0) by decide +kernel) rfl
theorem x121_1 : WP d 121 1 [l0, l1, l2] (.ref a :: st) h Q ↔ gF (hRd h a) 11 17 (fun v => WP d 121 2 [l0, l1, l2] (v :: st) h Q) := wp_getfield (show (lcode 121)[1]? = some (.getfield 721) by decide +kernel)
theorem x121_2 : WP d 121 2 [l0, l1, l2] (vI x :: st) h Q ↔ (nl l0 ∧ WP d 121 3 [l0, some (vI x), l2] st h Q) := wp_istore (show (lcode 121)[2]? = some (.istore 1) by decide +kernel) (Nat.le_of_ble_eq_true rfl)
theorem x121_3 : WP d 121 3 [some (Value.ref a), l1, l2] st h Q ↔ WP d 121 4 [some (Value.ref a), l1, l2] (Value.ref a :: st) h Q := wp_aload (show (lcode 121)[3]? = some (.aload 0) by decide +kernel) rfl
theorem x121_4 : WP d 121 4 [some (Value.ref a), l1, l2] st h Q ↔ WP d 121 5 [some (Value.ref a), l1, l2] (Value.ref a :: st) h Q := wp_aload (show (lcode 121)[4]? = some (.aload 0) by decide +kernel) rfl
theorem x121_5 : WP d 121 5 [l0, l1, l2] (.ref a :: st) h Q ↔ gF (hRd h a) 11 18 (fun v => WP d 121 6 [l0, l1, l2] (v :: st) h Q) := wp_getfield (show (lcode 121)[5]? = some (.getfield 722) by decide +kernel)
theorem x121_6 : WP d 121 6 [l0, some (vI x), l2] st h Q ↔ WP d 121 7 [l0, some (vI x), l2] (vI x :: st) h Q := wp_iload (show (lcode 121)[6]? = some (.iload 1) by decide +kernel) rfl
theorem x121_7 : WP d 121 7 [l0, l1, l2] st h Q ↔ WP d 121 8 [l0, l1, l2] (vI 0 :: st) h Q := wp_iconst (show (lcode 121)[7]? = some (.iconst 0) by decide +kernel)
theorem x121_8 : WP d 121 8 [some (Value.ref a), l1, l2] st h Q ↔ WP d 121 9 [some (Value.ref a), l1, l2] (Value.ref a :: st) h Q := wp_aload (show (lcode 121)[8]? = some (.aload 0) by decide +kernel) rfl
theorem x121_9 : WP d 121 9 [l0, l1, l2] (.ref a :: st) h Q ↔ gF (hRd h a) 11 15 (fun v => WP d 121 10 [l0, l1, l2] (v :: st) h Q) := wp_getfield (show (lcode 121)[9]? = some (.getfield 719) by decide +kernel)
theorem x121_10 : WP d 121 10 [l0, l1, l2] st h Q ↔ WP d 121 11 [l0, l1, l2] (vI 1 :: st) h Q := wp_iconst (show (lcode 121)[10]? = some (.iconst 1) by decide +kernel)
theorem x121_11 : WP d 121 11 [l0, l1, l2] (vI y :: vI x :: st) h Q ↔ WP d 121 12 [l0, l1, l2] (vI (x - y) :: st) h Q := wp_isub (show (lcode 121)[11]? = some (.isub) by decide +kernel)
theorem x121_12 : WP d 121 12 [l0, l1, l2] (q4 :: q3 :: q2 :: q1 :: q0 :: st) h Q ↔ (sh st ∧ CALL d 119 [q0, q1, q2, q3, q4] h (fun v h => WP d 121 13 [l0, l1, l2] (v.toList ++ st) h Q)) := wp_call (n := 5) (show (lcode 121)[12]? = some (.invokestatic 119) by decide +kernel) (by decide +kernel) (by simp)
theorem x121_13 : WP d 121 13 [l0, l1, l2] (vI x :: st) h Q ↔ (nl l1 ∧ WP d 121 14 [l0, l1, some (vI x)] st h Q) := wp_istore (show (lcode 121)[13]? = some (.istore 2) by decide +kernel) (Nat.le_of_ble_eq_true rfl)
theorem x121_14 : WP d 121 14 [l0, l1, some (vI x)] st h Q ↔ WP d 121 15 [l0, l1, some (vI x)] (vI x :: st) h Q := wp_iload (show (lcode 121)[14]? = some (.iload 2) by decide +kernel) rfl
theorem x121_15 : WP d 121 15 [l0, l1, l2] (vI x :: st) h Q ↔ ((wr x ≤ 0 → WP d 121 18 [l0, l1, l2] st h Q) ∧ (¬ (wr x ≤ 0) → WP d 121 16 [l0, l1, l2] st h Q)) := wp_if_le (show (lcode 121)[15]? = some (.ifCond .le 18) by decide +kernel)
theorem x121_16 : WP d 121 16 [l0, l1, some (vI x)] st h Q ↔ WP d 121 17 [l0, l1, some (vI x)] (vI x :: st) h Q := wp_iload (show (lcode 121)[16]? = some (.iload 2) by decide +kernel) rfl
theorem x121_17 : WP d 121 17 [l0, l1, l2] st h Q ↔ WP d 121 25 [l0, l1, l2] st h Q := wp_goto (show (lcode 121)[17]? = some (.goto 25) by decide +kernel)
theorem x121_18 : WP d 121 18 [some (Value.ref a), l1, l2] st h Q ↔ WP d 121 19 [some (Value.ref a), l1, l2] (Value.ref a :: st) h Q := wp_aload (show (lcode 121)[18]? = some (.aload 0) by decide +kernel) rfl
theorem x121_19 : WP d 121 19 [some (Value.ref a), l1, l2] st h Q ↔ WP d 121 20 [some (Value.ref a), l1, l2] (Value.ref a :: st) h Q := wp_aload (show (lcode 121)[19]? = some (.aload 0) by decide +kernel) rfl
theorem x121_20 : WP d 121 20 [l0, l1, l2] (.ref a :: st) h Q ↔ gF (hRd h a) 11 19 (fun v => WP d 121 21 [l0, l1, l2] (v :: st) h Q) := wp_getfield (show (lcode 121)[20]? = some (.getfield 723) by decide +kernel)
theorem x121_21 : WP d 121 21 [l0, some (vI x), l2] st h Q ↔ WP d 121 22 [l0, some (vI x), l2] (vI x :: st) h Q := wp_iload (show (lcode 121)[21]? = some (.iload 1) by decide +kernel) rfl
theorem x121_22 : WP d 121 22 [l0, l1, l2] st h Q ↔ WP d 121 23 [l0, l1, l2] (vI 1 :: st) h Q := wp_iconst (show (lcode 121)[22]? = some (.iconst 1) by decide +kernel)
theorem x121_23 : WP d 121 23 [l0, l1, l2] st h Q ↔ WP d 121 24 [l0, l1, l2] (vI 99 :: st) h Q := wp_iconst (show (lcode 121)[23]? = some (.iconst 99) by decide +kernel)
theorem x121_24 : WP d 121 24 [l0, l1, l2] (q4 :: q3 :: q2 :: q1 :: q0 :: st) h Q ↔ (sh st ∧ CALL d 119 [q0, q1, q2, q3, q4] h (fun v h => WP d 121 25 [l0, l1, l2] (v.toList ++ st) h Q)) := wp_call (n := 5) (show (lcode 121)[24]? = some (.invokestatic 119) by decide +kernel) (by decide +kernel) (by simp)
theorem x121_25 : WP d 121 25 [l0, l1, l2] (vI x :: st) h Q ↔ (nl l1 ∧ WP d 121 26 [l0, l1, some (vI x)] st h Q) := wp_istore (show (lcode 121)[25]? = some (.istore 2) by decide +kernel) (Nat.le_of_ble_eq_true rfl)
theorem x121_26 : WP d 121 26 [l0, l1, some (vI x)] st h Q ↔ WP d 121 27 [l0, l1, some (vI x)] (vI x :: st) h Q := wp_iload (show (lcode 121)[26]? = some (.iload 2) by decide +kernel) rfl
theorem x121_27 : WP d 121 27 [l0, l1, l2] (vI x :: st) h Q ↔ ((wr x ≤ 0 → WP d 121 30 [l0, l1, l2] st h Q) ∧ (¬ (wr x ≤ 0) → WP d 121 28 [l0, l1, l2] st h Q)) := wp_if_le (show (lcode 121)[27]? = some (.ifCond .le 30) by decide +kernel)
theorem x121_28 : WP d 121 28 [l0, l1, some (vI x)] st h Q ↔ WP d 121 29 [l0, l1, some (vI x)] (vI x :: st) h Q := wp_iload (show (lcode 121)[28]? = some (.iload 2) by decide +kernel) rfl
theorem x121_29 : WP d 121 29 [l0, l1, l2] st h Q ↔ WP d 121 34 [l0, l1, l2] st h Q := wp_goto (show (lcode 121)[29]? = some (.goto 34) by decide +kernel)
theorem x121_30 : WP d 121 30 [some (Value.ref a), l1, l2] st h Q ↔ WP d 121 31 [some (Value.ref a), l1, l2] (Value.ref a :: st) h Q := wp_aload (show (lcode 121)[30]? = some (.aload 0) by decide +kernel) rfl
theorem x121_31 : WP d 121 31 [l0, l1, l2] st h Q ↔ WP d 121 32 [l0, l1, l2] (vI 0 :: st) h Q := wp_iconst (show (lcode 121)[31]? = some (.iconst 0) by decide +kernel)
theorem x121_32 : WP d 121 32 [l0, l1, l2] st h Q ↔ WP d 121 33 [l0, l1, l2] (vI 9 :: st) h Q := wp_iconst (show (lcode 121)[32]? = some (.iconst 9) by decide +kernel)
theorem x121_33 : WP d 121 33 [l0, l1, l2] (v2 :: v1 :: v :: st) h Q ↔ (sh st ∧ CALL d 118 [v, v1, v2] h (fun v h => WP d 121 34 [l0, l1, l2] (v.toList ++ st) h Q)) := wp_call (n := 3) (show (lcode 121)[33]? = some (.invokestatic 118) by decide +kernel) (by decide +kernel) (by simp)
theorem x121_34 : WP d 121 34 [l0, l1, l2] (vI x :: st) h Q ↔ (nl l1 ∧ WP d 121 35 [l0, l1, some (vI x)] st h Q) := wp_istore (show (lcode 121)[34]? = some (.istore 2) by decide +kernel) (Nat.le_of_ble_eq_true rfl)
theorem x121_35 : WP d 121 35 [l0, l1, some (vI x)] st h Q ↔ WP d 121 36 [l0, l1, some (vI x)] (vI x :: st) h Q := wp_iload (show (lcode 121)[35]? = some (.iload 2) by decide +kernel) rfl
theorem x121_36 : WP d 121 36 [l0, l1, l2] (vI x :: st) h Q ↔ ((¬ wr x = 0 → WP d 121 52 [l0, l1, l2] st h Q) ∧ (¬ (¬ wr x = 0) → WP d 121 37 [l0, l1, l2] st h Q)) := wp_if_ne (show (lcode 121)[36]? = some (.ifCond .ne 52) by decide +kernel)
theorem x121_37 : WP d 121 37 [some (Value.ref a), l1, l2] st h Q ↔ WP d 121 38 [some (Value.ref a), l1, l2] (Value.ref a :: st) h Q := wp_aload (show (lcode 121)[37]? = some (.aload 0) by decide +kernel) rfl
theorem x121_38 : WP d 121 38 [l0, l1, l2] (.ref a :: st) h Q ↔ gF (hRd h a) 11 12 (fun v => WP d 121 39 [l0, l1, l2] (v :: st) h Q) := wp_getfield (show (lcode 121)[38]? = some (.getfield 716) by decide +kernel)
theorem x121_39 : WP d 121 39 [l0, l1, l2] st h Q ↔ WP d 121 40 [l0, l1, l2] (vI 9 :: st) h Q := wp_iconst (show (lcode 121)[39]? = some (.iconst 9) by decide +kernel)
theorem x121_40 : WP d 121 40 [l0, l1, l2] (vI y :: vI x :: st) h Q ↔ ((wr x = wr y → WP d 121 52 [l0, l1, l2] st h Q) ∧ (¬ (wr x = wr y) → WP d 121 41 [l0, l1, l2] st h Q)) := wp_icmp_eq (show (lcode 121)[40]? = some (.if_icmp .eq 52) by decide +kernel)
theorem x121_41 : WP d 121 41 [some (Value.ref a), l1, l2] st h Q ↔ WP d 121 42 [some (Value.ref a), l1, l2] (Value.ref a :: st) h Q := wp_aload (show (lcode 121)[41]? = some (.aload 0) by decide +kernel) rfl
theorem x121_42 : WP d 121 42 [l0, l1, l2] (.ref a :: st) h Q ↔ gF (hRd h a) 11 12 (fun v => WP d 121 43 [l0, l1, l2] (v :: st) h Q) := wp_getfield (show (lcode 121)[42]? = some (.getfield 716) by decide +kernel)
theorem x121_43 : WP d 121 43 [some (Value.ref a), l1, l2] st h Q ↔ WP d 121 44 [some (Value.ref a), l1, l2] (Value.ref a :: st) h Q := wp_aload (show (lcode 121)[43]? = some (.aload 0) by decide +kernel) rfl
theorem x121_44 : WP d 121 44 [l0, l1, l2] (.ref a :: st) h Q ↔ gF (hRd h a) 11 17 (fun v => WP d 121 45 [l0, l1, l2] (v :: st) h Q) := wp_getfield (show (lcode 121)[44]? = some (.getfield 721) by decide +kernel)
theorem x121_45 : WP d 121 45 [l0, l1, l2] (vI y :: vI x :: st) h Q ↔ ((wr x < wr y → WP d 121 52 [l0, l1, l2] st h Q) ∧ (¬ (wr x < wr y) → WP d 121 46 [l0, l1, l2] st h Q)) := wp_icmp_lt (show (lcode 121)[45]? = some (.if_icmp .lt 52) by decide +kernel)
theorem x121_46 : WP d 121 46 [some (Value.ref a), l1, l2] st h Q ↔ WP d 121 47 [some (Value.ref a), l1, l2] (Value.ref a :: st) h Q := wp_aload (show (lcode 121)[46]? = some (.aload 0) by decide +kernel) rfl
theorem x121_47 : WP d 121 47 [l0, l1, l2] st h Q ↔ WP d 121 48 [l0, l1, l2] (vI 2 :: st) h Q := wp_iconst (show (lcode 121)[47]? = some (.iconst 2) by decide +kernel)
theorem x121_48 : WP d 121 48 [some (Value.ref a), l1, l2] st h Q ↔ WP d 121 49 [some (Value.ref a), l1, l2] (Value.ref a :: st) h Q := wp_aload (show (lcode 121)[48]? = some (.aload 0) by decide +kernel) rfl
theorem x121_49 : WP d 121 49 [l0, l1, l2] (.ref a :: st) h Q ↔ gF (hRd h a) 11 13 (fun v => WP d 121 50 [l0, l1, l2] (v :: st) h Q) := wp_getfield (show (lcode 121)[49]? = some (.getfield 717) by decide +kernel)
theorem x121_50 : WP d 121 50 [l0, l1, l2] (v2 :: v1 :: v :: st) h Q ↔ (sh st ∧ CALL d 117 [v, v1, v2] h (fun v h => WP d 121 51 [l0, l1, l2] (v.toList ++ st) h Q)) := wp_call (n := 3) (show (lcode 121)[50]? = some (.invokestatic 117) by decide +kernel) (by decide +kernel) (by simp)
theorem x121_51 : WP d 121 51 [l0, l1, l2] [vI x] h Q ↔ Q (some (vI x)) h := wp_ireturn (show (lcode 121)[51]? = some (.ireturn) by decide +kernel)
theorem x121_52 : WP d 121 52 [some (Value.ref a), l1, l2] st h Q ↔ WP d 121 53 [some (Value.ref a), l1, l2] (Value.ref a :: st) h Q := wp_aload (show (lcode 121)[52]? = some (.aload 0) by decide +kernel) rfl
theorem x121_53 : WP d 121 53 [l0, l1, l2] (.ref a :: st) h Q ↔ gF (hRd h a) 11 20 (fun v => WP d 121 54 [l0, l1, l2] (v :: st) h Q) := wp_getfield (show (lcode 121)[53]? = some (.getfield 724) by decide +kernel)
theorem x121_54 : WP d 121 54 [l0, some (vI x), l2] st h Q ↔ WP d 121 55 [l0, some (vI x), l2] (vI x :: st) h Q := wp_iload (show (lcode 121)[54]? = some (.iload 1) by decide +kernel) rfl
theorem x121_55 : WP d 121 55 [some (Value.ref a), l1, l2] st h Q ↔ WP d 121 56 [some (Value.ref a), l1, l2] (Value.ref a :: st) h Q := wp_aload (show (lcode 121)[55]? = some (.aload 0) by decide +kernel) rfl
theorem x121_56 : WP d 121 56 [l0, l1, l2] (.ref a :: st) h Q ↔ gF (hRd h a) 11 12 (fun v => WP d 121 57 [l0, l1, l2] (v :: st) h Q) := wp_getfield (show (lcode 121)[56]? = some (.getfield 716) by decide +kernel)
theorem x121_57 : WP d 121 57 [l0, l1, l2] st h Q ↔ WP d 121 58 [l0, l1, l2] (vI 9 :: st) h Q := wp_iconst (show (lcode 121)[57]? = some (.iconst 9) by decide +kernel)
theorem x121_58 : WP d 121 58 [l0, l1, l2] (vI y :: vI x :: st) h Q ↔ ((¬ wr x = wr y → WP d 121 61 [l0, l1, l2] st h Q) ∧ (¬ (¬ wr x = wr y) → WP d 121 59 [l0, l1, l2] st h Q)) := wp_icmp_ne (show (lcode 121)[58]? = some (.if_icmp .ne 61) by decide +kernel)
theorem x121_59 : WP d 121 59 [l0, l1, l2] st h Q ↔ WP d 121 60 [l0, l1, l2] (vI (-1) :: st) h Q := wp_iconst (show (lcode 121)[59]? = some (.iconst (-1)) by decide +kernel)
theorem x121_60 : WP d 121 60 [l0, l1, l2] st h Q ↔ WP d 121 63 [l0, l1, l2] st h Q := wp_goto (show (lcode 121)[60]? = some (.goto 63) by decide +kernel)
theorem x121_61 : WP d 121 61 [some (Value.ref a), l1, l2] st h Q ↔ WP d 121 62 [some (Value.ref a), l1, l2] (Value.ref a :: st) h Q := wp_aload (show (lcode 121)[61]? = some (.aload 0) by decide +kernel) rfl
theorem x121_62 : WP d 121 62 [l0, l1, l2] (.ref a :: st) h Q ↔ gF (hRd h a) 11 12 (fun v => WP d 121 63 [l0, l1, l2] (v :: st) h Q) := wp_getfield (show (lcode 121)[62]? = some (.getfield 716) by decide +kernel)
theorem x121_63 : WP d 121 63 [l0, l1, l2] (vI y :: vI x :: .ref a :: st) h Q ↔ stA (hRd h a) a x (vI y) (fun c => WP d 121 64 [l0, l1, l2] st (hWr h a c) Q) := wp_iastore (show (lcode 121)[63]? = some (.iastore) by decide +kernel)
theorem x121_64 : WP d 121 64 [some (Value.ref a), l1, l2] st h Q ↔ WP d 121 65 [some (Value.ref a), l1, l2] (Value.ref a :: st) h Q := wp_aload (show (lcode 121)[64]? = some (.aload 0) by decide +kernel) rfl
theorem x121_65 : WP d 121 65 [l0, l1, l2] (v :: st) h Q ↔ (c1 v ∧ WP d 121 66 [l0, l1, l2] (v :: v :: st) h Q) := wp_dup (show (lcode 121)[65]? = some (.dup) by decide +kernel)
theorem x121_66 : WP d 121 66 [l0, l1, l2] (.ref a :: st) h Q ↔ gF (hRd h a) 11 17 (fun v => WP d 121 67 [l0, l1, l2] (v :: st) h Q) := wp_getfield (show (lcode 121)[66]? = some (.getfield 721) by decide +kernel)
theorem x121_67 : WP d 121 67 [l0, l1, l2] st h Q ↔ WP d 121 68 [l0, l1, l2] (vI 1 :: st) h Q := wp_iconst (show (lcode 121)[67]? = some (.iconst 1) by decide +kernel)
theorem x121_68 : WP d 121 68 [l0, l1, l2] (vI y :: vI x :: st) h Q ↔ WP d 121 69 [l0, l1, l2] (vI (x + y) :: st) h Q := wp_iadd (show (lcode 121)[68]? = some (.iadd) by decide +kernel)
theorem x121_69 : WP d 121 69 [l0, l1, l2] (vI x :: .ref a :: st) h Q ↔ pF (hRd h a) 11 17 (vI x) (fun c => WP d 121 70 [l0, l1, l2] st (hWr h a c) Q) := wp_putfield (show (lcode 121)[69]? = some (.putfield 721) by decide +kernel)
theorem x121_70 : WP d 121 70 [l0, l1, some (vI x)] st h Q ↔ WP d 121 71 [l0, l1, some (vI x)] (vI x :: st) h Q := wp_iload (show (lcode 121)[70]? = some (.iload 2) by decide +kernel) rfl
theorem x121_71 : WP d 121 71 [l0, l1, l2] [vI x] h Q ↔ Q (some (vI x)) h := wp_ireturn (show (lcode 121)[71]? = some (.ireturn) by decide +kernel)
-- 122: WakeOrderModel.takeWait
theorem x122_0 : WP d 122 0 [some (Value.ref a), l1, l2] st h Q ↔ WP d 122 1 [some (Value.ref a), l1, l2] (Value.ref a :: st) h Q := wp_aload (show (lcode 122)[0]? = some (.aload 0) by decide +kernel) rfl
theorem x122_1 : WP d 122 1 [l0, l1, l2] st h Q ↔ WP d 122 2 [l0, l1, l2] (vI 0 :: st) h Q := wp_iconst (show (lcode 122)[1]? = some (.iconst 0) by decide +kernel)
theorem x122_2 : WP d 122 2 [some (Value.ref a), l1, l2] st h Q ↔ WP d 122 3 [some (Value.ref a), l1, l2] (Value.ref a :: st) h Q := wp_aload (show (lcode 122)[2]? = some (.aload 0) by decide +kernel) rfl
theorem x122_3 : WP d 122 3 [l0, l1, l2] (.ref a :: st) h Q ↔ gF (hRd h a) 11 15 (fun v => WP d 122 4 [l0, l1, l2] (v :: st) h Q) := wp_getfield (show (lcode 122)[3]? = some (.getfield 719) by decide +kernel)
theorem x122_4 : WP d 122 4 [l0, l1, l2] st h Q ↔ WP d 122 5 [l0, l1, l2] (vI 1 :: st) h Q := wp_iconst (show (lcode 122)[4]? = some (.iconst 1) by decide +kernel)
theorem x122_5 : WP d 122 5 [l0, l1, l2] (vI y :: vI x :: st) h Q ↔ WP d 122 6 [l0, l1, l2] (vI (x - y) :: st) h Q := wp_isub (show (lcode 122)[5]? = some (.isub) by decide +kernel)
theorem x122_6 : WP d 122 6 [l0, l1, l2] (v2 :: v1 :: v :: st) h Q ↔ (sh st ∧ CALL d 118 [v, v1, v2] h (fun v h => WP d 122 7 [l0, l1, l2] (v.toList ++ st) h Q)) := wp_call (n := 3) (show (lcode 122)[6]? = some (.invokestatic 118) by decide +kernel) (by decide +kernel) (by simp)
theorem x122_7 : WP d 122 7 [l0, l1, l2] (vI x :: st) h Q ↔ (nl l0 ∧ WP d 122 8 [l0, some (vI x), l2] st h Q) := wp_istore (show (lcode 122)[7]? = some (.istore 1) by decide +kernel) (Nat.le_of_ble_eq_true rfl)
theorem x122_8 : WP d 122 8 [some (Value.ref a), l1, l2] st h Q ↔ WP d 122 9 [some (Value.ref a), l1, l2] (Value.ref a :: st) h Q := wp_aload (show (lcode 122)[8]? = some (.aload 0) by decide +kernel) rfl
theorem x122_9 : WP d 122 9 [l0, l1, l2] (.ref a :: st) h Q ↔ gF (hRd h a) 11 12 (fun v => WP d 122 10 [l0, l1, l2] (v :: st) h Q) := wp_getfield (show (lcode 122)[9]? = some (.getfield 716) by decide +kernel)
theorem x122_10 : WP d 122 10 [l0, l1, l2] (vI x :: st) h Q ↔ (nl l1 ∧ WP d 122 11 [l0, l1, some (vI x)] st h Q) := wp_istore (show (lcode 122)[10]? = some (.istore 2) by decide +kernel) (Nat.le_of_ble_eq_true rfl)
theorem x122_11 : WP d 122 11 [l0, some (vI x), l2] st h Q ↔ WP d 122 12 [l0, some (vI x), l2] (vI x :: st) h Q := wp_iload (show (lcode 122)[11]? = some (.iload 1) by decide +kernel) rfl
theorem x122_12 : WP d 122 12 [l0, l1, l2] (vI x :: st) h Q ↔ ((¬ wr x = 0 → WP d 122 24 [l0, l1, l2] st h Q) ∧ (¬ (¬ wr x = 0) → WP d 122 13 [l0, l1, l2] st h Q)) := wp_if_ne (show (lcode 122)[12]? = some (.ifCond .ne 24) by decide +kernel)
theorem x122_13 : WP d 122 13 [some (Value.ref a), l1, l2] st h Q ↔ WP d 122 14 [some (Value.ref a), l1, l2] (Value.ref a :: st) h Q := wp_aload (show (lcode 122)[13]? = some (.aload 0) by decide +kernel) rfl
theorem x122_14 : WP d 122 14 [l0, l1, l2] (.ref a :: st) h Q ↔ gF (hRd h a) 11 21 (fun v => WP d 122 15 [l0, l1, l2] (v :: st) h Q) := wp_getfield (show (lcode 122)[14]? = some (.getfield 725) by decide +kernel)
theorem x122_15 : WP d 122 15 [l0, l1, some (vI x)] st h Q ↔ WP d 122 16 [l0, l1, some (vI x)] (vI x :: st) h Q := wp_iload (show (lcode 122)[15]? = some (.iload 2) by decide +kernel) rfl
theorem x122_16 : WP d 122 16 [l0, l1, l2] (vI x :: .ref a :: st) h Q ↔ ldA (hRd h a) x (fun v => WP d 122 17 [l0, l1, l2] (v :: st) h Q) := wp_iaload (show (lcode 122)[16]? = some (.iaload) by decide +kernel)
theorem x122_17 : WP d 122 17 [l0, l1, l2] (vI x :: st) h Q ↔ ((wr x < 0 → WP d 122 24 [l0, l1, l2] st h Q) ∧ (¬ (wr x < 0) → WP d 122 18 [l0, l1, l2] st h Q)) := wp_if_lt (show (lcode 122)[17]? = some (.ifCond .lt 24) by decide +kernel)
theorem x122_18 : WP d 122 18 [some (Value.ref a), l1, l2] st h Q ↔ WP d 122 19 [some (Value.ref a), l1, l2] (Value.ref a :: st) h Q := wp_aload (show (lcode 122)[18]? = some (.aload 0) by decide +kernel) rfl
theorem x122_19 : WP d 122 19 [l0, l1, l2] st h Q ↔ WP d 122 20 [l0, l1, l2] (vI 4 :: st) h Q := wp_iconst (show (lcode 122)[19]? = some (.iconst 4) by decide +kernel)
theorem x122_20 : WP d 122 20 [some (Value.ref a), l1, l2] st h Q ↔ WP d 122 21 [some (Value.ref a), l1, l2] (Value.ref a :: st) h Q := wp_aload (show (lcode 122)[20]? = some (.aload 0) by decide +kernel) rfl
theorem x122_21 : WP d 122 21 [l0, l1, l2] (.ref a :: st) h Q ↔ gF (hRd h a) 11 13 (fun v => WP d 122 22 [l0, l1, l2] (v :: st) h Q) := wp_getfield (show (lcode 122)[21]? = some (.getfield 717) by decide +kernel)
theorem x122_22 : WP d 122 22 [l0, l1, l2] (v2 :: v1 :: v :: st) h Q ↔ (sh st ∧ CALL d 117 [v, v1, v2] h (fun v h => WP d 122 23 [l0, l1, l2] (v.toList ++ st) h Q)) := wp_call (n := 3) (show (lcode 122)[22]? = some (.invokestatic 117) by decide +kernel) (by decide +kernel) (by simp)
theorem x122_23 : WP d 122 23 [l0, l1, l2] [vI x] h Q ↔ Q (some (vI x)) h := wp_ireturn (show (lcode 122)[23]? = some (.ireturn) by decide +kernel)
theorem x122_24 : WP d 122 24 [l0, some (vI x), l2] st h Q ↔ WP d 122 25 [l0, some (vI x), l2] (vI x :: st) h Q := wp_iload (show (lcode 122)[24]? = some (.iload 1) by decide +kernel) rfl
theorem x122_25 : WP d 122 25 [l0, l1, l2] (vI x :: st) h Q ↔ ((wr x ≤ 0 → WP d 122 28 [l0, l1, l2] st h Q) ∧ (¬ (wr x ≤ 0) → WP d 122 26 [l0, l1, l2] st h Q)) := wp_if_le (show (lcode 122)[25]? = some (.ifCond .le 28) by decide +kernel)
theorem x122_26 : WP d 122 26 [l0, some (vI x), l2] st h Q ↔ WP d 122 27 [l0, some (vI x), l2] (vI x :: st) h Q := wp_iload (show (lcode 122)[26]? = some (.iload 1) by decide +kernel) rfl
theorem x122_27 : WP d 122 27 [l0, l1, l2] st h Q ↔ WP d 122 35 [l0, l1, l2] st h Q := wp_goto (show (lcode 122)[27]? = some (.goto 35) by decide +kernel)
theorem x122_28 : WP d 122 28 [some (Value.ref a), l1, l2] st h Q ↔ WP d 122 29 [some (Value.ref a), l1, l2] (Value.ref a :: st) h Q := wp_aload (show (lcode 122)[28]? = some (.aload 0) by decide +kernel) rfl
theorem x122_29 : WP d 122 29 [l0, l1, l2] st h Q ↔ WP d 122 30 [l0, l1, l2] (vI 0 :: st) h Q := wp_iconst (show (lcode 122)[29]? = some (.iconst 0) by decide +kernel)
theorem x122_30 : WP d 122 30 [some (Value.ref a), l1, l2] st h Q ↔ WP d 122 31 [some (Value.ref a), l1, l2] (Value.ref a :: st) h Q := wp_aload (show (lcode 122)[30]? = some (.aload 0) by decide +kernel) rfl
theorem x122_31 : WP d 122 31 [l0, l1, l2] (.ref a :: st) h Q ↔ gF (hRd h a) 11 17 (fun v => WP d 122 32 [l0, l1, l2] (v :: st) h Q) := wp_getfield (show (lcode 122)[31]? = some (.getfield 721) by decide +kernel)
theorem x122_32 : WP d 122 32 [l0, l1, l2] st h Q ↔ WP d 122 33 [l0, l1, l2] (vI 1 :: st) h Q := wp_iconst (show (lcode 122)[32]? = some (.iconst 1) by decide +kernel)
theorem x122_33 : WP d 122 33 [l0, l1, l2] (vI y :: vI x :: st) h Q ↔ WP d 122 34 [l0, l1, l2] (vI (x - y) :: st) h Q := wp_isub (show (lcode 122)[33]? = some (.isub) by decide +kernel)
theorem x122_34 : WP d 122 34 [l0, l1, l2] (v2 :: v1 :: v :: st) h Q ↔ (sh st ∧ CALL d 118 [v, v1, v2] h (fun v h => WP d 122 35 [l0, l1, l2] (v.toList ++ st) h Q)) := wp_call (n := 3) (show (lcode 122)[34]? = some (.invokestatic 118) by decide +kernel) (by decide +kernel) (by simp)
theorem x122_35 : WP d 122 35 [l0, l1, l2] (vI x :: st) h Q ↔ (nl l0 ∧ WP d 122 36 [l0, some (vI x), l2] st h Q) := wp_istore (show (lcode 122)[35]? = some (.istore 1) by decide +kernel) (Nat.le_of_ble_eq_true rfl)
theorem x122_36 : WP d 122 36 [l0, some (vI x), l2] st h Q ↔ WP d 122 37 [l0, some (vI x), l2] (vI x :: st) h Q := wp_iload (show (lcode 122)[36]? = some (.iload 1) by decide +kernel) rfl
theorem x122_37 : WP d 122 37 [l0, l1, l2] (vI x :: st) h Q ↔ ((¬ wr x = 0 → WP d 122 44 [l0, l1, l2] st h Q) ∧ (¬ (¬ wr x = 0) → WP d 122 38 [l0, l1, l2] st h Q)) := wp_if_ne (show (lcode 122)[37]? = some (.ifCond .ne 44) by decide +kernel)
theorem x122_38 : WP d 122 38 [some (Value.ref a), l1, l2] st h Q ↔ WP d 122 39 [some (Value.ref a), l1, l2] (Value.ref a :: st) h Q := wp_aload (show (lcode 122)[38]? = some (.aload 0) by decide +kernel) rfl
theorem x122_39 : WP d 122 39 [l0, l1, l2] (.ref a :: st) h Q ↔ gF (hRd h a) 11 21 (fun v => WP d 122 40 [l0, l1, l2] (v :: st) h Q) := wp_getfield (show (lcode 122)[39]? = some (.getfield 725) by decide +kernel)
theorem x122_40 : WP d 122 40 [l0, l1, some (vI x)] st h Q ↔ WP d 122 41 [l0, l1, some (vI x)] (vI x :: st) h Q := wp_iload (show (lcode 122)[40]? = some (.iload 2) by decide +kernel) rfl
theorem x122_41 : WP d 122 41 [some (Value.ref a), l1, l2] st h Q ↔ WP d 122 42 [some (Value.ref a), l1, l2] (Value.ref a :: st) h Q := wp_aload (show (lcode 122)[41]? = some (.aload 0) by decide +kernel) rfl
theorem x122_42 : WP d 122 42 [l0, l1, l2] (.ref a :: st) h Q ↔ gF (hRd h a) 11 12 (fun v => WP d 122 43 [l0, l1, l2] (v :: st) h Q) := wp_getfield (show (lcode 122)[42]? = some (.getfield 716) by decide +kernel)
theorem x122_43 : WP d 122 43 [l0, l1, l2] (vI y :: vI x :: .ref a :: st) h Q ↔ stA (hRd h a) a x (vI y) (fun c => WP d 122 44 [l0, l1, l2] st (hWr h a c) Q) := wp_iastore (show (lcode 122)[43]? = some (.iastore) by decide +kernel)
theorem x122_44 : WP d 122 44 [l0, some (vI x), l2] st h Q ↔ WP d 122 45 [l0, some (vI x), l2] (vI x :: st) h Q := wp_iload (show (lcode 122)[44]? = some (.iload 1) by decide +kernel) rfl
theorem x122_45 : WP d 122 45 [l0, l1, l2] [vI x] h Q ↔ Q (some (vI x)) h := wp_ireturn (show (lcode 122)[45]? = some (.ireturn) by decide +kernel)
-- 123: WakeOrderModel.takeClause
theorem x123_0 : WP d 123 0 [some (Value.ref a), l1, l2, l3, l4] st h Q ↔ WP d 123 1 [some (Value.ref a), l1, l2, l3, l4] (Value.ref a :: st) h Q := wp_aload (show (lcode 123)[0]? = some (.aload 0) by decide +kernel) rfl
theorem x123_1 : WP d 123 1 [l0, l1, l2, l3, l4] (v :: st) h Q ↔ (sh st ∧ CALL d 116 [v] h (fun v h => WP d 123 2 [l0, l1, l2, l3, l4] (v.toList ++ st) h Q)) := wp_call (n := 1) (show (lcode 123)[1]? = some (.invokestatic 116) by decide +kernel) (by decide +kernel) (by simp)
theorem x123_2 : WP d 123 2 [l0, l1, l2, l3, l4] (vI x :: st) h Q ↔ (nl l0 ∧ WP d 123 3 [l0, some (vI x), l2, l3, l4] st h Q) := wp_istore (show (lcode 123)[2]? = some (.istore 1) by decide +kernel) (Nat.le_of_ble_eq_true rfl)
theorem x123_3 : WP d 123 3 [l0, some (vI x), l2, l3, l4] st h Q ↔ WP d 123 4 [l0, some (vI x), l2, l3, l4] (vI x :: st) h Q := wp_iload (show (lcode 123)[3]? = some (.iload 1) by decide +kernel) rfl
theorem x123_4 : WP d 123 4 [l0, l1, l2, l3, l4] st h Q ↔ WP d 123 5 [l0, l1, l2, l3, l4] (vI 99 :: st) h Q := wp_iconst (show (lcode 123)[4]? = some (.iconst 99) by decide +kernel)
theorem x123_5 : WP d 123 5 [l0, l1, l2, l3, l4] (vI y :: vI x :: st) h Q ↔ ((¬ wr x = wr y → WP d 123 8 [l0, l1, l2, l3, l4] st h Q) ∧ (¬ (¬ wr x = wr y) → WP d 123 6 [l0, l1, l2, l3, l4] st h Q)) := wp_icmp_ne (show (lcode 123)[5]? = some (.if_icmp .ne 8) by decide +kernel)
theorem x123_6 : WP d 123 6 [l0, l1, l2, l3, l4] st h Q ↔ WP d 123 7 [l0, l1, l2, l3, l4] (vI 0 :: st) h Q := wp_iconst (show (lcode 123)[6]? = some (.iconst 0) by decide +kernel)
theorem x123_7 : WP d 123 7 [l0, l1, l2, l3, l4] st h Q ↔ WP d 123 24 [l0, l1, l2, l3, l4] st h Q := wp_goto (show (lcode 123)[7]? = some (.goto 24) by decide +kernel)
theorem x123_8 : WP d 123 8 [l0, some (vI x), l2, l3, l4] st h Q ↔ WP d 123 9 [l0, some (vI x), l2, l3, l4] (vI x :: st) h Q := wp_iload (show (lcode 123)[8]? = some (.iload 1) by decide +kernel) rfl
theorem x123_9 : WP d 123 9 [l0, l1, l2, l3, l4] st h Q ↔ WP d 123 10 [l0, l1, l2, l3, l4] (vI 112 :: st) h Q := wp_iconst (show (lcode 123)[9]? = some (.iconst 112) by decide +kernel)
theorem x123_10 : WP d 123 10 [l0, l1, l2, l3, l4] (vI y :: vI x :: st) h Q ↔ ((¬ wr x = wr y → WP d 123 13 [l0, l1, l2, l3, l4] st h Q) ∧ (¬ (¬ wr x = wr y) → WP d 123 11 [l0, l1, l2, l3, l4] st h Q)) := wp_icmp_ne (show (lcode 123)[10]? = some (.if_icmp .ne 13) by decide +kernel)
theorem x123_11 : WP d 123 11 [l0, l1, l2, l3, l4] st h Q ↔ WP d 123 12 [l0, l1, l2, l3, l4] (vI 1 :: st) h Q := wp_iconst (show (lcode 123)[11]? = some (.iconst 1) by decide +kernel)
theorem x123_12 : WP d 123 12 [l0, l1, l2, l3, l4] st h Q ↔ WP d 123 24 [l0, l1, l2, l3, l4] st h Q := wp_goto (show (lcode 123)[12]? = some (.goto 24) by decide +kernel)
theorem x123_13 : WP d 123 13 [l0, some (vI x), l2, l3, l4] st h Q ↔ WP d 123 14 [l0, some (vI x), l2, l3, l4] (vI x :: st) h Q := wp_iload (show (lcode 123)[13]? = some (.iload 1) by decide +kernel) rfl
theorem x123_14 : WP d 123 14 [l0, l1, l2, l3, l4] st h Q ↔ WP d 123 15 [l0, l1, l2, l3, l4] (vI 106 :: st) h Q := wp_iconst (show (lcode 123)[14]? = some (.iconst 106) by decide +kernel)
theorem x123_15 : WP d 123 15 [l0, l1, l2, l3, l4] (vI y :: vI x :: st) h Q ↔ ((¬ wr x = wr y → WP d 123 18 [l0, l1, l2, l3, l4] st h Q) ∧ (¬ (¬ wr x = wr y) → WP d 123 16 [l0, l1, l2, l3, l4] st h Q)) := wp_icmp_ne (show (lcode 123)[15]? = some (.if_icmp .ne 18) by decide +kernel)
theorem x123_16 : WP d 123 16 [l0, l1, l2, l3, l4] st h Q ↔ WP d 123 17 [l0, l1, l2, l3, l4] (vI 2 :: st) h Q := wp_iconst (show (lcode 123)[16]? = some (.iconst 2) by decide +kernel)
theorem x123_17 : WP d 123 17 [l0, l1, l2, l3, l4] st h Q ↔ WP d 123 24 [l0, l1, l2, l3, l4] st h Q := wp_goto (show (lcode 123)[17]? = some (.goto 24) by decide +kernel)
theorem x123_18 : WP d 123 18 [l0, some (vI x), l2, l3, l4] st h Q ↔ WP d 123 19 [l0, some (vI x), l2, l3, l4] (vI x :: st) h Q := wp_iload (show (lcode 123)[18]? = some (.iload 1) by decide +kernel) rfl
theorem x123_19 : WP d 123 19 [l0, l1, l2, l3, l4] st h Q ↔ WP d 123 20 [l0, l1, l2, l3, l4] (vI 119 :: st) h Q := wp_iconst (show (lcode 123)[19]? = some (.iconst 119) by decide +kernel)
theorem x123_20 : WP d 123 20 [l0, l1, l2, l3, l4] (vI y :: vI x :: st) h Q ↔ ((¬ wr x = wr y → WP d 123 23 [l0, l1, l2, l3, l4] st h Q) ∧ (¬ (¬ wr x = wr y) → WP d 123 21 [l0, l1, l2, l3, l4] st h Q)) := wp_icmp_ne (show (lcode 123)[20]? = some (.if_icmp .ne 23) by decide +kernel)
theorem x123_21 : WP d 123 21 [l0, l1, l2, l3, l4] st h Q ↔ WP d 123 22 [l0, l1, l2, l3, l4] (vI 3 :: st) h Q := wp_iconst (show (lcode 123)[21]? = some (.iconst 3) by decide +kernel)
theorem x123_22 : WP d 123 22 [l0, l1, l2, l3, l4] st h Q ↔ WP d 123 24 [l0, l1, l2, l3, l4] st h Q := wp_goto (show (lcode 123)[22]? = some (.goto 24) by decide +kernel)
theorem x123_23 : WP d 123 23 [l0, l1, l2, l3, l4] st h Q ↔ WP d 123 24 [l0, l1, l2, l3, l4] (vI (-1) :: st) h Q := wp_iconst (show (lcode 123)[23]? = some (.iconst (-1)) by decide +kernel)
theorem x123_24 : WP d 123 24 [l0, l1, l2, l3, l4] (vI x :: st) h Q ↔ (nl l1 ∧ WP d 123 25 [l0, l1, some (vI x), l3, l4] st h Q) := wp_istore (show (lcode 123)[24]? = some (.istore 2) by decide +kernel) (Nat.le_of_ble_eq_true rfl)
theorem x123_25 : WP d 123 25 [l0, l1, some (vI x), l3, l4] st h Q ↔ WP d 123 26 [l0, l1, some (vI x), l3, l4] (vI x :: st) h Q := wp_iload (show (lcode 123)[25]? = some (.iload 2) by decide +kernel) rfl
theorem x123_26 : WP d 123 26 [l0, l1, l2, l3, l4] (vI x :: st) h Q ↔ ((wr x < 0 → WP d 123 34 [l0, l1, l2, l3, l4] st h Q) ∧ (¬ (wr x < 0) → WP d 123 27 [l0, l1, l2, l3, l4] st h Q)) := wp_if_lt (show (lcode 123)[26]? = some (.ifCond .lt 34) by decide +kernel)
theorem x123_27 : WP d 123 27 [l0, l1, some (vI x), l3, l4] st h Q ↔ WP d 123 28 [l0, l1, some (vI x), l3, l4] (vI x :: st) h Q := wp_iload (show (lcode 123)[27]? = some (.iload 2) by decide +kernel) rfl
theorem x123_28 : WP d 123 28 [l0, l1, l2, l3, l4] (vI x :: st) h Q ↔ ((wr x ≤ 0 → WP d 123 40 [l0, l1, l2, l3, l4] st h Q) ∧ (¬ (wr x ≤ 0) → WP d 123 29 [l0, l1, l2, l3, l4] st h Q)) := wp_if_le (show (lcode 123)[28]? = some (.ifCond .le 40) by decide +kernel)
theorem x123_29 : WP d 123 29 [some (Value.ref a), l1, l2, l3, l4] st h Q ↔ WP d 123 30 [some (Value.ref a), l1, l2, l3, l4] (Value.ref a :: st) h Q := wp_aload (show (lcode 123)[29]? = some (.aload 0) by decide +kernel) rfl
theorem x123_30 : WP d 123 30 [l0, l1, l2, l3, l4] (.ref a :: st) h Q ↔ gF (hRd h a) 11 14 (fun v => WP d 123 31 [l0, l1, l2, l3, l4] (v :: st) h Q) := wp_getfield (show (lcode 123)[30]? = some (.getfield 718) by decide +kernel)
theorem x123_31 : WP d 123 31 [l0, l1, l2, l3, l4] st h Q ↔ WP d 123 32 [l0, l1, l2, l3, l4] (vI 0 :: st) h Q := wp_iconst (show (lcode 123)[31]? = some (.iconst 0) by decide +kernel)
theorem x123_32 : WP d 123 32 [l0, l1, l2, l3, l4] (vI x :: .ref a :: st) h Q ↔ ldA (hRd h a) x (fun v => WP d 123 33 [l0, l1, l2, l3, l4] (v :: st) h Q) := wp_iaload (show (lcode 123)[32]? = some (.iaload) by decide +kernel)
theorem x123_33 : WP d 123 33 [l0, l1, l2, l3, l4] (vI x :: st) h Q ↔ ((¬ wr x = 0 → WP d 123 40 [l0, l1, l2, l3, l4] st h Q) ∧ (¬ (¬ wr x = 0) → WP d 123 34 [l0, l1, l2, l3, l4] st h Q)) := wp_if_ne (show (lcode 123)[33]? = some (.ifCond .ne 40) by decide +kernel)
theorem x123_34 : WP d 123 34 [some (Value.ref a), l1, l2, l3, l4] st h Q ↔ WP d 123 35 [some (Value.ref a), l1, l2, l3, l4] (Value.ref a :: st) h Q := wp_aload (show (lcode 123)[34]? = some (.aload 0) by decide +kernel) rfl
theorem x123_35 : WP d 123 35 [l0, l1, l2, l3, l4] st h Q ↔ WP d 123 36 [l0, l1, l2, l3, l4] (vI 1 :: st) h Q := wp_iconst (show (lcode 123)[35]? = some (.iconst 1) by decide +kernel)
theorem x123_36 : WP d 123 36 [some (Value.ref a), l1, l2, l3, l4] st h Q ↔ WP d 123 37 [some (Value.ref a), l1, l2, l3, l4] (Value.ref a :: st) h Q := wp_aload (show (lcode 123)[36]? = some (.aload 0) by decide +kernel) rfl
theorem x123_37 : WP d 123 37 [l0, l1, l2, l3, l4] (.ref a :: st) h Q ↔ gF (hRd h a) 11 11 (fun v => WP d 123 38 [l0, l1, l2, l3, l4] (v :: st) h Q) := wp_getfield (show (lcode 123)[37]? = some (.getfield 715) by decide +kernel)
theorem x123_38 : WP d 123 38 [l0, l1, l2, l3, l4] (v2 :: v1 :: v :: st) h Q ↔ (sh st ∧ CALL d 117 [v, v1, v2] h (fun v h => WP d 123 39 [l0, l1, l2, l3, l4] (v.toList ++ st) h Q)) := wp_call (n := 3) (show (lcode 123)[38]? = some (.invokestatic 117) by decide +kernel) (by decide +kernel) (by simp)
theorem x123_39 : WP d 123 39 [l0, l1, l2, l3, l4] [vI x] h Q ↔ Q (some (vI x)) h := wp_ireturn (show (lcode 123)[39]? = some (.ireturn) by decide +kernel)
theorem x123_40 : WP d 123 40 [l0, l1, some (vI x), l3, l4] st h Q ↔ WP d 123 41 [l0, l1, some (vI x), l3, l4] (vI x :: st) h Q := wp_iload (show (lcode 123)[40]? = some (.iload 2) by decide +kernel) rfl
theorem x123_41 : WP d 123 41 [l0, l1, l2, l3, l4] (vI x :: st) h Q ↔ ((¬ wr x = 0 → WP d 123 51 [l0, l1, l2, l3, l4] st h Q) ∧ (¬ (¬ wr x = 0) → WP d 123 42 [l0, l1, l2, l3, l4] st h Q)) := wp_if_ne (show (lcode 123)[41]? = some (.ifCond .ne 51) by decide +kernel)
theorem x123_42 : WP d 123 42 [some (Value.ref a), l1, l2, l3, l4] st h Q ↔ WP d 123 43 [some (Value.ref a), l1, l2, l3, l4] (Value.ref a :: st) h Q := wp_aload (show (lcode 123)[42]? = some (.aload 0) by decide +kernel) rfl
theorem x123_43 : WP d 123 43 [l0, l1, l2, l3, l4] (.ref a :: st) h Q ↔ gF (hRd h a) 11 14 (fun v => WP d 123 44 [l0, l1, l2, l3, l4] (v :: st) h Q) := wp_getfield (show (lcode 123)[43]? = some (.getfield 718) by decide +kernel)
theorem x123_44 : WP d 123 44 [l0, l1, l2, l3, l4] st h Q ↔ WP d 123 45 [l0, l1, l2, l3, l4] (vI 0 :: st) h Q := wp_iconst (show (lcode 123)[44]? = some (.iconst 0) by decide +kernel)
theorem x123_45 : WP d 123 45 [l0, l1, l2, l3, l4] (vI x :: .ref a :: st) h Q ↔ ldA (hRd h a) x (fun v => WP d 123 46 [l0, l1, l2, l3, l4] (v :: st) h Q) := wp_iaload (show (lcode 123)[45]? = some (.iaload) by decide +kernel)
theorem x123_46 : WP d 123 46 [l0, l1, l2, l3, l4] (vI x :: st) h Q ↔ ((wr x ≤ 0 → WP d 123 49 [l0, l1, l2, l3, l4] st h Q) ∧ (¬ (wr x ≤ 0) → WP d 123 47 [l0, l1, l2, l3, l4] st h Q)) := wp_if_le (show (lcode 123)[46]? = some (.ifCond .le 49) by decide +kernel)
theorem x123_47 : WP d 123 47 [l0, l1, l2, l3, l4] st h Q ↔ WP d 123 48 [l0, l1, l2, l3, l4] (vI 1 :: st) h Q := wp_iconst (show (lcode 123)[47]? = some (.iconst 1) by decide +kernel)
theorem x123_48 : WP d 123 48 [l0, l1, l2, l3, l4] st h Q ↔ WP d 123 72 [l0, l1, l2, l3, l4] st h Q := wp_goto (show (lcode 123)[48]? = some (.goto 72) by decide +kernel)
theorem x123_49 : WP d 123 49 [l0, l1, l2, l3, l4] st h Q ↔ WP d 123 50 [l0, l1, l2, l3, l4] (vI 0 :: st) h Q := wp_iconst (show (lcode 123)[49]? = some (.iconst 0) by decide +kernel)
theorem x123_50 : WP d 123 50 [l0, l1, l2, l3, l4] st h Q ↔ WP d 123 72 [l0, l1, l2, l3, l4] st h Q := wp_goto (show (lcode 123)[50]? = some (.goto 72) by decide +kernel)
theorem x123_51 : WP d 123 51 [l0, l1, some (vI x), l3, l4] st h Q ↔ WP d 123 52 [l0, l1, some (vI x), l3, l4] (vI x :: st) h Q := wp_iload (show (lcode 123)[51]? = some (.iload 2) by decide +kernel) rfl
theorem x123_52 : WP d 123 52 [l0, l1, l2, l3, l4] st h Q ↔ WP d 123 53 [l0, l1, l2, l3, l4] (vI 1 :: st) h Q := wp_iconst (show (lcode 123)[52]? = some (.iconst 1) by decide +kernel)
theorem x123_53 : WP d 123 53 [l0, l1, l2, l3, l4] (vI y :: vI x :: st) h Q ↔ ((¬ wr x = wr y → WP d 123 62 [l0, l1, l2, l3, l4] st h Q) ∧ (¬ (¬ wr x = wr y) → WP d 123 54 [l0, l1, l2, l3, l4] st h Q)) := wp_icmp_ne (show (lcode 123)[53]? = some (.if_icmp .ne 62) by decide +kernel)
theorem x123_54 : WP d 123 54 [some (Value.ref a), l1, l2, l3, l4] st h Q ↔ WP d 123 55 [some (Value.ref a), l1, l2, l3, l4] (Value.ref a :: st) h Q := wp_aload (show (lcode 123)[54]? = some (.aload 0) by decide +kernel) rfl
theorem x123_55 : WP d 123 55 [l0, l1, l2, l3, l4] (.ref a :: st) h Q ↔ gF (hRd h a) 11 15 (fun v => WP d 123 56 [l0, l1, l2, l3, l4] (v :: st) h Q) := wp_getfield (show (lcode 123)[55]? = some (.getfield 719) by decide +kernel)
theorem x123_56 : WP d 123 56 [l0, l1, l2, l3, l4] st h Q ↔ WP d 123 57 [l0, l1, l2, l3, l4] (vI 6 :: st) h Q := wp_iconst (show (lcode 123)[56]? = some (.iconst 6) by decide +kernel)
theorem x123_57 : WP d 123 57 [l0, l1, l2, l3, l4] (vI y :: vI x :: st) h Q ↔ ((¬ wr x = wr y → WP d 123 60 [l0, l1, l2, l3, l4] st h Q) ∧ (¬ (¬ wr x = wr y) → WP d 123 58 [l0, l1, l2, l3, l4] st h Q)) := wp_icmp_ne (show (lcode 123)[57]? = some (.if_icmp .ne 60) by decide +kernel)
theorem x123_58 : WP d 123 58 [l0, l1, l2, l3, l4] st h Q ↔ WP d 123 59 [l0, l1, l2, l3, l4] (vI 1 :: st) h Q := wp_iconst (show (lcode 123)[58]? = some (.iconst 1) by decide +kernel)
theorem x123_59 : WP d 123 59 [l0, l1, l2, l3, l4] st h Q ↔ WP d 123 72 [l0, l1, l2, l3, l4] st h Q := wp_goto (show (lcode 123)[59]? = some (.goto 72) by decide +kernel)
theorem x123_60 : WP d 123 60 [l0, l1, l2, l3, l4] st h Q ↔ WP d 123 61 [l0, l1, l2, l3, l4] (vI 0 :: st) h Q := wp_iconst (show (lcode 123)[60]? = some (.iconst 0) by decide +kernel)
theorem x123_61 : WP d 123 61 [l0, l1, l2, l3, l4] st h Q ↔ WP d 123 72 [l0, l1, l2, l3, l4] st h Q := wp_goto (show (lcode 123)[61]? = some (.goto 72) by decide +kernel)
theorem x123_62 : WP d 123 62 [l0, l1, some (vI x), l3, l4] st h Q ↔ WP d 123 63 [l0, l1, some (vI x), l3, l4] (vI x :: st) h Q := wp_iload (show (lcode 123)[62]? = some (.iload 2) by decide +kernel) rfl
theorem x123_63 : WP d 123 63 [l0, l1, l2, l3, l4] st h Q ↔ WP d 123 64 [l0, l1, l2, l3, l4] (vI 2 :: st) h Q := wp_iconst (show (lcode 123)[63]? = some (.iconst 2) by decide +kernel)
theorem x123_64 : WP d 123 64 [l0, l1, l2, l3, l4] (vI y :: vI x :: st) h Q ↔ ((¬ wr x = wr y → WP d 123 71 [l0, l1, l2, l3, l4] st h Q) ∧ (¬ (¬ wr x = wr y) → WP d 123 65 [l0, l1, l2, l3, l4] st h Q)) := wp_icmp_ne (show (lcode 123)[64]? = some (.if_icmp .ne 71) by decide +kernel)
theorem x123_65 : WP d 123 65 [some (Value.ref a), l1, l2, l3, l4] st h Q ↔ WP d 123 66 [some (Value.ref a), l1, l2, l3, l4] (Value.ref a :: st) h Q := wp_aload (show (lcode 123)[65]? = some (.aload 0) by decide +kernel) rfl
theorem x123_66 : WP d 123 66 [l0, l1, l2, l3, l4] (.ref a :: st) h Q ↔ gF (hRd h a) 11 17 (fun v => WP d 123 67 [l0, l1, l2, l3, l4] (v :: st) h Q) := wp_getfield (show (lcode 123)[66]? = some (.getfield 721) by decide +kernel)
theorem x123_67 : WP d 123 67 [l0, l1, l2, l3, l4] st h Q ↔ WP d 123 68 [l0, l1, l2, l3, l4] (vI 8 :: st) h Q := wp_iconst (show (lcode 123)[67]? = some (.iconst 8) by decide +kernel)
theorem x123_68 : WP d 123 68 [l0, l1, l2, l3, l4] (vI y :: vI x :: st) h Q ↔ ((¬ wr x = wr y → WP d 123 71 [l0, l1, l2, l3, l4] st h Q) ∧ (¬ (¬ wr x = wr y) → WP d 123 69 [l0, l1, l2, l3, l4] st h Q)) := wp_icmp_ne (show (lcode 123)[68]? = some (.if_icmp .ne 71) by decide +kernel)
theorem x123_69 : WP d 123 69 [l0, l1, l2, l3, l4] st h Q ↔ WP d 123 70 [l0, l1, l2, l3, l4] (vI 1 :: st) h Q := wp_iconst (show (lcode 123)[69]? = some (.iconst 1) by decide +kernel)
theorem x123_70 : WP d 123 70 [l0, l1, l2, l3, l4] st h Q ↔ WP d 123 72 [l0, l1, l2, l3, l4] st h Q := wp_goto (show (lcode 123)[70]? = some (.goto 72) by decide +kernel)
theorem x123_71 : WP d 123 71 [l0, l1, l2, l3, l4] st h Q ↔ WP d 123 72 [l0, l1, l2, l3, l4] (vI 0 :: st) h Q := wp_iconst (show (lcode 123)[71]? = some (.iconst 0) by decide +kernel)
theorem x123_72 : WP d 123 72 [l0, l1, l2, l3, l4] (vI x :: st) h Q ↔ (nl l2 ∧ WP d 123 73 [l0, l1, l2, some (vI x), l4] st h Q) := wp_istore (show (lcode 123)[72]? = some (.istore 3) by decide +kernel) (Nat.le_of_ble_eq_true rfl)
theorem x123_73 : WP d 123 73 [l0, l1, l2, some (vI x), l4] st h Q ↔ WP d 123 74 [l0, l1, l2, some (vI x), l4] (vI x :: st) h Q := wp_iload (show (lcode 123)[73]? = some (.iload 3) by decide +kernel) rfl
theorem x123_74 : WP d 123 74 [l0, l1, l2, l3, l4] (vI x :: st) h Q ↔ ((wr x = 0 → WP d 123 81 [l0, l1, l2, l3, l4] st h Q) ∧ (¬ (wr x = 0) → WP d 123 75 [l0, l1, l2, l3, l4] st h Q)) := wp_if_eq (show (lcode 123)[74]? = some (.ifCond .eq 81) by decide +kernel)
theorem x123_75 : WP d 123 75 [some (Value.ref a), l1, l2, l3, l4] st h Q ↔ WP d 123 76 [some (Value.ref a), l1, l2, l3, l4] (Value.ref a :: st) h Q := wp_aload (show (lcode 123)[75]? = some (.aload 0) by decide +kernel) rfl
theorem x123_76 : WP d 123 76 [l0, l1, l2, l3, l4] st h Q ↔ WP d 123 77 [l0, l1, l2, l3, l4] (vI 3 :: st) h Q := wp_iconst (show (lcode 123)[76]? = some (.iconst 3) by decide +kernel)
theorem x123_77 : WP d 123 77 [some (Value.ref a), l1, l2, l3, l4] st h Q ↔ WP d 123 78 [some (Value.ref a), l1, l2, l3, l4] (Value.ref a :: st) h Q := wp_aload (show (lcode 123)[77]? = some (.aload 0) by decide +kernel) rfl
theorem x123_78 : WP d 123 78 [l0, l1, l2, l3, l4] (.ref a :: st) h Q ↔ gF (hRd h a) 11 11 (fun v => WP d 123 79 [l0, l1, l2, l3, l4] (v :: st) h Q) := wp_getfield (show (lcode 123)[78]? = some (.getfield 715) by decide +kernel)
theorem x123_79 : WP d 123 79 [l0, l1, l2, l3, l4] (v2 :: v1 :: v :: st) h Q ↔ (sh st ∧ CALL d 117 [v, v1, v2] h (fun v h => WP d 123 80 [l0, l1, l2, l3, l4] (v.toList ++ st) h Q)) := wp_call (n := 3) (show (lcode 123)[79]? = some (.invokestatic 117) by decide +kernel) (by decide +kernel) (by simp)
theorem x123_80 : WP d 123 80 [l0, l1, l2, l3, l4] [vI x] h Q ↔ Q (some (vI x)) h := wp_ireturn (show (lcode 123)[80]? = some (.ireturn) by decide +kernel)
theorem x123_81 : WP d 123 81 [some (Value.ref a), l1, l2, l3, l4] st h Q ↔ WP d 123 82 [some (Value.ref a), l1, l2, l3, l4] (Value.ref a :: st) h Q := wp_aload (show (lcode 123)[81]? = some (.aload 0) by decide +kernel) rfl
theorem x123_82 : WP d 123 82 [l0, l1, l2, l3, l4] (v :: st) h Q ↔ (c1 v ∧ WP d 123 83 [l0, l1, l2, l3, l4] (v :: v :: st) h Q) := wp_dup (show (lcode 123)[82]? = some (.dup) by decide +kernel)
theorem x123_83 : WP d 123 83 [l0, l1, l2, l3, l4] (.ref a :: st) h Q ↔ gF (hRd h a) 11 11 (fun v => WP d 123 84 [l0, l1, l2, l3, l4] (v :: st) h Q) := wp_getfield (show (lcode 123)[83]? = some (.getfield 715) by decide +kernel)
theorem x123_84 : WP d 123 84 [l0, l1, l2, l3, l4] st h Q ↔ WP d 123 85 [l0, l1, l2, l3, l4] (vI 1 :: st) h Q := wp_iconst (show (lcode 123)[84]? = some (.iconst 1) by decide +kernel)
theorem x123_85 : WP d 123 85 [l0, l1, l2, l3, l4] (vI y :: vI x :: st) h Q ↔ WP d 123 86 [l0, l1, l2, l3, l4] (vI (x + y) :: st) h Q := wp_iadd (show (lcode 123)[85]? = some (.iadd) by decide +kernel)
theorem x123_86 : WP d 123 86 [l0, l1, l2, l3, l4] (vI x :: .ref a :: st) h Q ↔ pF (hRd h a) 11 11 (vI x) (fun c => WP d 123 87 [l0, l1, l2, l3, l4] st (hWr h a c) Q) := wp_putfield (show (lcode 123)[86]? = some (.putfield 715) by decide +kernel)
theorem x123_87 : WP d 123 87 [l0, l1, some (vI x), l3, l4] st h Q ↔ WP d 123 88 [l0, l1, some (vI x), l3, l4] (vI x :: st) h Q := wp_iload (show (lcode 123)[87]? = some (.iload 2) by decide +kernel) rfl
theorem x123_88 : WP d 123 88 [l0, l1, l2, l3, l4] (vI x :: st) h Q ↔ ((¬ wr x = 0 → WP d 123 97 [l0, l1, l2, l3, l4] st h Q) ∧ (¬ (¬ wr x = 0) → WP d 123 89 [l0, l1, l2, l3, l4] st h Q)) := wp_if_ne (show (lcode 123)[88]? = some (.ifCond .ne 97) by decide +kernel)
theorem x123_89 : WP d 123 89 [some (Value.ref a), l1, l2, l3, l4] st h Q ↔ WP d 123 90 [some (Value.ref a), l1, l2, l3, l4] (Value.ref a :: st) h Q := wp_aload (show (lcode 123)[89]? = some (.aload 0) by decide +kernel) rfl
theorem x123_90 : WP d 123 90 [some (Value.ref a), l1, l2, l3, l4] st h Q ↔ WP d 123 91 [some (Value.ref a), l1, l2, l3, l4] (Value.ref a :: st) h Q := wp_aload (show (lcode 123)[90]? = some (.aload 0) by decide +kernel) rfl
theorem x123_91 : WP d 123 91 [l0, l1, l2, l3, l4] (.ref a :: st) h Q ↔ gF (hRd h a) 11 14 (fun v => WP d 123 92 [l0, l1, l2, l3, l4] (v :: st) h Q) := wp_getfield (show (lcode 123)[91]? = some (.getfield 718) by decide +kernel)
theorem x123_92 : WP d 123 92 [l0, l1, l2, l3, l4] st h Q ↔ WP d 123 93 [l0, l1, l2, l3, l4] (vI 0 :: st) h Q := wp_iconst (show (lcode 123)[92]? = some (.iconst 0) by decide +kernel)
theorem x123_93 : WP d 123 93 [l0, l1, l2, l3, l4] st h Q ↔ WP d 123 94 [l0, l1, l2, l3, l4] (vI 10 :: st) h Q := wp_iconst (show (lcode 123)[93]? = some (.iconst 10) by decide +kernel)
theorem x123_94 : WP d 123 94 [l0, l1, l2, l3, l4] st h Q ↔ WP d 123 95 [l0, l1, l2, l3, l4] (vI 999 :: st) h Q := wp_iconst (show (lcode 123)[94]? = some (.iconst 999) by decide +kernel)
theorem x123_95 : WP d 123 95 [l0, l1, l2, l3, l4] (q4 :: q3 :: q2 :: q1 :: q0 :: st) h Q ↔ (sh st ∧ CALL d 119 [q0, q1, q2, q3, q4] h (fun v h => WP d 123 96 [l0, l1, l2, l3, l4] (v.toList ++ st) h Q)) := wp_call (n := 5) (show (lcode 123)[95]? = some (.invokestatic 119) by decide +kernel) (by decide +kernel) (by simp)
theorem x123_96 : WP d 123 96 [l0, l1, l2, l3, l4] st h Q ↔ WP d 123 111 [l0, l1, l2, l3, l4] st h Q := wp_goto (show (lcode 123)[96]? = some (.goto 111) by decide +kernel)
theorem x123_97 : WP d 123 97 [l0, l1, some (vI x), l3, l4] st h Q ↔ WP d 123 98 [l0, l1, some (vI x), l3, l4] (vI x :: st) h Q := wp_iload (show (lcode 123)[97]? = some (.iload 2) by decide +kernel) rfl
theorem x123_98 : WP d 123 98 [l0, l1, l2, l3, l4] st h Q ↔ WP d 123 99 [l0, l1, l2, l3, l4] (vI 1 :: st) h Q := wp_iconst (show (lcode 123)[98]? = some (.iconst 1) by decide +kernel)
theorem x123_99 : WP d 123 99 [l0, l1, l2, l3, l4] (vI y :: vI x :: st) h Q ↔ ((¬ wr x = wr y → WP d 123 103 [l0, l1, l2, l3, l4] st h Q) ∧ (¬ (¬ wr x = wr y) → WP d 123 100 [l0, l1, l2, l3, l4] st h Q)) := wp_icmp_ne (show (lcode 123)[99]? = some (.if_icmp .ne 103) by decide +kernel)
theorem x123_100 : WP d 123 100 [some (Value.ref a), l1, l2, l3, l4] st h Q ↔ WP d 123 101 [some (Value.ref a), l1, l2, l3, l4] (Value.ref a :: st) h Q := wp_aload (show (lcode 123)[100]? = some (.aload 0) by decide +kernel) rfl
theorem x123_101 : WP d 123 101 [l0, l1, l2, l3, l4] (v :: st) h Q ↔ (sh st ∧ CALL d 120 [v] h (fun v h => WP d 123 102 [l0, l1, l2, l3, l4] (v.toList ++ st) h Q)) := wp_call (n := 1) (show (lcode 123)[101]? = some (.invokestatic 120) by decide +kernel) (by decide +kernel) (by simp)
theorem x123_102 : WP d 123 102 [l0, l1, l2, l3, l4] st h Q ↔ WP d 123 111 [l0, l1, l2, l3, l4] st h Q := wp_goto (show (lcode 123)[102]? = some (.goto 111) by decide +kernel)
theorem x123_103 : WP d 123 103 [l0, l1, some (vI x), l3, l4] st h Q ↔ WP d 123 104 [l0, l1, some (vI x), l3, l4] (vI x :: st) h Q := wp_iload (show (lcode 123)[103]? = some (.iload 2) by decide +kernel) rfl
theorem x123_104 : WP d 123 104 [l0, l1, l2, l3, l4] st h Q ↔ WP d 123 105 [l0, l1, l2, l3, l4] (vI 2 :: st) h Q := wp_iconst (show (lcode 123)[104]? = some (.iconst 2) by decide +kernel)
theorem x123_105 : WP d 123 105 [l0, l1, l2, l3, l4] (vI y :: vI x :: st) h Q ↔ ((¬ wr x = wr y → WP d 123 109 [l0, l1, l2, l3, l4] st h Q) ∧ (¬ (¬ wr x = wr y) → WP d 123 106 [l0, l1, l2, l3, l4] st h Q)) := wp_icmp_ne (show (lcode 123)[105]? = some (.if_icmp .ne 109) by decide +kernel)
theorem x123_106 : WP d 123 106 [some (Value.ref a), l1, l2, l3, l4] st h Q ↔ WP d 123 107 [some (Value.ref a), l1, l2, l3, l4] (Value.ref a :: st) h Q := wp_aload (show (lcode 123)[106]? = some (.aload 0) by decide +kernel) rfl
theorem x123_107 : WP d 123 107 [l0, l1, l2, l3, l4] (v :: st) h Q ↔ (sh st ∧ CALL d 121 [v] h (fun v h => WP d 123 108 [l0, l1, l2, l3, l4] (v.toList ++ st) h Q)) := wp_call (n := 1) (show (lcode 123)[107]? = some (.invokestatic 121) by decide +kernel) (by decide +kernel) (by simp)
theorem x123_108 : WP d 123 108 [l0, l1, l2, l3, l4] st h Q ↔ WP d 123 111 [l0, l1, l2, l3, l4] st h Q := wp_goto (show (lcode 123)[108]? = some (.goto 111) by decide +kernel)
theorem x123_109 : WP d 123 109 [some (Value.ref a), l1, l2, l3, l4] st h Q ↔ WP d 123 110 [some (Value.ref a), l1, l2, l3, l4] (Value.ref a :: st) h Q := wp_aload (show (lcode 123)[109]? = some (.aload 0) by decide +kernel) rfl
theorem x123_110 : WP d 123 110 [l0, l1, l2, l3, l4] (v :: st) h Q ↔ (sh st ∧ CALL d 122 [v] h (fun v h => WP d 123 111 [l0, l1, l2, l3, l4] (v.toList ++ st) h Q)) := wp_call (n := 1) (show (lcode 123)[110]? = some (.invokestatic 122) by decide +kernel) (by decide +kernel) (by simp)
theorem x123_111 : WP d 123 111 [l0, l1, l2, l3, l4] (vI x :: st) h Q ↔ (nl l3 ∧ WP d 123 112 [l0, l1, l2, l3, some (vI x)] st h Q) := wp_istore (show (lcode 123)[111]? = some (.istore 4) by decide +kernel) (Nat.le_of_ble_eq_true rfl)
theorem x123_112 : WP d 123 112 [l0, l1, l2, l3, some (vI x)] st h Q ↔ WP d 123 113 [l0, l1, l2, l3, some (vI x)] (vI x :: st) h Q := wp_iload (show (lcode 123)[112]? = some (.iload 4) by decide +kernel) rfl
theorem x123_113 : WP d 123 113 [l0, l1, l2, l3, l4] (vI x :: st) h Q ↔ ((¬ wr x = 0 → WP d 123 124 [l0, l1, l2, l3, l4] st h Q) ∧ (¬ (¬ wr x = 0) → WP d 123 114 [l0, l1, l2, l3, l4] st h Q)) := wp_if_ne (show (lcode 123)[113]? = some (.ifCond .ne 124) by decide +kernel)
theorem x123_114 : WP d 123 114 [some (Value.ref a), l1, l2, l3, l4] st h Q ↔ WP d 123 115 [some (Value.ref a), l1, l2, l3, l4] (Value.ref a :: st) h Q := wp_aload (show (lcode 123)[114]? = some (.aload 0) by decide +kernel) rfl
theorem x123_115 : WP d 123 115 [l0, l1, l2, l3, l4] (v :: st) h Q ↔ (sh st ∧ CALL d 116 [v] h (fun v h => WP d 123 116 [l0, l1, l2, l3, l4] (v.toList ++ st) h Q)) := wp_call (n := 1) (show (lcode 123)[115]? = some (.invokestatic 116) by decide +kernel) (by decide +kernel) (by simp)
theorem x123_116 : WP d 123 116 [l0, l1, l2, l3, l4] st h Q ↔ WP d 123 117 [l0, l1, l2, l3, l4] (vI 59 :: st) h Q := wp_iconst (show (lcode 123)[116]? = some (.iconst 59) by decide +kernel)
theorem x123_117 : WP d 123 117 [l0, l1, l2, l3, l4] (vI y :: vI x :: st) h Q ↔ ((wr x = wr y → WP d 123 124 [l0, l1, l2, l3, l4] st h Q) ∧ (¬ (wr x = wr y) → WP d 123 118 [l0, l1, l2, l3, l4] st h Q)) := wp_icmp_eq (show (lcode 123)[117]? = some (.if_icmp .eq 124) by decide +kernel)
theorem x123_118 : WP d 123 118 [some (Value.ref a), l1, l2, l3, l4] st h Q ↔ WP d 123 119 [some (Value.ref a), l1, l2, l3, l4] (Value.ref a :: st) h Q := wp_aload (show (lcode 123)[118]? = some (.aload 0) by decide +kernel) rfl
theorem x123_119 : WP d 123 119 [l0, l1, l2, l3, l4] st h Q ↔ WP d 123 120 [l0, l1, l2, l3, l4] (vI 1 :: st) h Q := wp_iconst (show (lcode 123)[119]? = some (.iconst 1) by decide +kernel)
theorem x123_120 : WP d 123 120 [some (Value.ref a), l1, l2, l3, l4] st h Q ↔ WP d 123 121 [some (Value.ref a), l1, l2, l3, l4] (Value.ref a :: st) h Q := wp_aload (show (lcode 123)[120]? = some (.aload 0) by decide +kernel) rfl
theorem x123_121 : WP d 123 121 [l0, l1, l2, l3, l4] (.ref a :: st) h Q ↔ gF (hRd h a) 11 11 (fun v => WP d 123 122 [l0, l1, l2, l3, l4] (v :: st) h Q) := wp_getfield (show (lcode 123)[121]? = some (.getfield 715) by decide +kernel)
theorem x123_122 : WP d 123 122 [l0, l1, l2, l3, l4] (v2 :: v1 :: v :: st) h Q ↔ (sh st ∧ CALL d 117 [v, v1, v2] h (fun v h => WP d 123 123 [l0, l1, l2, l3, l4] (v.toList ++ st) h Q)) := wp_call (n := 3) (show (lcode 123)[122]? = some (.invokestatic 117) by decide +kernel) (by decide +kernel) (by simp)
theorem x123_123 : WP d 123 123 [l0, l1, l2, l3, l4] [vI x] h Q ↔ Q (some (vI x)) h := wp_ireturn (show (lcode 123)[123]? = some (.ireturn) by decide +kernel)
theorem x123_124 : WP d 123 124 [some (Value.ref a), l1, l2, l3, l4] st h Q ↔ WP d 123 125 [some (Value.ref a), l1, l2, l3, l4] (Value.ref a :: st) h Q := wp_aload (show (lcode 123)[124]? = some (.aload 0) by decide +kernel) rfl
theorem x123_125 : WP d 123 125 [l0, l1, l2, l3, l4] (v :: st) h Q ↔ (c1 v ∧ WP d 123 126 [l0, l1, l2, l3, l4] (v :: v :: st) h Q) := wp_dup (show (lcode 123)[125]? = some (.dup) by decide +kernel)
theorem x123_126 : WP d 123 126 [l0, l1, l2, l3, l4] (.ref a :: st) h Q ↔ gF (hRd h a) 11 11 (fun v => WP d 123 127 [l0, l1, l2, l3, l4] (v :: st) h Q) := wp_getfield (show (lcode 123)[126]? = some (.getfield 715) by decide +kernel)
theorem x123_127 : WP d 123 127 [l0, l1, l2, l3, l4] st h Q ↔ WP d 123 128 [l0, l1, l2, l3, l4] (vI 1 :: st) h Q := wp_iconst (show (lcode 123)[127]? = some (.iconst 1) by decide +kernel)
theorem x123_128 : WP d 123 128 [l0, l1, l2, l3, l4] (vI y :: vI x :: st) h Q ↔ WP d 123 129 [l0, l1, l2, l3, l4] (vI (x + y) :: st) h Q := wp_iadd (show (lcode 123)[128]? = some (.iadd) by decide +kernel)
theorem x123_129 : WP d 123 129 [l0, l1, l2, l3, l4] (vI x :: .ref a :: st) h Q ↔ pF (hRd h a) 11 11 (vI x) (fun c => WP d 123 130 [l0, l1, l2, l3, l4] st (hWr h a c) Q) := wp_putfield (show (lcode 123)[129]? = some (.putfield 715) by decide +kernel)
theorem x123_130 : WP d 123 130 [l0, l1, l2, l3, some (vI x)] st h Q ↔ WP d 123 131 [l0, l1, l2, l3, some (vI x)] (vI x :: st) h Q := wp_iload (show (lcode 123)[130]? = some (.iload 4) by decide +kernel) rfl
theorem x123_131 : WP d 123 131 [l0, l1, l2, l3, l4] [vI x] h Q ↔ Q (some (vI x)) h := wp_ireturn (show (lcode 123)[131]? = some (.ireturn) by decide +kernel)
-- 124: WakeOrderModel.takeRead
theorem x124_0 : WP d 124 0 [some (Value.ref a), l1] st h Q ↔ WP d 124 1 [some (Value.ref a), l1] (Value.ref a :: st) h Q := wp_aload (show (lcode 124)[0]? = some (.aload 0) by decide +kernel) rfl
theorem x124_1 : WP d 124 1 [some (Value.ref a), l1] st h Q ↔ WP d 124 2 [some (Value.ref a), l1] (Value.ref a :: st) h Q := wp_aload (show (lcode 124)[1]? = some (.aload 0) by decide +kernel) rfl
theorem x124_2 : WP d 124 2 [l0, l1] (.ref a :: st) h Q ↔ gF (hRd h a) 11 14 (fun v => WP d 124 3 [l0, l1] (v :: st) h Q) := wp_getfield (show (lcode 124)[2]? = some (.getfield 718) by decide +kernel)
theorem x124_3 : WP d 124 3 [l0, l1] st h Q ↔ WP d 124 4 [l0, l1] (vI 0 :: st) h Q := wp_iconst (show (lcode 124)[3]? = some (.iconst 0) by decide +kernel)
theorem x124_4 : WP d 124 4 [l0, l1] (vI x :: .ref a :: st) h Q ↔ ldA (hRd h a) x (fun v => WP d 124 5 [l0, l1] (v :: st) h Q) := wp_iaload (show (lcode 124)[4]? = some (.iaload) by decide +kernel)
theorem x124_5 : WP d 124 5 [l0, l1] (vI x :: .ref a :: st) h Q ↔ pF (hRd h a) 11 0 (vI x) (fun c => WP d 124 6 [l0, l1] st (hWr h a c) Q) := wp_putfield (show (lcode 124)[5]? = some (.putfield 704) by decide +kernel)
theorem x124_6 : WP d 124 6 [some (Value.ref a), l1] st h Q ↔ WP d 124 7 [some (Value.ref a), l1] (Value.ref a :: st) h Q := wp_aload (show (lcode 124)[6]? = some (.aload 0) by decide +kernel) rfl
theorem x124_7 : WP d 124 7 [some (Value.ref a), l1] st h Q ↔ WP d 124 8 [some (Value.ref a), l1] (Value.ref a :: st) h Q := wp_aload (show (lcode 124)[7]? = some (.aload 0) by decide +kernel) rfl
theorem x124_8 : WP d 124 8 [l0, l1] (.ref a :: st) h Q ↔ gF (hRd h a) 11 15 (fun v => WP d 124 9 [l0, l1] (v :: st) h Q) := wp_getfield (show (lcode 124)[8]? = some (.getfield 719) by decide +kernel)
theorem x124_9 : WP d 124 9 [l0, l1] (vI x :: .ref a :: st) h Q ↔ pF (hRd h a) 11 1 (vI x) (fun c => WP d 124 10 [l0, l1] st (hWr h a c) Q) := wp_putfield (show (lcode 124)[9]? = some (.putfield 705) by decide +kernel)
theorem x124_10 : WP d 124 10 [some (Value.ref a), l1] st h Q ↔ WP d 124 11 [some (Value.ref a), l1] (Value.ref a :: st) h Q := wp_aload (show (lcode 124)[10]? = some (.aload 0) by decide +kernel) rfl
theorem x124_11 : WP d 124 11 [some (Value.ref a), l1] st h Q ↔ WP d 124 12 [some (Value.ref a), l1] (Value.ref a :: st) h Q := wp_aload (show (lcode 124)[11]? = some (.aload 0) by decide +kernel) rfl
theorem x124_12 : WP d 124 12 [l0, l1] (.ref a :: st) h Q ↔ gF (hRd h a) 11 17 (fun v => WP d 124 13 [l0, l1] (v :: st) h Q) := wp_getfield (show (lcode 124)[12]? = some (.getfield 721) by decide +kernel)
theorem x124_13 : WP d 124 13 [l0, l1] (vI x :: .ref a :: st) h Q ↔ pF (hRd h a) 11 2 (vI x) (fun c => WP d 124 14 [l0, l1] st (hWr h a c) Q) := wp_putfield (show (lcode 124)[13]? = some (.putfield 706) by decide +kernel)
theorem x124_14 : WP d 124 14 [l0, l1] st h Q ↔ WP d 124 15 [l0, l1] (vI 0 :: st) h Q := wp_iconst (show (lcode 124)[14]? = some (.iconst 0) by decide +kernel)
theorem x124_15 : WP d 124 15 [l0, l1] (vI x :: st) h Q ↔ (nl l0 ∧ WP d 124 16 [l0, some (vI x)] st h Q) := wp_istore (show (lcode 124)[15]? = some (.istore 1) by decide +kernel) (Nat.le_of_ble_eq_true rfl)
theorem x124_16 : WP d 124 16 [l0, l1] st h Q ↔ WPC d 124 17 [l0, l1] st h Q := wp_nop (show (lcode 124)[16]? = some (.nop) by decide +kernel)
theorem x124_17 : WP d 124 17 [l0, some (vI x)] st h Q ↔ WP d 124 18 [l0, some (vI x)] (vI x :: st) h Q := wp_iload (show (lcode 124)[17]? = some (.iload 1) by decide +kernel) rfl
theorem x124_18 : WP d 124 18 [l0, l1] st h Q ↔ WP d 124 19 [l0, l1] (vI 24 :: st) h Q := wp_iconst (show (lcode 124)[18]? = some (.iconst 24) by decide +kernel)
theorem x124_19 : WP d 124 19 [l0, l1] (vI y :: vI x :: st) h Q ↔ ((wr y ≤ wr x → WP d 124 27 [l0, l1] st h Q) ∧ (¬ (wr y ≤ wr x) → WP d 124 20 [l0, l1] st h Q)) := wp_icmp_ge (show (lcode 124)[19]? = some (.if_icmp .ge 27) by decide +kernel)
theorem x124_20 : WP d 124 20 [some (Value.ref a), l1] st h Q ↔ WP d 124 21 [some (Value.ref a), l1] (Value.ref a :: st) h Q := wp_aload (show (lcode 124)[20]? = some (.aload 0) by decide +kernel) rfl
theorem x124_21 : WP d 124 21 [l0, l1] (.ref a :: st) h Q ↔ gF (hRd h a) 11 6 (fun v => WP d 124 22 [l0, l1] (v :: st) h Q) := wp_getfield (show (lcode 124)[21]? = some (.getfield 710) by decide +kernel)
theorem x124_22 : WP d 124 22 [l0, some (vI x)] st h Q ↔ WP d 124 23 [l0, some (vI x)] (vI x :: st) h Q := wp_iload (show (lcode 124)[22]? = some (.iload 1) by decide +kernel) rfl
theorem x124_23 : WP d 124 23 [l0, l1] st h Q ↔ WP d 124 24 [l0, l1] (vI 0 :: st) h Q := wp_iconst (show (lcode 124)[23]? = some (.iconst 0) by decide +kernel)
theorem x124_24 : WP d 124 24 [l0, l1] (vI y :: vI x :: .ref a :: st) h Q ↔ stA (hRd h a) a x (vI y) (fun c => WP d 124 25 [l0, l1] st (hWr h a c) Q) := wp_iastore (show (lcode 124)[24]? = some (.iastore) by decide +kernel)
theorem x124_25 : WP d 124 25 [l0, some (vI x)] st h Q ↔ (nl l0 ∧ WP d 124 26 [l0, some (vI (x + 1))] st h Q) := wp_iinc (show (lcode 124)[25]? = some (.iinc 1 1) by decide +kernel) rfl (Nat.le_of_ble_eq_true rfl)
theorem x124_26 : WP d 124 26 [l0, l1] st h Q ↔ WP d 124 16 [l0, l1] st h Q := wp_goto (show (lcode 124)[26]? = some (.goto 16) by decide +kernel)
theorem x124_27 : WP d 124 27 [l0, l1] st h Q ↔ WP d 124 28 [l0, l1] (vI 0 :: st) h Q := wp_iconst (show (lcode 124)[27]? = some (.iconst 0) by decide +kernel)
theorem x124_28 : WP d 124 28 [l0, l1] (vI x :: st) h Q ↔ (nl l0 ∧ WP d 124 29 [l0, some (vI x)] st h Q) := wp_istore (show (lcode 124)[28]? = some (.istore 1) by decide +kernel) (Nat.le_of_ble_eq_true rfl)
theorem x124_29 : WP d 124 29 [l0, l1] st h Q ↔ WPC d 124 30 [l0, l1] st h Q := wp_nop (show (lcode 124)[29]? = some (.nop) by decide +kernel)
theorem x124_30 : WP d 124 30 [l0, some (vI x)] st h Q ↔ WP d 124 31 [l0, some (vI x)] (vI x :: st) h Q := wp_iload (show (lcode 124)[30]? = some (.iload 1) by decide +kernel) rfl
theorem x124_31 : WP d 124 31 [some (Value.ref a), l1] st h Q ↔ WP d 124 32 [some (Value.ref a), l1] (Value.ref a :: st) h Q := wp_aload (show (lcode 124)[31]? = some (.aload 0) by decide +kernel) rfl
theorem x124_32 : WP d 124 32 [l0, l1] (.ref a :: st) h Q ↔ gF (hRd h a) 11 1 (fun v => WP d 124 33 [l0, l1] (v :: st) h Q) := wp_getfield (show (lcode 124)[32]? = some (.getfield 705) by decide +kernel)
theorem x124_33 : WP d 124 33 [l0, l1] (vI y :: vI x :: st) h Q ↔ ((wr y ≤ wr x → WP d 124 59 [l0, l1] st h Q) ∧ (¬ (wr y ≤ wr x) → WP d 124 34 [l0, l1] st h Q)) := wp_icmp_ge (show (lcode 124)[33]? = some (.if_icmp .ge 59) by decide +kernel)
theorem x124_34 : WP d 124 34 [some (Value.ref a), l1] st h Q ↔ WP d 124 35 [some (Value.ref a), l1] (Value.ref a :: st) h Q := wp_aload (show (lcode 124)[34]? = some (.aload 0) by decide +kernel) rfl
theorem x124_35 : WP d 124 35 [l0, l1] (.ref a :: st) h Q ↔ gF (hRd h a) 11 5 (fun v => WP d 124 36 [l0, l1] (v :: st) h Q) := wp_getfield (show (lcode 124)[35]? = some (.getfield 709) by decide +kernel)
theorem x124_36 : WP d 124 36 [l0, some (vI x)] st h Q ↔ WP d 124 37 [l0, some (vI x)] (vI x :: st) h Q := wp_iload (show (lcode 124)[36]? = some (.iload 1) by decide +kernel) rfl
theorem x124_37 : WP d 124 37 [some (Value.ref a), l1] st h Q ↔ WP d 124 38 [some (Value.ref a), l1] (Value.ref a :: st) h Q := wp_aload (show (lcode 124)[37]? = some (.aload 0) by decide +kernel) rfl
theorem x124_38 : WP d 124 38 [l0, l1] (.ref a :: st) h Q ↔ gF (hRd h a) 11 21 (fun v => WP d 124 39 [l0, l1] (v :: st) h Q) := wp_getfield (show (lcode 124)[38]? = some (.getfield 725) by decide +kernel)
theorem x124_39 : WP d 124 39 [l0, some (vI x)] st h Q ↔ WP d 124 40 [l0, some (vI x)] (vI x :: st) h Q := wp_iload (show (lcode 124)[39]? = some (.iload 1) by decide +kernel) rfl
theorem x124_40 : WP d 124 40 [l0, l1] (vI x :: .ref a :: st) h Q ↔ ldA (hRd h a) x (fun v => WP d 124 41 [l0, l1] (v :: st) h Q) := wp_iaload (show (lcode 124)[40]? = some (.iaload) by decide +kernel)
theorem x124_41 : WP d 124 41 [l0, l1] (vI y :: vI x :: .ref a :: st) h Q ↔ stA (hRd h a) a x (vI y) (fun c => WP d 124 42 [l0, l1] st (hWr h a c) Q) := wp_iastore (show (lcode 124)[41]? = some (.iastore) by decide +kernel)
theorem x124_42 : WP d 124 42 [some (Value.ref a), l1] st h Q ↔ WP d 124 43 [some (Value.ref a), l1] (Value.ref a :: st) h Q := wp_aload (show (lcode 124)[42]? = some (.aload 0) by decide +kernel) rfl
theorem x124_43 : WP d 124 43 [l0, l1] (.ref a :: st) h Q ↔ gF (hRd h a) 11 6 (fun v => WP d 124 44 [l0, l1] (v :: st) h Q) := wp_getfield (show (lcode 124)[43]? = some (.getfield 710) by decide +kernel)
theorem x124_44 : WP d 124 44 [l0, some (vI x)] st h Q ↔ WP d 124 45 [l0, some (vI x)] (vI x :: st) h Q := wp_iload (show (lcode 124)[44]? = some (.iload 1) by decide +kernel) rfl
theorem x124_45 : WP d 124 45 [l0, some (vI x)] st h Q ↔ WP d 124 46 [l0, some (vI x)] (vI x :: st) h Q := wp_iload (show (lcode 124)[45]? = some (.iload 1) by decide +kernel) rfl
theorem x124_46 : WP d 124 46 [l0, l1] (vI y :: vI x :: .ref a :: st) h Q ↔ stA (hRd h a) a x (vI y) (fun c => WP d 124 47 [l0, l1] st (hWr h a c) Q) := wp_iastore (show (lcode 124)[46]? = some (.iastore) by decide +kernel)
theorem x124_47 : WP d 124 47 [some (Value.ref a), l1] st h Q ↔ WP d 124 48 [some (Value.ref a), l1] (Value.ref a :: st) h Q := wp_aload (show (lcode 124)[47]? = some (.aload 0) by decide +kernel) rfl
theorem x124_48 : WP d 124 48 [l0, l1] (.ref a :: st) h Q ↔ gF (hRd h a) 11 6 (fun v => WP d 124 49 [l0, l1] (v :: st) h Q) := wp_getfield (show (lcode 124)[48]? = some (.getfield 710) by decide +kernel)
theorem x124_49 : WP d 124 49 [l0, l1] st h Q ↔ WP d 124 50 [l0, l1] (vI 17 :: st) h Q := wp_iconst (show (lcode 124)[49]? = some (.iconst 17) by decide +kernel)
theorem x124_50 : WP d 124 50 [l0, some (vI x)] st h Q ↔ WP d 124 51 [l0, some (vI x)] (vI x :: st) h Q := wp_iload (show (lcode 124)[50]? = some (.iload 1) by decide +kernel) rfl
theorem x124_51 : WP d 124 51 [l0, l1] (vI y :: vI x :: st) h Q ↔ WP d 124 52 [l0, l1] (vI (x + y) :: st) h Q := wp_iadd (show (lcode 124)[51]? = some (.iadd) by decide +kernel)
theorem x124_52 : WP d 124 52 [some (Value.ref a), l1] st h Q ↔ WP d 124 53 [some (Value.ref a), l1] (Value.ref a :: st) h Q := wp_aload (show (lcode 124)[52]? = some (.aload 0) by decide +kernel) rfl
theorem x124_53 : WP d 124 53 [l0, l1] (.ref a :: st) h Q ↔ gF (hRd h a) 11 16 (fun v => WP d 124 54 [l0, l1] (v :: st) h Q) := wp_getfield (show (lcode 124)[53]? = some (.getfield 720) by decide +kernel)
theorem x124_54 : WP d 124 54 [l0, some (vI x)] st h Q ↔ WP d 124 55 [l0, some (vI x)] (vI x :: st) h Q := wp_iload (show (lcode 124)[54]? = some (.iload 1) by decide +kernel) rfl
theorem x124_55 : WP d 124 55 [l0, l1] (vI x :: .ref a :: st) h Q ↔ ldA (hRd h a) x (fun v => WP d 124 56 [l0, l1] (v :: st) h Q) := wp_iaload (show (lcode 124)[55]? = some (.iaload) by decide +kernel)
theorem x124_56 : WP d 124 56 [l0, l1] (vI y :: vI x :: .ref a :: st) h Q ↔ stA (hRd h a) a x (vI y) (fun c => WP d 124 57 [l0, l1] st (hWr h a c) Q) := wp_iastore (show (lcode 124)[56]? = some (.iastore) by decide +kernel)
theorem x124_57 : WP d 124 57 [l0, some (vI x)] st h Q ↔ (nl l0 ∧ WP d 124 58 [l0, some (vI (x + 1))] st h Q) := wp_iinc (show (lcode 124)[57]? = some (.iinc 1 1) by decide +kernel) rfl (Nat.le_of_ble_eq_true rfl)
theorem x124_58 : WP d 124 58 [l0, l1] st h Q ↔ WP d 124 29 [l0, l1] st h Q := wp_goto (show (lcode 124)[58]? = some (.goto 29) by decide +kernel)
theorem x124_59 : WP d 124 59 [some (Value.ref a), l1] st h Q ↔ WP d 124 60 [some (Value.ref a), l1] (Value.ref a :: st) h Q := wp_aload (show (lcode 124)[59]? = some (.aload 0) by decide +kernel) rfl
theorem x124_60 : WP d 124 60 [l0, l1] (.ref a :: st) h Q ↔ gF (hRd h a) 11 6 (fun v => WP d 124 61 [l0, l1] (v :: st) h Q) := wp_getfield (show (lcode 124)[60]? = some (.getfield 710) by decide +kernel)
theorem x124_61 : WP d 124 61 [l0, l1] st h Q ↔ WP d 124 62 [l0, l1] (vI 6 :: st) h Q := wp_iconst (show (lcode 124)[61]? = some (.iconst 6) by decide +kernel)
theorem x124_62 : WP d 124 62 [some (Value.ref a), l1] st h Q ↔ WP d 124 63 [some (Value.ref a), l1] (Value.ref a :: st) h Q := wp_aload (show (lcode 124)[62]? = some (.aload 0) by decide +kernel) rfl
theorem x124_63 : WP d 124 63 [l0, l1] (.ref a :: st) h Q ↔ gF (hRd h a) 11 1 (fun v => WP d 124 64 [l0, l1] (v :: st) h Q) := wp_getfield (show (lcode 124)[63]? = some (.getfield 705) by decide +kernel)
theorem x124_64 : WP d 124 64 [l0, l1] (vI y :: vI x :: .ref a :: st) h Q ↔ stA (hRd h a) a x (vI y) (fun c => WP d 124 65 [l0, l1] st (hWr h a c) Q) := wp_iastore (show (lcode 124)[64]? = some (.iastore) by decide +kernel)
theorem x124_65 : WP d 124 65 [l0, l1] st h Q ↔ WP d 124 66 [l0, l1] (vI 0 :: st) h Q := wp_iconst (show (lcode 124)[65]? = some (.iconst 0) by decide +kernel)
theorem x124_66 : WP d 124 66 [l0, l1] (vI x :: st) h Q ↔ (nl l0 ∧ WP d 124 67 [l0, some (vI x)] st h Q) := wp_istore (show (lcode 124)[66]? = some (.istore 1) by decide +kernel) (Nat.le_of_ble_eq_true rfl)
theorem x124_67 : WP d 124 67 [l0, l1] st h Q ↔ WPC d 124 68 [l0, l1] st h Q := wp_nop (show (lcode 124)[67]? = some (.nop) by decide +kernel)
theorem x124_68 : WP d 124 68 [l0, some (vI x)] st h Q ↔ WP d 124 69 [l0, some (vI x)] (vI x :: st) h Q := wp_iload (show (lcode 124)[68]? = some (.iload 1) by decide +kernel) rfl
theorem x124_69 : WP d 124 69 [some (Value.ref a), l1] st h Q ↔ WP d 124 70 [some (Value.ref a), l1] (Value.ref a :: st) h Q := wp_aload (show (lcode 124)[69]? = some (.aload 0) by decide +kernel) rfl
theorem x124_70 : WP d 124 70 [l0, l1] (.ref a :: st) h Q ↔ gF (hRd h a) 11 2 (fun v => WP d 124 71 [l0, l1] (v :: st) h Q) := wp_getfield (show (lcode 124)[70]? = some (.getfield 706) by decide +kernel)
theorem x124_71 : WP d 124 71 [l0, l1] (vI y :: vI x :: st) h Q ↔ ((wr y ≤ wr x → WP d 124 100 [l0, l1] st h Q) ∧ (¬ (wr y ≤ wr x) → WP d 124 72 [l0, l1] st h Q)) := wp_icmp_ge (show (lcode 124)[71]? = some (.if_icmp .ge 100) by decide +kernel)
theorem x124_72 : WP d 124 72 [some (Value.ref a), l1] st h Q ↔ WP d 124 73 [some (Value.ref a), l1] (Value.ref a :: st) h Q := wp_aload (show (lcode 124)[72]? = some (.aload 0) by decide +kernel) rfl
theorem x124_73 : WP d 124 73 [l0, l1] (.ref a :: st) h Q ↔ gF (hRd h a) 11 3 (fun v => WP d 124 74 [l0, l1] (v :: st) h Q) := wp_getfield (show (lcode 124)[73]? = some (.getfield 707) by decide +kernel)
theorem x124_74 : WP d 124 74 [l0, some (vI x)] st h Q ↔ WP d 124 75 [l0, some (vI x)] (vI x :: st) h Q := wp_iload (show (lcode 124)[74]? = some (.iload 1) by decide +kernel) rfl
theorem x124_75 : WP d 124 75 [some (Value.ref a), l1] st h Q ↔ WP d 124 76 [some (Value.ref a), l1] (Value.ref a :: st) h Q := wp_aload (show (lcode 124)[75]? = some (.aload 0) by decide +kernel) rfl
theorem x124_76 : WP d 124 76 [l0, l1] (.ref a :: st) h Q ↔ gF (hRd h a) 11 19 (fun v => WP d 124 77 [l0, l1] (v :: st) h Q) := wp_getfield (show (lcode 124)[76]? = some (.getfield 723) by decide +kernel)
theorem x124_77 : WP d 124 77 [l0, some (vI x)] st h Q ↔ WP d 124 78 [l0, some (vI x)] (vI x :: st) h Q := wp_iload (show (lcode 124)[77]? = some (.iload 1) by decide +kernel) rfl
theorem x124_78 : WP d 124 78 [l0, l1] (vI x :: .ref a :: st) h Q ↔ ldA (hRd h a) x (fun v => WP d 124 79 [l0, l1] (v :: st) h Q) := wp_iaload (show (lcode 124)[78]? = some (.iaload) by decide +kernel)
theorem x124_79 : WP d 124 79 [l0, l1] (vI y :: vI x :: .ref a :: st) h Q ↔ stA (hRd h a) a x (vI y) (fun c => WP d 124 80 [l0, l1] st (hWr h a c) Q) := wp_iastore (show (lcode 124)[79]? = some (.iastore) by decide +kernel)
theorem x124_80 : WP d 124 80 [some (Value.ref a), l1] st h Q ↔ WP d 124 81 [some (Value.ref a), l1] (Value.ref a :: st) h Q := wp_aload (show (lcode 124)[80]? = some (.aload 0) by decide +kernel) rfl
theorem x124_81 : WP d 124 81 [l0, l1] (.ref a :: st) h Q ↔ gF (hRd h a) 11 4 (fun v => WP d 124 82 [l0, l1] (v :: st) h Q) := wp_getfield (show (lcode 124)[81]? = some (.getfield 708) by decide +kernel)
theorem x124_82 : WP d 124 82 [l0, some (vI x)] st h Q ↔ WP d 124 83 [l0, some (vI x)] (vI x :: st) h Q := wp_iload (show (lcode 124)[82]? = some (.iload 1) by decide +kernel) rfl
theorem x124_83 : WP d 124 83 [some (Value.ref a), l1] st h Q ↔ WP d 124 84 [some (Value.ref a), l1] (Value.ref a :: st) h Q := wp_aload (show (lcode 124)[83]? = some (.aload 0) by decide +kernel) rfl
theorem x124_84 : WP d 124 84 [l0, l1] (.ref a :: st) h Q ↔ gF (hRd h a) 11 20 (fun v => WP d 124 85 [l0, l1] (v :: st) h Q) := wp_getfield (show (lcode 124)[84]? = some (.getfield 724) by decide +kernel)
theorem x124_85 : WP d 124 85 [l0, some (vI x)] st h Q ↔ WP d 124 86 [l0, some (vI x)] (vI x :: st) h Q := wp_iload (show (lcode 124)[85]? = some (.iload 1) by decide +kernel) rfl
theorem x124_86 : WP d 124 86 [l0, l1] (vI x :: .ref a :: st) h Q ↔ ldA (hRd h a) x (fun v => WP d 124 87 [l0, l1] (v :: st) h Q) := wp_iaload (show (lcode 124)[86]? = some (.iaload) by decide +kernel)
theorem x124_87 : WP d 124 87 [l0, l1] (vI y :: vI x :: .ref a :: st) h Q ↔ stA (hRd h a) a x (vI y) (fun c => WP d 124 88 [l0, l1] st (hWr h a c) Q) := wp_iastore (show (lcode 124)[87]? = some (.iastore) by decide +kernel)
theorem x124_88 : WP d 124 88 [some (Value.ref a), l1] st h Q ↔ WP d 124 89 [some (Value.ref a), l1] (Value.ref a :: st) h Q := wp_aload (show (lcode 124)[88]? = some (.aload 0) by decide +kernel) rfl
theorem x124_89 : WP d 124 89 [l0, l1] (.ref a :: st) h Q ↔ gF (hRd h a) 11 6 (fun v => WP d 124 90 [l0, l1] (v :: st) h Q) := wp_getfield (show (lcode 124)[89]? = some (.getfield 710) by decide +kernel)
theorem x124_90 : WP d 124 90 [l0, l1] st h Q ↔ WP d 124 91 [l0, l1] (vI 9 :: st) h Q := wp_iconst (show (lcode 124)[90]? = some (.iconst 9) by decide +kernel)
theorem x124_91 : WP d 124 91 [l0, some (vI x)] st h Q ↔ WP d 124 92 [l0, some (vI x)] (vI x :: st) h Q := wp_iload (show (lcode 124)[91]? = some (.iload 1) by decide +kernel) rfl
theorem x124_92 : WP d 124 92 [l0, l1] (vI y :: vI x :: st) h Q ↔ WP d 124 93 [l0, l1] (vI (x + y) :: st) h Q := wp_iadd (show (lcode 124)[92]? = some (.iadd) by decide +kernel)
theorem x124_93 : WP d 124 93 [some (Value.ref a), l1] st h Q ↔ WP d 124 94 [some (Value.ref a), l1] (Value.ref a :: st) h Q := wp_aload (show (lcode 124)[93]? = some (.aload 0) by decide +kernel) rfl
theorem x124_94 : WP d 124 94 [l0, l1] (.ref a :: st) h Q ↔ gF (hRd h a) 11 18 (fun v => WP d 124 95 [l0, l1] (v :: st) h Q) := wp_getfield (show (lcode 124)[94]? = some (.getfield 722) by decide +kernel)
theorem x124_95 : WP d 124 95 [l0, some (vI x)] st h Q ↔ WP d 124 96 [l0, some (vI x)] (vI x :: st) h Q := wp_iload (show (lcode 124)[95]? = some (.iload 1) by decide +kernel) rfl
theorem x124_96 : WP d 124 96 [l0, l1] (vI x :: .ref a :: st) h Q ↔ ldA (hRd h a) x (fun v => WP d 124 97 [l0, l1] (v :: st) h Q) := wp_iaload (show (lcode 124)[96]? = some (.iaload) by decide +kernel)
theorem x124_97 : WP d 124 97 [l0, l1] (vI y :: vI x :: .ref a :: st) h Q ↔ stA (hRd h a) a x (vI y) (fun c => WP d 124 98 [l0, l1] st (hWr h a c) Q) := wp_iastore (show (lcode 124)[97]? = some (.iastore) by decide +kernel)
theorem x124_98 : WP d 124 98 [l0, some (vI x)] st h Q ↔ (nl l0 ∧ WP d 124 99 [l0, some (vI (x + 1))] st h Q) := wp_iinc (show (lcode 124)[98]? = some (.iinc 1 1) by decide +kernel) rfl (Nat.le_of_ble_eq_true rfl)
theorem x124_99 : WP d 124 99 [l0, l1] st h Q ↔ WP d 124 67 [l0, l1] st h Q := wp_goto (show (lcode 124)[99]? = some (.goto 67) by decide +kernel)
theorem x124_100 : WP d 124 100 [l0, l1] [] h Q ↔ Q none h := wp_return (show (lcode 124)[100]? = some (.return_) by decide +kernel)
-- 125: WakeOrderModel.city
theorem x125_0 : WP d 125 0 [some (Value.ref a), l1] st h Q ↔ WP d 125 1 [some (Value.ref a), l1] (Value.ref a :: st) h Q := wp_aload (show (lcode 125)[0]? = some (.aload 0) by decide +kernel) rfl
theorem x125_1 : WP d 125 1 [l0, l1] st h Q ↔ WP d 125 2 [l0, l1] (vI (-1) :: st) h Q := wp_iconst (show (lcode 125)[1]? = some (.iconst (-1)) by decide +kernel)
theorem x125_2 : WP d 125 2 [l0, l1] (vI x :: .ref a :: st) h Q ↔ pF (hRd h a) 11 10 (vI x) (fun c => WP d 125 3 [l0, l1] st (hWr h a c) Q) := wp_putfield (show (lcode 125)[2]? = some (.putfield 714) by decide +kernel)
theorem x125_3 : WP d 125 3 [some (Value.ref a), l1] st h Q ↔ WP d 125 4 [some (Value.ref a), l1] (Value.ref a :: st) h Q := wp_aload (show (lcode 125)[3]? = some (.aload 0) by decide +kernel) rfl
theorem x125_4 : WP d 125 4 [l0, l1] st h Q ↔ WP d 125 5 [l0, l1] (vI 0 :: st) h Q := wp_iconst (show (lcode 125)[4]? = some (.iconst 0) by decide +kernel)
theorem x125_5 : WP d 125 5 [l0, l1] (vI x :: .ref a :: st) h Q ↔ pF (hRd h a) 11 11 (vI x) (fun c => WP d 125 6 [l0, l1] st (hWr h a c) Q) := wp_putfield (show (lcode 125)[5]? = some (.putfield 715) by decide +kernel)
theorem x125_6 : WP d 125 6 [some (Value.ref a), l1] st h Q ↔ WP d 125 7 [some (Value.ref a), l1] (Value.ref a :: st) h Q := wp_aload (show (lcode 125)[6]? = some (.aload 0) by decide +kernel) rfl
theorem x125_7 : WP d 125 7 [l0, l1] (.ref a :: st) h Q ↔ gF (hRd h a) 11 14 (fun v => WP d 125 8 [l0, l1] (v :: st) h Q) := wp_getfield (show (lcode 125)[7]? = some (.getfield 718) by decide +kernel)
theorem x125_8 : WP d 125 8 [l0, l1] st h Q ↔ WP d 125 9 [l0, l1] (vI 0 :: st) h Q := wp_iconst (show (lcode 125)[8]? = some (.iconst 0) by decide +kernel)
theorem x125_9 : WP d 125 9 [l0, l1] st h Q ↔ WP d 125 10 [l0, l1] (vI 0 :: st) h Q := wp_iconst (show (lcode 125)[9]? = some (.iconst 0) by decide +kernel)
theorem x125_10 : WP d 125 10 [l0, l1] (vI y :: vI x :: .ref a :: st) h Q ↔ stA (hRd h a) a x (vI y) (fun c => WP d 125 11 [l0, l1] st (hWr h a c) Q) := wp_iastore (show (lcode 125)[10]? = some (.iastore) by decide +kernel)
theorem x125_11 : WP d 125 11 [some (Value.ref a), l1] st h Q ↔ WP d 125 12 [some (Value.ref a), l1] (Value.ref a :: st) h Q := wp_aload (show (lcode 125)[11]? = some (.aload 0) by decide +kernel) rfl
theorem x125_12 : WP d 125 12 [l0, l1] st h Q ↔ WP d 125 13 [l0, l1] (vI 0 :: st) h Q := wp_iconst (show (lcode 125)[12]? = some (.iconst 0) by decide +kernel)
theorem x125_13 : WP d 125 13 [l0, l1] (vI x :: .ref a :: st) h Q ↔ pF (hRd h a) 11 15 (vI x) (fun c => WP d 125 14 [l0, l1] st (hWr h a c) Q) := wp_putfield (show (lcode 125)[13]? = some (.putfield 719) by decide +kernel)
theorem x125_14 : WP d 125 14 [some (Value.ref a), l1] st h Q ↔ WP d 125 15 [some (Value.ref a), l1] (Value.ref a :: st) h Q := wp_aload (show (lcode 125)[14]? = some (.aload 0) by decide +kernel) rfl
theorem x125_15 : WP d 125 15 [l0, l1] st h Q ↔ WP d 125 16 [l0, l1] (vI 0 :: st) h Q := wp_iconst (show (lcode 125)[15]? = some (.iconst 0) by decide +kernel)
theorem x125_16 : WP d 125 16 [l0, l1] (vI x :: .ref a :: st) h Q ↔ pF (hRd h a) 11 17 (vI x) (fun c => WP d 125 17 [l0, l1] st (hWr h a c) Q) := wp_putfield (show (lcode 125)[16]? = some (.putfield 721) by decide +kernel)
theorem x125_17 : WP d 125 17 [l0, l1] st h Q ↔ WP d 125 18 [l0, l1] (vI 0 :: st) h Q := wp_iconst (show (lcode 125)[17]? = some (.iconst 0) by decide +kernel)
theorem x125_18 : WP d 125 18 [l0, l1] (vI x :: st) h Q ↔ (nl l0 ∧ WP d 125 19 [l0, some (vI x)] st h Q) := wp_istore (show (lcode 125)[18]? = some (.istore 1) by decide +kernel) (Nat.le_of_ble_eq_true rfl)
theorem x125_19 : WP d 125 19 [l0, l1] st h Q ↔ WPC d 125 20 [l0, l1] st h Q := wp_nop (show (lcode 125)[19]? = some (.nop) by decide +kernel)
theorem x125_20 : WP d 125 20 [l0, some (vI x)] st h Q ↔ WP d 125 21 [l0, some (vI x)] (vI x :: st) h Q := wp_iload (show (lcode 125)[20]? = some (.iload 1) by decide +kernel) rfl
theorem x125_21 : WP d 125 21 [l0, l1] (vI x :: st) h Q ↔ ((¬ wr x = 0 → WP d 125 29 [l0, l1] st h Q) ∧ (¬ (¬ wr x = 0) → WP d 125 22 [l0, l1] st h Q)) := wp_if_ne (show (lcode 125)[21]? = some (.ifCond .ne 29) by decide +kernel)
theorem x125_22 : WP d 125 22 [some (Value.ref a), l1] st h Q ↔ WP d 125 23 [some (Value.ref a), l1] (Value.ref a :: st) h Q := wp_aload (show (lcode 125)[22]? = some (.aload 0) by decide +kernel) rfl
theorem x125_23 : WP d 125 23 [l0, l1] (v :: st) h Q ↔ (sh st ∧ CALL d 116 [v] h (fun v h => WP d 125 24 [l0, l1] (v.toList ++ st) h Q)) := wp_call (n := 1) (show (lcode 125)[23]? = some (.invokestatic 116) by decide +kernel) (by decide +kernel) (by simp)
theorem x125_24 : WP d 125 24 [l0, l1] (vI x :: st) h Q ↔ ((wr x < 0 → WP d 125 29 [l0, l1] st h Q) ∧ (¬ (wr x < 0) → WP d 125 25 [l0, l1] st h Q)) := wp_if_lt (show (lcode 125)[24]? = some (.ifCond .lt 29) by decide +kernel)
theorem x125_25 : WP d 125 25 [some (Value.ref a), l1] st h Q ↔ WP d 125 26 [some (Value.ref a), l1] (Value.ref a :: st) h Q := wp_aload (show (lcode 125)[25]? = some (.aload 0) by decide +kernel) rfl
theorem x125_26 : WP d 125 26 [l0, l1] (v :: st) h Q ↔ (sh st ∧ CALL d 123 [v] h (fun v h => WP d 125 27 [l0, l1] (v.toList ++ st) h Q)) := wp_call (n := 1) (show (lcode 125)[26]? = some (.invokestatic 123) by decide +kernel) (by decide +kernel) (by simp)
theorem x125_27 : WP d 125 27 [l0, l1] (vI x :: st) h Q ↔ (nl l0 ∧ WP d 125 28 [l0, some (vI x)] st h Q) := wp_istore (show (lcode 125)[27]? = some (.istore 1) by decide +kernel) (Nat.le_of_ble_eq_true rfl)
theorem x125_28 : WP d 125 28 [l0, l1] st h Q ↔ WP d 125 19 [l0, l1] st h Q := wp_goto (show (lcode 125)[28]? = some (.goto 19) by decide +kernel)
theorem x125_29 : WP d 125 29 [some (Value.ref a), l1] st h Q ↔ WP d 125 30 [some (Value.ref a), l1] (Value.ref a :: st) h Q := wp_aload (show (lcode 125)[29]? = some (.aload 0) by decide +kernel) rfl
theorem x125_30 : WP d 125 30 [l0, l1] st h Q ↔ WP d 125 31 [l0, l1] (vI 0 :: st) h Q := wp_iconst (show (lcode 125)[30]? = some (.iconst 0) by decide +kernel)
theorem x125_31 : WP d 125 31 [l0, l1] (vI x :: .ref a :: st) h Q ↔ pF (hRd h a) 11 9 (vI x) (fun c => WP d 125 32 [l0, l1] st (hWr h a c) Q) := wp_putfield (show (lcode 125)[31]? = some (.putfield 713) by decide +kernel)
theorem x125_32 : WP d 125 32 [l0, some (vI x)] st h Q ↔ WP d 125 33 [l0, some (vI x)] (vI x :: st) h Q := wp_iload (show (lcode 125)[32]? = some (.iload 1) by decide +kernel) rfl
theorem x125_33 : WP d 125 33 [l0, l1] (vI x :: st) h Q ↔ ((wr x ≤ 0 → WP d 125 38 [l0, l1] st h Q) ∧ (¬ (wr x ≤ 0) → WP d 125 34 [l0, l1] st h Q)) := wp_if_le (show (lcode 125)[33]? = some (.ifCond .le 38) by decide +kernel)
theorem x125_34 : WP d 125 34 [l0, l1] st h Q ↔ WP d 125 35 [l0, l1] (vI (-10) :: st) h Q := wp_iconst (show (lcode 125)[34]? = some (.iconst (-10)) by decide +kernel)
theorem x125_35 : WP d 125 35 [l0, some (vI x)] st h Q ↔ WP d 125 36 [l0, some (vI x)] (vI x :: st) h Q := wp_iload (show (lcode 125)[35]? = some (.iload 1) by decide +kernel) rfl
theorem x125_36 : WP d 125 36 [l0, l1] (vI y :: vI x :: st) h Q ↔ WP d 125 37 [l0, l1] (vI (x - y) :: st) h Q := wp_isub (show (lcode 125)[36]? = some (.isub) by decide +kernel)
theorem x125_37 : WP d 125 37 [l0, l1] [vI x] h Q ↔ Q (some (vI x)) h := wp_ireturn (show (lcode 125)[37]? = some (.ireturn) by decide +kernel)
theorem x125_38 : WP d 125 38 [some (Value.ref a), l1] st h Q ↔ WP d 125 39 [some (Value.ref a), l1] (Value.ref a :: st) h Q := wp_aload (show (lcode 125)[38]? = some (.aload 0) by decide +kernel) rfl
theorem x125_39 : WP d 125 39 [l0, l1] (v :: st) h Q ↔ (sh st ∧ CALL d 124 [v] h (fun v h => WP d 125 40 [l0, l1] (v.toList ++ st) h Q)) := wp_call (n := 1) (show (lcode 125)[39]? = some (.invokestatic 124) by decide +kernel) (by decide +kernel) (by simp)
theorem x125_40 : WP d 125 40 [some (Value.ref a), l1] st h Q ↔ WP d 125 41 [some (Value.ref a), l1] (Value.ref a :: st) h Q := wp_aload (show (lcode 125)[40]? = some (.aload 0) by decide +kernel) rfl
theorem x125_41 : WP d 125 41 [l0, l1] st h Q ↔ WP d 125 42 [l0, l1] (vI 0 :: st) h Q := wp_iconst (show (lcode 125)[41]? = some (.iconst 0) by decide +kernel)
theorem x125_42 : WP d 125 42 [l0, l1] (vI x :: .ref a :: st) h Q ↔ pF (hRd h a) 11 29 (vI x) (fun c => WP d 125 43 [l0, l1] st (hWr h a c) Q) := wp_putfield (show (lcode 125)[42]? = some (.putfield 733) by decide +kernel)
theorem x125_43 : WP d 125 43 [some (Value.ref a), l1] st h Q ↔ WP d 125 44 [some (Value.ref a), l1] (Value.ref a :: st) h Q := wp_aload (show (lcode 125)[43]? = some (.aload 0) by decide +kernel) rfl
theorem x125_44 : WP d 125 44 [l0, l1] st h Q ↔ WP d 125 45 [l0, l1] (vI 0 :: st) h Q := wp_iconst (show (lcode 125)[44]? = some (.iconst 0) by decide +kernel)
theorem x125_45 : WP d 125 45 [l0, l1] (vI x :: .ref a :: st) h Q ↔ pF (hRd h a) 11 35 (vI x) (fun c => WP d 125 46 [l0, l1] st (hWr h a c) Q) := wp_putfield (show (lcode 125)[45]? = some (.putfield 739) by decide +kernel)
theorem x125_46 : WP d 125 46 [some (Value.ref a), l1] st h Q ↔ WP d 125 47 [some (Value.ref a), l1] (Value.ref a :: st) h Q := wp_aload (show (lcode 125)[46]? = some (.aload 0) by decide +kernel) rfl
theorem x125_47 : WP d 125 47 [l0, l1] st h Q ↔ WP d 125 48 [l0, l1] (vI 0 :: st) h Q := wp_iconst (show (lcode 125)[47]? = some (.iconst 0) by decide +kernel)
theorem x125_48 : WP d 125 48 [l0, l1] (vI x :: .ref a :: st) h Q ↔ pF (hRd h a) 11 24 (vI x) (fun c => WP d 125 49 [l0, l1] st (hWr h a c) Q) := wp_putfield (show (lcode 125)[48]? = some (.putfield 728) by decide +kernel)
theorem x125_49 : WP d 125 49 [some (Value.ref a), l1] st h Q ↔ WP d 125 50 [some (Value.ref a), l1] (Value.ref a :: st) h Q := wp_aload (show (lcode 125)[49]? = some (.aload 0) by decide +kernel) rfl
theorem x125_50 : WP d 125 50 [l0, l1] (.ref a :: st) h Q ↔ gF (hRd h a) 11 39 (fun v => WP d 125 51 [l0, l1] (v :: st) h Q) := wp_getfield (show (lcode 125)[50]? = some (.getfield 743) by decide +kernel)
theorem x125_51 : WP d 125 51 [l0, l1] st h Q ↔ WP d 125 52 [l0, l1] (vI 0 :: st) h Q := wp_iconst (show (lcode 125)[51]? = some (.iconst 0) by decide +kernel)
theorem x125_52 : WP d 125 52 [l0, l1] st h Q ↔ WP d 125 53 [l0, l1] (vI 0 :: st) h Q := wp_iconst (show (lcode 125)[52]? = some (.iconst 0) by decide +kernel)
theorem x125_53 : WP d 125 53 [l0, l1] (vI y :: vI x :: .ref a :: st) h Q ↔ stB (hRd h a) x y (fun c => WP d 125 54 [l0, l1] st (hWr h a c) Q) := wp_bastore (show (lcode 125)[53]? = some (.bastore) by decide +kernel)
theorem x125_54 : WP d 125 54 [some (Value.ref a), l1] st h Q ↔ WP d 125 55 [some (Value.ref a), l1] (Value.ref a :: st) h Q := wp_aload (show (lcode 125)[54]? = some (.aload 0) by decide +kernel) rfl
theorem x125_55 : WP d 125 55 [l0, l1] (.ref a :: st) h Q ↔ gF (hRd h a) 11 39 (fun v => WP d 125 56 [l0, l1] (v :: st) h Q) := wp_getfield (show (lcode 125)[55]? = some (.getfield 743) by decide +kernel)
theorem x125_56 : WP d 125 56 [l0, l1] st h Q ↔ WP d 125 57 [l0, l1] (vI 1 :: st) h Q := wp_iconst (show (lcode 125)[56]? = some (.iconst 1) by decide +kernel)
theorem x125_57 : WP d 125 57 [l0, l1] st h Q ↔ WP d 125 58 [l0, l1] (vI 0 :: st) h Q := wp_iconst (show (lcode 125)[57]? = some (.iconst 0) by decide +kernel)
theorem x125_58 : WP d 125 58 [l0, l1] (vI y :: vI x :: .ref a :: st) h Q ↔ stB (hRd h a) x y (fun c => WP d 125 59 [l0, l1] st (hWr h a c) Q) := wp_bastore (show (lcode 125)[58]? = some (.bastore) by decide +kernel)
theorem x125_59 : WP d 125 59 [some (Value.ref a), l1] st h Q ↔ WP d 125 60 [some (Value.ref a), l1] (Value.ref a :: st) h Q := wp_aload (show (lcode 125)[59]? = some (.aload 0) by decide +kernel) rfl
theorem x125_60 : WP d 125 60 [l0, l1] (.ref a :: st) h Q ↔ gF (hRd h a) 11 1 (fun v => WP d 125 61 [l0, l1] (v :: st) h Q) := wp_getfield (show (lcode 125)[60]? = some (.getfield 705) by decide +kernel)
theorem x125_61 : WP d 125 61 [l0, l1] [vI x] h Q ↔ Q (some (vI x)) h := wp_ireturn (show (lcode 125)[61]? = some (.ireturn) by decide +kernel)
-- 126: WakeOrderModel.fault
theorem x126_0 : WP d 126 0 [some (Value.ref a)] st h Q ↔ WP d 126 1 [some (Value.ref a)] (Value.ref a :: st) h Q := wp_aload (show (lcode 126)[0]? = some (.aload 0) by decide +kernel) rfl
theorem x126_1 : WP d 126 1 [l0] (.ref a :: st) h Q ↔ gF (hRd h a) 11 10 (fun v => WP d 126 2 [l0] (v :: st) h Q) := wp_getfield (show (lcode 126)[1]? = some (.getfield 714) by decide +kernel)
theorem x126_2 : WP d 126 2 [l0] [vI x] h Q ↔ Q (some (vI x)) h := wp_ireturn (show (lcode 126)[2]? = some (.ireturn) by decide +kernel)
-- 127: WakeOrderModel.inTime
theorem x127_0 : WP d 127 0 [l0, some (vI x)] st h Q ↔ WP d 127 1 [l0, some (vI x)] (vI x :: st) h Q := wp_iload (show (lcode 127)[0]? = some (.iload 1) by decide +kernel) rfl
theorem x127_1 : WP d 127 1 [some (Value.ref a), l1] st h Q ↔ WP d 127 2 [some (Value.ref a), l1] (Value.ref a :: st) h Q := wp_aload (show (lcode 127)[1]? = some (.aload 0) by decide +kernel) rfl
theorem x127_2 : WP d 127 2 [l0, l1] (.ref a :: st) h Q ↔ gF (hRd h a) 11 0 (fun v => WP d 127 3 [l0, l1] (v :: st) h Q) := wp_getfield (show (lcode 127)[2]? = some (.getfield 704) by decide +kernel)
theorem x127_3 : WP d 127 3 [l0, l1] (vI y :: vI x :: st) h Q ↔ ((wr y ≤ wr x → WP d 127 6 [l0, l1] st h Q) ∧ (¬ (wr y ≤ wr x) → WP d 127 4 [l0, l1] st h Q)) := wp_icmp_ge (show (lcode 127)[3]? = some (.if_icmp .ge 6) by decide +kernel)
theorem x127_4 : WP d 127 4 [l0, some (vI x)] st h Q ↔ WP d 127 5 [l0, some (vI x)] (vI x :: st) h Q := wp_iload (show (lcode 127)[4]? = some (.iload 1) by decide +kernel) rfl
theorem x127_5 : WP d 127 5 [l0, l1] st h Q ↔ WP d 127 7 [l0, l1] st h Q := wp_goto (show (lcode 127)[5]? = some (.goto 7) by decide +kernel)
theorem x127_6 : WP d 127 6 [l0, l1] st h Q ↔ WP d 127 7 [l0, l1] (vI 1000000 :: st) h Q := wp_iconst (show (lcode 127)[6]? = some (.iconst 1000000) by decide +kernel)
theorem x127_7 : WP d 127 7 [l0, l1] [vI x] h Q ↔ Q (some (vI x)) h := wp_ireturn (show (lcode 127)[7]? = some (.ireturn) by decide +kernel)
-- 128: WakeOrderModel.later
theorem x128_0 : WP d 128 0 [some (vI x), l1] st h Q ↔ WP d 128 1 [some (vI x), l1] (vI x :: st) h Q := wp_iload (show (lcode 128)[0]? = some (.iload 0) by decide +kernel) rfl
theorem x128_1 : WP d 128 1 [l0, some (vI x)] st h Q ↔ WP d 128 2 [l0, some (vI x)] (vI x :: st) h Q := wp_iload (show (lcode 128)[1]? = some (.iload 1) by decide +kernel) rfl
theorem x128_2 : WP d 128 2 [l0, l1] (vI y :: vI x :: st) h Q ↔ ((wr x ≤ wr y → WP d 128 5 [l0, l1] st h Q) ∧ (¬ (wr x ≤ wr y) → WP d 128 3 [l0, l1] st h Q)) := wp_icmp_le (show (lcode 128)[2]? = some (.if_icmp .le 5) by decide +kernel)
theorem x128_3 : WP d 128 3 [some (vI x), l1] st h Q ↔ WP d 128 4 [some (vI x), l1] (vI x :: st) h Q := wp_iload (show (lcode 128)[3]? = some (.iload 0) by decide +kernel) rfl
theorem x128_4 : WP d 128 4 [l0, l1] st h Q ↔ WP d 128 6 [l0, l1] st h Q := wp_goto (show (lcode 128)[4]? = some (.goto 6) by decide +kernel)
theorem x128_5 : WP d 128 5 [l0, some (vI x)] st h Q ↔ WP d 128 6 [l0, some (vI x)] (vI x :: st) h Q := wp_iload (show (lcode 128)[5]? = some (.iload 1) by decide +kernel) rfl
theorem x128_6 : WP d 128 6 [l0, l1] [vI x] h Q ↔ Q (some (vI x)) h := wp_ireturn (show (lcode 128)[6]? = some (.ireturn) by decide +kernel)
-- 129: WakeOrderModel.settleUps
theorem x129_0 : WP d 129 0 [l0, l1, l2, l3, l4, l5, l6, l7] st h Q ↔ WP d 129 1 [l0, l1, l2, l3, l4, l5, l6, l7] (vI 0 :: st) h Q := wp_iconst (show (lcode 129)[0]? = some (.iconst 0) by decide +kernel)
theorem x129_1 : WP d 129 1 [l0, l1, l2, l3, l4, l5, l6, l7] (vI x :: st) h Q ↔ (nl l0 ∧ WP d 129 2 [l0, some (vI x), l2, l3, l4, l5, l6, l7] st h Q) := wp_istore (show (lcode 129)[1]? = some (.istore 1) by decide +kernel) (Nat.le_of_ble_eq_true rfl)
theorem x129_2 : WP d 129 2 [l0, l1, l2, l3, l4, l5, l6, l7] st h Q ↔ WP d 129 3 [l0, l1, l2, l3, l4, l5, l6, l7] (vI 0 :: st) h Q := wp_iconst (show (lcode 129)[2]? = some (.iconst 0) by decide +kernel)
theorem x129_3 : WP d 129 3 [l0, l1, l2, l3, l4, l5, l6, l7] (vI x :: st) h Q ↔ (nl l1 ∧ WP d 129 4 [l0, l1, some (vI x), l3, l4, l5, l6, l7] st h Q) := wp_istore (show (lcode 129)[3]? = some (.istore 2) by decide +kernel) (Nat.le_of_ble_eq_true rfl)
theorem x129_4 : WP d 129 4 [l0, l1, l2, l3, l4, l5, l6, l7] st h Q ↔ WP d 129 5 [l0, l1, l2, l3, l4, l5, l6, l7] (vI 0 :: st) h Q := wp_iconst (show (lcode 129)[4]? = some (.iconst 0) by decide +kernel)
theorem x129_5 : WP d 129 5 [l0, l1, l2, l3, l4, l5, l6, l7] (vI x :: st) h Q ↔ (nl l2 ∧ WP d 129 6 [l0, l1, l2, some (vI x), l4, l5, l6, l7] st h Q) := wp_istore (show (lcode 129)[5]? = some (.istore 3) by decide +kernel) (Nat.le_of_ble_eq_true rfl)
theorem x129_6 : WP d 129 6 [l0, l1, l2, l3, l4, l5, l6, l7] st h Q ↔ WPC d 129 7 [l0, l1, l2, l3, l4, l5, l6, l7] st h Q := wp_nop (show (lcode 129)[6]? = some (.nop) by decide +kernel)
theorem x129_7 : WP d 129 7 [l0, l1, l2, some (vI x), l4, l5, l6, l7] st h Q ↔ WP d 129 8 [l0, l1, l2, some (vI x), l4, l5, l6, l7] (vI x :: st) h Q := wp_iload (show (lcode 129)[7]? = some (.iload 3) by decide +kernel) rfl
theorem x129_8 : WP d 129 8 [some (Value.ref a), l1, l2, l3, l4, l5, l6, l7] st h Q ↔ WP d 129 9 [some (Value.ref a), l1, l2, l3, l4, l5, l6, l7] (Value.ref a :: st) h Q := wp_aload (show (lcode 129)[8]? = some (.aload 0) by decide +kernel) rfl
theorem x129_9 : WP d 129 9 [l0, l1, l2, l3, l4, l5, l6, l7] (.ref a :: st) h Q ↔ gF (hRd h a) 11 6 (fun v => WP d 129 10 [l0, l1, l2, l3, l4, l5, l6, l7] (v :: st) h Q) := wp_getfield (show (lcode 129)[9]? = some (.getfield 710) by decide +kernel)
theorem x129_10 : WP d 129 10 [l0, l1, l2, l3, l4, l5, l6, l7] st h Q ↔ WP d 129 11 [l0, l1, l2, l3, l4, l5, l6, l7] (vI 6 :: st) h Q := wp_iconst (show (lcode 129)[10]? = some (.iconst 6) by decide +kernel)
theorem x129_11 : WP d 129 11 [l0, l1, l2, l3, l4, l5, l6, l7] (vI x :: .ref a :: st) h Q ↔ ldA (hRd h a) x (fun v => WP d 129 12 [l0, l1, l2, l3, l4, l5, l6, l7] (v :: st) h Q) := wp_iaload (show (lcode 129)[11]? = some (.iaload) by decide +kernel)
theorem x129_12 : WP d 129 12 [l0, l1, l2, l3, l4, l5, l6, l7] (vI y :: vI x :: st) h Q ↔ ((wr y ≤ wr x → WP d 129 84 [l0, l1, l2, l3, l4, l5, l6, l7] st h Q) ∧ (¬ (wr y ≤ wr x) → WP d 129 13 [l0, l1, l2, l3, l4, l5, l6, l7] st h Q)) := wp_icmp_ge (show (lcode 129)[12]? = some (.if_icmp .ge 84) by decide +kernel)
theorem x129_13 : WP d 129 13 [some (Value.ref a), l1, l2, l3, l4, l5, l6, l7] st h Q ↔ WP d 129 14 [some (Value.ref a), l1, l2, l3, l4, l5, l6, l7] (Value.ref a :: st) h Q := wp_aload (show (lcode 129)[13]? = some (.aload 0) by decide +kernel) rfl
theorem x129_14 : WP d 129 14 [l0, l1, l2, l3, l4, l5, l6, l7] (.ref a :: st) h Q ↔ gF (hRd h a) 11 6 (fun v => WP d 129 15 [l0, l1, l2, l3, l4, l5, l6, l7] (v :: st) h Q) := wp_getfield (show (lcode 129)[14]? = some (.getfield 710) by decide +kernel)
theorem x129_15 : WP d 129 15 [l0, l1, l2, some (vI x), l4, l5, l6, l7] st h Q ↔ WP d 129 16 [l0, l1, l2, some (vI x), l4, l5, l6, l7] (vI x :: st) h Q := wp_iload (show (lcode 129)[15]? = some (.iload 3) by decide +kernel) rfl
theorem x129_16 : WP d 129 16 [l0, l1, l2, l3, l4, l5, l6, l7] (vI x :: .ref a :: st) h Q ↔ ldA (hRd h a) x (fun v => WP d 129 17 [l0, l1, l2, l3, l4, l5, l6, l7] (v :: st) h Q) := wp_iaload (show (lcode 129)[16]? = some (.iaload) by decide +kernel)
theorem x129_17 : WP d 129 17 [l0, l1, l2, l3, l4, l5, l6, l7] (vI x :: st) h Q ↔ (nl l3 ∧ WP d 129 18 [l0, l1, l2, l3, some (vI x), l5, l6, l7] st h Q) := wp_istore (show (lcode 129)[17]? = some (.istore 4) by decide +kernel) (Nat.le_of_ble_eq_true rfl)
theorem x129_18 : WP d 129 18 [some (Value.ref a), l1, l2, l3, l4, l5, l6, l7] st h Q ↔ WP d 129 19 [some (Value.ref a), l1, l2, l3, l4, l5, l6, l7] (Value.ref a :: st) h Q := wp_aload (show (lcode 129)[18]? = some (.aload 0) by decide +kernel) rfl
theorem x129_19 : WP d 129 19 [l0, l1, l2, l3, l4, l5, l6, l7] (.ref a :: st) h Q ↔ gF (hRd h a) 11 6 (fun v => WP d 129 20 [l0, l1, l2, l3, l4, l5, l6, l7] (v :: st) h Q) := wp_getfield (show (lcode 129)[19]? = some (.getfield 710) by decide +kernel)
theorem x129_20 : WP d 129 20 [l0, l1, l2, l3, l4, l5, l6, l7] st h Q ↔ WP d 129 21 [l0, l1, l2, l3, l4, l5, l6, l7] (vI 17 :: st) h Q := wp_iconst (show (lcode 129)[20]? = some (.iconst 17) by decide +kernel)
theorem x129_21 : WP d 129 21 [l0, l1, l2, l3, some (vI x), l5, l6, l7] st h Q ↔ WP d 129 22 [l0, l1, l2, l3, some (vI x), l5, l6, l7] (vI x :: st) h Q := wp_iload (show (lcode 129)[21]? = some (.iload 4) by decide +kernel) rfl
theorem x129_22 : WP d 129 22 [l0, l1, l2, l3, l4, l5, l6, l7] (vI y :: vI x :: st) h Q ↔ WP d 129 23 [l0, l1, l2, l3, l4, l5, l6, l7] (vI (x + y) :: st) h Q := wp_iadd (show (lcode 129)[22]? = some (.iadd) by decide +kernel)
theorem x129_23 : WP d 129 23 [l0, l1, l2, l3, l4, l5, l6, l7] (vI x :: .ref a :: st) h Q ↔ ldA (hRd h a) x (fun v => WP d 129 24 [l0, l1, l2, l3, l4, l5, l6, l7] (v :: st) h Q) := wp_iaload (show (lcode 129)[23]? = some (.iaload) by decide +kernel)
theorem x129_24 : WP d 129 24 [some (Value.ref a), l1, l2, l3, l4, l5, l6, l7] st h Q ↔ WP d 129 25 [some (Value.ref a), l1, l2, l3, l4, l5, l6, l7] (Value.ref a :: st) h Q := wp_aload (show (lcode 129)[24]? = some (.aload 0) by decide +kernel) rfl
theorem x129_25 : WP d 129 25 [l0, l1, l2, l3, l4, l5, l6, l7] (.ref a :: st) h Q ↔ gF (hRd h a) 11 5 (fun v => WP d 129 26 [l0, l1, l2, l3, l4, l5, l6, l7] (v :: st) h Q) := wp_getfield (show (lcode 129)[25]? = some (.getfield 709) by decide +kernel)
theorem x129_26 : WP d 129 26 [l0, l1, l2, l3, some (vI x), l5, l6, l7] st h Q ↔ WP d 129 27 [l0, l1, l2, l3, some (vI x), l5, l6, l7] (vI x :: st) h Q := wp_iload (show (lcode 129)[26]? = some (.iload 4) by decide +kernel) rfl
theorem x129_27 : WP d 129 27 [l0, l1, l2, l3, l4, l5, l6, l7] (vI x :: .ref a :: st) h Q ↔ ldA (hRd h a) x (fun v => WP d 129 28 [l0, l1, l2, l3, l4, l5, l6, l7] (v :: st) h Q) := wp_iaload (show (lcode 129)[27]? = some (.iaload) by decide +kernel)
theorem x129_28 : WP d 129 28 [l0, l1, l2, l3, l4, l5, l6, l7] (vI x :: st) h Q ↔ ((0 ≤ wr x → WP d 129 31 [l0, l1, l2, l3, l4, l5, l6, l7] st h Q) ∧ (¬ (0 ≤ wr x) → WP d 129 29 [l0, l1, l2, l3, l4, l5, l6, l7] st h Q)) := wp_if_ge (show (lcode 129)[28]? = some (.ifCond .ge 31) by decide +kernel)
theorem x129_29 : WP d 129 29 [l0, l1, l2, l3, l4, l5, l6, l7] st h Q ↔ WP d 129 30 [l0, l1, l2, l3, l4, l5, l6, l7] (vI 0 :: st) h Q := wp_iconst (show (lcode 129)[29]? = some (.iconst 0) by decide +kernel)
theorem x129_30 : WP d 129 30 [l0, l1, l2, l3, l4, l5, l6, l7] st h Q ↔ WP d 129 38 [l0, l1, l2, l3, l4, l5, l6, l7] st h Q := wp_goto (show (lcode 129)[30]? = some (.goto 38) by decide +kernel)
theorem x129_31 : WP d 129 31 [some (Value.ref a), l1, l2, l3, l4, l5, l6, l7] st h Q ↔ WP d 129 32 [some (Value.ref a), l1, l2, l3, l4, l5, l6, l7] (Value.ref a :: st) h Q := wp_aload (show (lcode 129)[31]? = some (.aload 0) by decide +kernel) rfl
theorem x129_32 : WP d 129 32 [l0, l1, l2, l3, l4, l5, l6, l7] (.ref a :: st) h Q ↔ gF (hRd h a) 11 23 (fun v => WP d 129 33 [l0, l1, l2, l3, l4, l5, l6, l7] (v :: st) h Q) := wp_getfield (show (lcode 129)[32]? = some (.getfield 727) by decide +kernel)
theorem x129_33 : WP d 129 33 [some (Value.ref a), l1, l2, l3, l4, l5, l6, l7] st h Q ↔ WP d 129 34 [some (Value.ref a), l1, l2, l3, l4, l5, l6, l7] (Value.ref a :: st) h Q := wp_aload (show (lcode 129)[33]? = some (.aload 0) by decide +kernel) rfl
theorem x129_34 : WP d 129 34 [l0, l1, l2, l3, l4, l5, l6, l7] (.ref a :: st) h Q ↔ gF (hRd h a) 11 5 (fun v => WP d 129 35 [l0, l1, l2, l3, l4, l5, l6, l7] (v :: st) h Q) := wp_getfield (show (lcode 129)[34]? = some (.getfield 709) by decide +kernel)
theorem x129_35 : WP d 129 35 [l0, l1, l2, l3, some (vI x), l5, l6, l7] st h Q ↔ WP d 129 36 [l0, l1, l2, l3, some (vI x), l5, l6, l7] (vI x :: st) h Q := wp_iload (show (lcode 129)[35]? = some (.iload 4) by decide +kernel) rfl
theorem x129_36 : WP d 129 36 [l0, l1, l2, l3, l4, l5, l6, l7] (vI x :: .ref a :: st) h Q ↔ ldA (hRd h a) x (fun v => WP d 129 37 [l0, l1, l2, l3, l4, l5, l6, l7] (v :: st) h Q) := wp_iaload (show (lcode 129)[36]? = some (.iaload) by decide +kernel)
theorem x129_37 : WP d 129 37 [l0, l1, l2, l3, l4, l5, l6, l7] (vI x :: .ref a :: st) h Q ↔ ldA (hRd h a) x (fun v => WP d 129 38 [l0, l1, l2, l3, l4, l5, l6, l7] (v :: st) h Q) := wp_iaload (show (lcode 129)[37]? = some (.iaload) by decide +kernel)
theorem x129_38 : WP d 129 38 [l0, l1, l2, l3, l4, l5, l6, l7] (v1 :: v :: st) h Q ↔ (sh st ∧ CALL d 128 [v, v1] h (fun v h => WP d 129 39 [l0, l1, l2, l3, l4, l5, l6, l7] (v.toList ++ st) h Q)) := wp_call (n := 2) (show (lcode 129)[38]? = some (.invokestatic 128) by decide +kernel) (by decide +kernel) (by simp)
theorem x129_39 : WP d 129 39 [l0, l1, l2, l3, l4, l5, l6, l7] (vI x :: st) h Q ↔ (nl l4 ∧ WP d 129 40 [l0, l1, l2, l3, l4, some (vI x), l6, l7] st h Q) := wp_istore (show (lcode 129)[39]? = some (.istore 5) by decide +kernel) (Nat.le_of_ble_eq_true rfl)
theorem x129_40 : WP d 129 40 [some (Value.ref a), l1, l2, l3, l4, l5, l6, l7] st h Q ↔ WP d 129 41 [some (Value.ref a), l1, l2, l3, l4, l5, l6, l7] (Value.ref a :: st) h Q := wp_aload (show (lcode 129)[40]? = some (.aload 0) by decide +kernel) rfl
theorem x129_41 : WP d 129 41 [l0, l1, l2, l3, l4, l5, l6, l7] (.ref a :: st) h Q ↔ gF (hRd h a) 11 6 (fun v => WP d 129 42 [l0, l1, l2, l3, l4, l5, l6, l7] (v :: st) h Q) := wp_getfield (show (lcode 129)[41]? = some (.getfield 710) by decide +kernel)
theorem x129_42 : WP d 129 42 [l0, l1, l2, l3, l4, l5, l6, l7] st h Q ↔ WP d 129 43 [l0, l1, l2, l3, l4, l5, l6, l7] (vI 7 :: st) h Q := wp_iconst (show (lcode 129)[42]? = some (.iconst 7) by decide +kernel)
theorem x129_43 : WP d 129 43 [l0, l1, l2, l3, l4, l5, l6, l7] (vI x :: .ref a :: st) h Q ↔ ldA (hRd h a) x (fun v => WP d 129 44 [l0, l1, l2, l3, l4, l5, l6, l7] (v :: st) h Q) := wp_iaload (show (lcode 129)[43]? = some (.iaload) by decide +kernel)
theorem x129_44 : WP d 129 44 [l0, l1, l2, l3, some (vI x), l5, l6, l7] st h Q ↔ WP d 129 45 [l0, l1, l2, l3, some (vI x), l5, l6, l7] (vI x :: st) h Q := wp_iload (show (lcode 129)[44]? = some (.iload 4) by decide +kernel) rfl
theorem x129_45 : WP d 129 45 [l0, l1, l2, l3, l4, l5, l6, l7] (v1 :: v :: st) h Q ↔ (sh st ∧ CALL d 111 [v, v1] h (fun v h => WP d 129 46 [l0, l1, l2, l3, l4, l5, l6, l7] (v.toList ++ st) h Q)) := wp_call (n := 2) (show (lcode 129)[45]? = some (.invokestatic 111) by decide +kernel) (by decide +kernel) (by simp)
theorem x129_46 : WP d 129 46 [l0, l1, l2, l3, l4, l5, l6, l7] (vI x :: st) h Q ↔ (nl l5 ∧ WP d 129 47 [l0, l1, l2, l3, l4, l5, some (vI x), l7] st h Q) := wp_istore (show (lcode 129)[46]? = some (.istore 6) by decide +kernel) (Nat.le_of_ble_eq_true rfl)
theorem x129_47 : WP d 129 47 [some (Value.ref a), l1, l2, l3, l4, l5, l6, l7] st h Q ↔ WP d 129 48 [some (Value.ref a), l1, l2, l3, l4, l5, l6, l7] (Value.ref a :: st) h Q := wp_aload (show (lcode 129)[47]? = some (.aload 0) by decide +kernel) rfl
theorem x129_48 : WP d 129 48 [l0, l1, l2, l3, l4, l5, some (vI x), l7] st h Q ↔ WP d 129 49 [l0, l1, l2, l3, l4, l5, some (vI x), l7] (vI x :: st) h Q := wp_iload (show (lcode 129)[48]? = some (.iload 6) by decide +kernel) rfl
theorem x129_49 : WP d 129 49 [l0, l1, l2, l3, l4, l5, l6, l7] (vI x :: st) h Q ↔ ((wr x = 0 → WP d 129 52 [l0, l1, l2, l3, l4, l5, l6, l7] st h Q) ∧ (¬ (wr x = 0) → WP d 129 50 [l0, l1, l2, l3, l4, l5, l6, l7] st h Q)) := wp_if_eq (show (lcode 129)[49]? = some (.ifCond .eq 52) by decide +kernel)
theorem x129_50 : WP d 129 50 [l0, l1, l2, l3, l4, some (vI x), l6, l7] st h Q ↔ WP d 129 51 [l0, l1, l2, l3, l4, some (vI x), l6, l7] (vI x :: st) h Q := wp_iload (show (lcode 129)[50]? = some (.iload 5) by decide +kernel) rfl
theorem x129_51 : WP d 129 51 [l0, l1, l2, l3, l4, l5, l6, l7] st h Q ↔ WP d 129 55 [l0, l1, l2, l3, l4, l5, l6, l7] st h Q := wp_goto (show (lcode 129)[51]? = some (.goto 55) by decide +kernel)
theorem x129_52 : WP d 129 52 [l0, l1, l2, l3, l4, some (vI x), l6, l7] st h Q ↔ WP d 129 53 [l0, l1, l2, l3, l4, some (vI x), l6, l7] (vI x :: st) h Q := wp_iload (show (lcode 129)[52]? = some (.iload 5) by decide +kernel) rfl
theorem x129_53 : WP d 129 53 [l0, l1, some (vI x), l3, l4, l5, l6, l7] st h Q ↔ WP d 129 54 [l0, l1, some (vI x), l3, l4, l5, l6, l7] (vI x :: st) h Q := wp_iload (show (lcode 129)[53]? = some (.iload 2) by decide +kernel) rfl
theorem x129_54 : WP d 129 54 [l0, l1, l2, l3, l4, l5, l6, l7] (v1 :: v :: st) h Q ↔ (sh st ∧ CALL d 128 [v, v1] h (fun v h => WP d 129 55 [l0, l1, l2, l3, l4, l5, l6, l7] (v.toList ++ st) h Q)) := wp_call (n := 2) (show (lcode 129)[54]? = some (.invokestatic 128) by decide +kernel) (by decide +kernel) (by simp)
theorem x129_55 : WP d 129 55 [l0, l1, l2, l3, l4, l5, l6, l7] (v1 :: v :: st) h Q ↔ (sh st ∧ CALL d 127 [v, v1] h (fun v h => WP d 129 56 [l0, l1, l2, l3, l4, l5, l6, l7] (v.toList ++ st) h Q)) := wp_call (n := 2) (show (lcode 129)[55]? = some (.invokestatic 127) by decide +kernel) (by decide +kernel) (by simp)
theorem x129_56 : WP d 129 56 [l0, l1, l2, l3, l4, l5, l6, l7] (vI x :: st) h Q ↔ (nl l6 ∧ WP d 129 57 [l0, l1, l2, l3, l4, l5, l6, some (vI x)] st h Q) := wp_istore (show (lcode 129)[56]? = some (.istore 7) by decide +kernel) (Nat.le_of_ble_eq_true rfl)
theorem x129_57 : WP d 129 57 [l0, some (vI x), l2, l3, l4, l5, l6, l7] st h Q ↔ WP d 129 58 [l0, some (vI x), l2, l3, l4, l5, l6, l7] (vI x :: st) h Q := wp_iload (show (lcode 129)[57]? = some (.iload 1) by decide +kernel) rfl
theorem x129_58 : WP d 129 58 [l0, l1, l2, l3, l4, l5, l6, l7] (vI x :: st) h Q ↔ ((¬ wr x = 0 → WP d 129 65 [l0, l1, l2, l3, l4, l5, l6, l7] st h Q) ∧ (¬ (¬ wr x = 0) → WP d 129 59 [l0, l1, l2, l3, l4, l5, l6, l7] st h Q)) := wp_if_ne (show (lcode 129)[58]? = some (.ifCond .ne 65) by decide +kernel)
theorem x129_59 : WP d 129 59 [l0, l1, l2, l3, l4, l5, l6, some (vI x)] st h Q ↔ WP d 129 60 [l0, l1, l2, l3, l4, l5, l6, some (vI x)] (vI x :: st) h Q := wp_iload (show (lcode 129)[59]? = some (.iload 7) by decide +kernel) rfl
theorem x129_60 : WP d 129 60 [some (Value.ref a), l1, l2, l3, l4, l5, l6, l7] st h Q ↔ WP d 129 61 [some (Value.ref a), l1, l2, l3, l4, l5, l6, l7] (Value.ref a :: st) h Q := wp_aload (show (lcode 129)[60]? = some (.aload 0) by decide +kernel) rfl
theorem x129_61 : WP d 129 61 [l0, l1, l2, l3, l4, l5, l6, l7] (.ref a :: st) h Q ↔ gF (hRd h a) 11 22 (fun v => WP d 129 62 [l0, l1, l2, l3, l4, l5, l6, l7] (v :: st) h Q) := wp_getfield (show (lcode 129)[61]? = some (.getfield 726) by decide +kernel)
theorem x129_62 : WP d 129 62 [l0, l1, l2, l3, some (vI x), l5, l6, l7] st h Q ↔ WP d 129 63 [l0, l1, l2, l3, some (vI x), l5, l6, l7] (vI x :: st) h Q := wp_iload (show (lcode 129)[62]? = some (.iload 4) by decide +kernel) rfl
theorem x129_63 : WP d 129 63 [l0, l1, l2, l3, l4, l5, l6, l7] (vI x :: .ref a :: st) h Q ↔ ldA (hRd h a) x (fun v => WP d 129 64 [l0, l1, l2, l3, l4, l5, l6, l7] (v :: st) h Q) := wp_iaload (show (lcode 129)[63]? = some (.iaload) by decide +kernel)
theorem x129_64 : WP d 129 64 [l0, l1, l2, l3, l4, l5, l6, l7] (vI y :: vI x :: st) h Q ↔ ((wr x = wr y → WP d 129 67 [l0, l1, l2, l3, l4, l5, l6, l7] st h Q) ∧ (¬ (wr x = wr y) → WP d 129 65 [l0, l1, l2, l3, l4, l5, l6, l7] st h Q)) := wp_icmp_eq (show (lcode 129)[64]? = some (.if_icmp .eq 67) by decide +kernel)
theorem x129_65 : WP d 129 65 [l0, l1, l2, l3, l4, l5, l6, l7] st h Q ↔ WP d 129 66 [l0, l1, l2, l3, l4, l5, l6, l7] (vI 1 :: st) h Q := wp_iconst (show (lcode 129)[65]? = some (.iconst 1) by decide +kernel)
theorem x129_66 : WP d 129 66 [l0, l1, l2, l3, l4, l5, l6, l7] st h Q ↔ WP d 129 68 [l0, l1, l2, l3, l4, l5, l6, l7] st h Q := wp_goto (show (lcode 129)[66]? = some (.goto 68) by decide +kernel)
theorem x129_67 : WP d 129 67 [l0, l1, l2, l3, l4, l5, l6, l7] st h Q ↔ WP d 129 68 [l0, l1, l2, l3, l4, l5, l6, l7] (vI 0 :: st) h Q := wp_iconst (show (lcode 129)[67]? = some (.iconst 0) by decide +kernel)
theorem x129_68 : WP d 129 68 [l0, l1, l2, l3, l4, l5, l6, l7] (vI x :: st) h Q ↔ (nl l0 ∧ WP d 129 69 [l0, some (vI x), l2, l3, l4, l5, l6, l7] st h Q) := wp_istore (show (lcode 129)[68]? = some (.istore 1) by decide +kernel) (Nat.le_of_ble_eq_true rfl)
theorem x129_69 : WP d 129 69 [some (Value.ref a), l1, l2, l3, l4, l5, l6, l7] st h Q ↔ WP d 129 70 [some (Value.ref a), l1, l2, l3, l4, l5, l6, l7] (Value.ref a :: st) h Q := wp_aload (show (lcode 129)[69]? = some (.aload 0) by decide +kernel) rfl
theorem x129_70 : WP d 129 70 [l0, l1, l2, l3, l4, l5, l6, l7] (.ref a :: st) h Q ↔ gF (hRd h a) 11 22 (fun v => WP d 129 71 [l0, l1, l2, l3, l4, l5, l6, l7] (v :: st) h Q) := wp_getfield (show (lcode 129)[70]? = some (.getfield 726) by decide +kernel)
theorem x129_71 : WP d 129 71 [l0, l1, l2, l3, some (vI x), l5, l6, l7] st h Q ↔ WP d 129 72 [l0, l1, l2, l3, some (vI x), l5, l6, l7] (vI x :: st) h Q := wp_iload (show (lcode 129)[71]? = some (.iload 4) by decide +kernel) rfl
theorem x129_72 : WP d 129 72 [l0, l1, l2, l3, l4, l5, l6, some (vI x)] st h Q ↔ WP d 129 73 [l0, l1, l2, l3, l4, l5, l6, some (vI x)] (vI x :: st) h Q := wp_iload (show (lcode 129)[72]? = some (.iload 7) by decide +kernel) rfl
theorem x129_73 : WP d 129 73 [l0, l1, l2, l3, l4, l5, l6, l7] (vI y :: vI x :: .ref a :: st) h Q ↔ stA (hRd h a) a x (vI y) (fun c => WP d 129 74 [l0, l1, l2, l3, l4, l5, l6, l7] st (hWr h a c) Q) := wp_iastore (show (lcode 129)[73]? = some (.iastore) by decide +kernel)
theorem x129_74 : WP d 129 74 [l0, l1, l2, l3, l4, l5, some (vI x), l7] st h Q ↔ WP d 129 75 [l0, l1, l2, l3, l4, l5, some (vI x), l7] (vI x :: st) h Q := wp_iload (show (lcode 129)[74]? = some (.iload 6) by decide +kernel) rfl
theorem x129_75 : WP d 129 75 [l0, l1, l2, l3, l4, l5, l6, l7] (vI x :: st) h Q ↔ ((wr x = 0 → WP d 129 78 [l0, l1, l2, l3, l4, l5, l6, l7] st h Q) ∧ (¬ (wr x = 0) → WP d 129 76 [l0, l1, l2, l3, l4, l5, l6, l7] st h Q)) := wp_if_eq (show (lcode 129)[75]? = some (.ifCond .eq 78) by decide +kernel)
theorem x129_76 : WP d 129 76 [l0, l1, some (vI x), l3, l4, l5, l6, l7] st h Q ↔ WP d 129 77 [l0, l1, some (vI x), l3, l4, l5, l6, l7] (vI x :: st) h Q := wp_iload (show (lcode 129)[76]? = some (.iload 2) by decide +kernel) rfl
theorem x129_77 : WP d 129 77 [l0, l1, l2, l3, l4, l5, l6, l7] st h Q ↔ WP d 129 81 [l0, l1, l2, l3, l4, l5, l6, l7] st h Q := wp_goto (show (lcode 129)[77]? = some (.goto 81) by decide +kernel)
theorem x129_78 : WP d 129 78 [l0, l1, some (vI x), l3, l4, l5, l6, l7] st h Q ↔ WP d 129 79 [l0, l1, some (vI x), l3, l4, l5, l6, l7] (vI x :: st) h Q := wp_iload (show (lcode 129)[78]? = some (.iload 2) by decide +kernel) rfl
theorem x129_79 : WP d 129 79 [l0, l1, l2, l3, l4, l5, l6, some (vI x)] st h Q ↔ WP d 129 80 [l0, l1, l2, l3, l4, l5, l6, some (vI x)] (vI x :: st) h Q := wp_iload (show (lcode 129)[79]? = some (.iload 7) by decide +kernel) rfl
theorem x129_80 : WP d 129 80 [l0, l1, l2, l3, l4, l5, l6, l7] (v1 :: v :: st) h Q ↔ (sh st ∧ CALL d 128 [v, v1] h (fun v h => WP d 129 81 [l0, l1, l2, l3, l4, l5, l6, l7] (v.toList ++ st) h Q)) := wp_call (n := 2) (show (lcode 129)[80]? = some (.invokestatic 128) by decide +kernel) (by decide +kernel) (by simp)
theorem x129_81 : WP d 129 81 [l0, l1, l2, l3, l4, l5, l6, l7] (vI x :: st) h Q ↔ (nl l1 ∧ WP d 129 82 [l0, l1, some (vI x), l3, l4, l5, l6, l7] st h Q) := wp_istore (show (lcode 129)[81]? = some (.istore 2) by decide +kernel) (Nat.le_of_ble_eq_true rfl)
theorem x129_82 : WP d 129 82 [l0, l1, l2, some (vI x), l4, l5, l6, l7] st h Q ↔ (nl l2 ∧ WP d 129 83 [l0, l1, l2, some (vI (x + 1)), l4, l5, l6, l7] st h Q) := wp_iinc (show (lcode 129)[82]? = some (.iinc 3 1) by decide +kernel) rfl (Nat.le_of_ble_eq_true rfl)
theorem x129_83 : WP d 129 83 [l0, l1, l2, l3, l4, l5, l6, l7] st h Q ↔ WP d 129 6 [l0, l1, l2, l3, l4, l5, l6, l7] st h Q := wp_goto (show (lcode 129)[83]? = some (.goto 6) by decide +kernel)
theorem x129_84 : WP d 129 84 [l0, some (vI x), l2, l3, l4, l5, l6, l7] st h Q ↔ WP d 129 85 [l0, some (vI x), l2, l3, l4, l5, l6, l7] (vI x :: st) h Q := wp_iload (show (lcode 129)[84]? = some (.iload 1) by decide +kernel) rfl
theorem x129_85 : WP d 129 85 [l0, l1, l2, l3, l4, l5, l6, l7] [vI x] h Q ↔ ((Int32.ofInt x = 0 ∨ Int32.ofInt x = 1) ∧ Q (some (vI x)) h) := wp_areturn (show (lcode 129)[85]? = some (.areturn) by decide +kernel)
-- 130: WakeOrderModel.settleJobs
theorem x130_0 : WP d 130 0 [l0, l1, l2, l3, l4] st h Q ↔ WP d 130 1 [l0, l1, l2, l3, l4] (vI 0 :: st) h Q := wp_iconst (show (lcode 130)[0]? = some (.iconst 0) by decide +kernel)
theorem x130_1 : WP d 130 1 [l0, l1, l2, l3, l4] (vI x :: st) h Q ↔ (nl l0 ∧ WP d 130 2 [l0, some (vI x), l2, l3, l4] st h Q) := wp_istore (show (lcode 130)[1]? = some (.istore 1) by decide +kernel) (Nat.le_of_ble_eq_true rfl)
theorem x130_2 : WP d 130 2 [l0, l1, l2, l3, l4] st h Q ↔ WP d 130 3 [l0, l1, l2, l3, l4] (vI 0 :: st) h Q := wp_iconst (show (lcode 130)[2]? = some (.iconst 0) by decide +kernel)
theorem x130_3 : WP d 130 3 [l0, l1, l2, l3, l4] (vI x :: st) h Q ↔ (nl l1 ∧ WP d 130 4 [l0, l1, some (vI x), l3, l4] st h Q) := wp_istore (show (lcode 130)[3]? = some (.istore 2) by decide +kernel) (Nat.le_of_ble_eq_true rfl)
theorem x130_4 : WP d 130 4 [l0, l1, l2, l3, l4] st h Q ↔ WPC d 130 5 [l0, l1, l2, l3, l4] st h Q := wp_nop (show (lcode 130)[4]? = some (.nop) by decide +kernel)
theorem x130_5 : WP d 130 5 [l0, l1, some (vI x), l3, l4] st h Q ↔ WP d 130 6 [l0, l1, some (vI x), l3, l4] (vI x :: st) h Q := wp_iload (show (lcode 130)[5]? = some (.iload 2) by decide +kernel) rfl
theorem x130_6 : WP d 130 6 [some (Value.ref a), l1, l2, l3, l4] st h Q ↔ WP d 130 7 [some (Value.ref a), l1, l2, l3, l4] (Value.ref a :: st) h Q := wp_aload (show (lcode 130)[6]? = some (.aload 0) by decide +kernel) rfl
theorem x130_7 : WP d 130 7 [l0, l1, l2, l3, l4] (.ref a :: st) h Q ↔ gF (hRd h a) 11 2 (fun v => WP d 130 8 [l0, l1, l2, l3, l4] (v :: st) h Q) := wp_getfield (show (lcode 130)[7]? = some (.getfield 706) by decide +kernel)
theorem x130_8 : WP d 130 8 [l0, l1, l2, l3, l4] (vI y :: vI x :: st) h Q ↔ ((wr y ≤ wr x → WP d 130 94 [l0, l1, l2, l3, l4] st h Q) ∧ (¬ (wr y ≤ wr x) → WP d 130 9 [l0, l1, l2, l3, l4] st h Q)) := wp_icmp_ge (show (lcode 130)[8]? = some (.if_icmp .ge 94) by decide +kernel)
theorem x130_9 : WP d 130 9 [some (Value.ref a), l1, l2, l3, l4] st h Q ↔ WP d 130 10 [some (Value.ref a), l1, l2, l3, l4] (Value.ref a :: st) h Q := wp_aload (show (lcode 130)[9]? = some (.aload 0) by decide +kernel) rfl
theorem x130_10 : WP d 130 10 [l0, l1, l2, l3, l4] (.ref a :: st) h Q ↔ gF (hRd h a) 11 22 (fun v => WP d 130 11 [l0, l1, l2, l3, l4] (v :: st) h Q) := wp_getfield (show (lcode 130)[10]? = some (.getfield 726) by decide +kernel)
theorem x130_11 : WP d 130 11 [some (Value.ref a), l1, l2, l3, l4] st h Q ↔ WP d 130 12 [some (Value.ref a), l1, l2, l3, l4] (Value.ref a :: st) h Q := wp_aload (show (lcode 130)[11]? = some (.aload 0) by decide +kernel) rfl
theorem x130_12 : WP d 130 12 [l0, l1, l2, l3, l4] (.ref a :: st) h Q ↔ gF (hRd h a) 11 6 (fun v => WP d 130 13 [l0, l1, l2, l3, l4] (v :: st) h Q) := wp_getfield (show (lcode 130)[12]? = some (.getfield 710) by decide +kernel)
theorem x130_13 : WP d 130 13 [l0, l1, l2, l3, l4] st h Q ↔ WP d 130 14 [l0, l1, l2, l3, l4] (vI 9 :: st) h Q := wp_iconst (show (lcode 130)[13]? = some (.iconst 9) by decide +kernel)
theorem x130_14 : WP d 130 14 [l0, l1, some (vI x), l3, l4] st h Q ↔ WP d 130 15 [l0, l1, some (vI x), l3, l4] (vI x :: st) h Q := wp_iload (show (lcode 130)[14]? = some (.iload 2) by decide +kernel) rfl
theorem x130_15 : WP d 130 15 [l0, l1, l2, l3, l4] (vI y :: vI x :: st) h Q ↔ WP d 130 16 [l0, l1, l2, l3, l4] (vI (x + y) :: st) h Q := wp_iadd (show (lcode 130)[15]? = some (.iadd) by decide +kernel)
theorem x130_16 : WP d 130 16 [l0, l1, l2, l3, l4] (vI x :: .ref a :: st) h Q ↔ ldA (hRd h a) x (fun v => WP d 130 17 [l0, l1, l2, l3, l4] (v :: st) h Q) := wp_iaload (show (lcode 130)[16]? = some (.iaload) by decide +kernel)
theorem x130_17 : WP d 130 17 [l0, l1, l2, l3, l4] (vI x :: .ref a :: st) h Q ↔ ldA (hRd h a) x (fun v => WP d 130 18 [l0, l1, l2, l3, l4] (v :: st) h Q) := wp_iaload (show (lcode 130)[17]? = some (.iaload) by decide +kernel)
theorem x130_18 : WP d 130 18 [l0, l1, l2, l3, l4] (vI x :: st) h Q ↔ (nl l2 ∧ WP d 130 19 [l0, l1, l2, some (vI x), l4] st h Q) := wp_istore (show (lcode 130)[18]? = some (.istore 3) by decide +kernel) (Nat.le_of_ble_eq_true rfl)
theorem x130_19 : WP d 130 19 [l0, l1, l2, some (vI x), l4] st h Q ↔ WP d 130 20 [l0, l1, l2, some (vI x), l4] (vI x :: st) h Q := wp_iload (show (lcode 130)[19]? = some (.iload 3) by decide +kernel) rfl
theorem x130_20 : WP d 130 20 [some (Value.ref a), l1, l2, l3, l4] st h Q ↔ WP d 130 21 [some (Value.ref a), l1, l2, l3, l4] (Value.ref a :: st) h Q := wp_aload (show (lcode 130)[20]? = some (.aload 0) by decide +kernel) rfl
theorem x130_21 : WP d 130 21 [l0, l1, l2, l3, l4] (.ref a :: st) h Q ↔ gF (hRd h a) 11 4 (fun v => WP d 130 22 [l0, l1, l2, l3, l4] (v :: st) h Q) := wp_getfield (show (lcode 130)[21]? = some (.getfield 708) by decide +kernel)
theorem x130_22 : WP d 130 22 [l0, l1, some (vI x), l3, l4] st h Q ↔ WP d 130 23 [l0, l1, some (vI x), l3, l4] (vI x :: st) h Q := wp_iload (show (lcode 130)[22]? = some (.iload 2) by decide +kernel) rfl
theorem x130_23 : WP d 130 23 [l0, l1, l2, l3, l4] (vI x :: .ref a :: st) h Q ↔ ldA (hRd h a) x (fun v => WP d 130 24 [l0, l1, l2, l3, l4] (v :: st) h Q) := wp_iaload (show (lcode 130)[23]? = some (.iaload) by decide +kernel)
theorem x130_24 : WP d 130 24 [l0, l1, l2, l3, l4] (vI x :: st) h Q ↔ ((0 ≤ wr x → WP d 130 27 [l0, l1, l2, l3, l4] st h Q) ∧ (¬ (0 ≤ wr x) → WP d 130 25 [l0, l1, l2, l3, l4] st h Q)) := wp_if_ge (show (lcode 130)[24]? = some (.ifCond .ge 27) by decide +kernel)
theorem x130_25 : WP d 130 25 [l0, l1, l2, l3, l4] st h Q ↔ WP d 130 26 [l0, l1, l2, l3, l4] (vI 0 :: st) h Q := wp_iconst (show (lcode 130)[25]? = some (.iconst 0) by decide +kernel)
theorem x130_26 : WP d 130 26 [l0, l1, l2, l3, l4] st h Q ↔ WP d 130 34 [l0, l1, l2, l3, l4] st h Q := wp_goto (show (lcode 130)[26]? = some (.goto 34) by decide +kernel)
theorem x130_27 : WP d 130 27 [some (Value.ref a), l1, l2, l3, l4] st h Q ↔ WP d 130 28 [some (Value.ref a), l1, l2, l3, l4] (Value.ref a :: st) h Q := wp_aload (show (lcode 130)[27]? = some (.aload 0) by decide +kernel) rfl
theorem x130_28 : WP d 130 28 [l0, l1, l2, l3, l4] (.ref a :: st) h Q ↔ gF (hRd h a) 11 23 (fun v => WP d 130 29 [l0, l1, l2, l3, l4] (v :: st) h Q) := wp_getfield (show (lcode 130)[28]? = some (.getfield 727) by decide +kernel)
theorem x130_29 : WP d 130 29 [some (Value.ref a), l1, l2, l3, l4] st h Q ↔ WP d 130 30 [some (Value.ref a), l1, l2, l3, l4] (Value.ref a :: st) h Q := wp_aload (show (lcode 130)[29]? = some (.aload 0) by decide +kernel) rfl
theorem x130_30 : WP d 130 30 [l0, l1, l2, l3, l4] (.ref a :: st) h Q ↔ gF (hRd h a) 11 4 (fun v => WP d 130 31 [l0, l1, l2, l3, l4] (v :: st) h Q) := wp_getfield (show (lcode 130)[30]? = some (.getfield 708) by decide +kernel)
theorem x130_31 : WP d 130 31 [l0, l1, some (vI x), l3, l4] st h Q ↔ WP d 130 32 [l0, l1, some (vI x), l3, l4] (vI x :: st) h Q := wp_iload (show (lcode 130)[31]? = some (.iload 2) by decide +kernel) rfl
theorem x130_32 : WP d 130 32 [l0, l1, l2, l3, l4] (vI x :: .ref a :: st) h Q ↔ ldA (hRd h a) x (fun v => WP d 130 33 [l0, l1, l2, l3, l4] (v :: st) h Q) := wp_iaload (show (lcode 130)[32]? = some (.iaload) by decide +kernel)
theorem x130_33 : WP d 130 33 [l0, l1, l2, l3, l4] (vI x :: .ref a :: st) h Q ↔ ldA (hRd h a) x (fun v => WP d 130 34 [l0, l1, l2, l3, l4] (v :: st) h Q) := wp_iaload (show (lcode 130)[33]? = some (.iaload) by decide +kernel)
theorem x130_34 : WP d 130 34 [l0, l1, l2, l3, l4] (v1 :: v :: st) h Q ↔ (sh st ∧ CALL d 128 [v, v1] h (fun v h => WP d 130 35 [l0, l1, l2, l3, l4] (v.toList ++ st) h Q)) := wp_call (n := 2) (show (lcode 130)[34]? = some (.invokestatic 128) by decide +kernel) (by decide +kernel) (by simp)
theorem x130_35 : WP d 130 35 [l0, l1, l2, l3, l4] (vI x :: st) h Q ↔ (nl l2 ∧ WP d 130 36 [l0, l1, l2, some (vI x), l4] st h Q) := wp_istore (show (lcode 130)[35]? = some (.istore 3) by decide +kernel) (Nat.le_of_ble_eq_true rfl)
theorem x130_36 : WP d 130 36 [l0, l1, l2, l3, l4] st h Q ↔ WP d 130 37 [l0, l1, l2, l3, l4] (vI 0 :: st) h Q := wp_iconst (show (lcode 130)[36]? = some (.iconst 0) by decide +kernel)
theorem x130_37 : WP d 130 37 [l0, l1, l2, l3, l4] (vI x :: st) h Q ↔ (nl l3 ∧ WP d 130 38 [l0, l1, l2, l3, some (vI x)] st h Q) := wp_istore (show (lcode 130)[37]? = some (.istore 4) by decide +kernel) (Nat.le_of_ble_eq_true rfl)
theorem x130_38 : WP d 130 38 [l0, l1, l2, l3, l4] st h Q ↔ WPC d 130 39 [l0, l1, l2, l3, l4] st h Q := wp_nop (show (lcode 130)[38]? = some (.nop) by decide +kernel)
theorem x130_39 : WP d 130 39 [l0, l1, l2, l3, some (vI x)] st h Q ↔ WP d 130 40 [l0, l1, l2, l3, some (vI x)] (vI x :: st) h Q := wp_iload (show (lcode 130)[39]? = some (.iload 4) by decide +kernel) rfl
theorem x130_40 : WP d 130 40 [l0, l1, some (vI x), l3, l4] st h Q ↔ WP d 130 41 [l0, l1, some (vI x), l3, l4] (vI x :: st) h Q := wp_iload (show (lcode 130)[40]? = some (.iload 2) by decide +kernel) rfl
theorem x130_41 : WP d 130 41 [l0, l1, l2, l3, l4] (vI y :: vI x :: st) h Q ↔ ((wr y ≤ wr x → WP d 130 66 [l0, l1, l2, l3, l4] st h Q) ∧ (¬ (wr y ≤ wr x) → WP d 130 42 [l0, l1, l2, l3, l4] st h Q)) := wp_icmp_ge (show (lcode 130)[41]? = some (.if_icmp .ge 66) by decide +kernel)
theorem x130_42 : WP d 130 42 [some (Value.ref a), l1, l2, l3, l4] st h Q ↔ WP d 130 43 [some (Value.ref a), l1, l2, l3, l4] (Value.ref a :: st) h Q := wp_aload (show (lcode 130)[42]? = some (.aload 0) by decide +kernel) rfl
theorem x130_43 : WP d 130 43 [l0, l1, l2, l3, l4] (.ref a :: st) h Q ↔ gF (hRd h a) 11 6 (fun v => WP d 130 44 [l0, l1, l2, l3, l4] (v :: st) h Q) := wp_getfield (show (lcode 130)[43]? = some (.getfield 710) by decide +kernel)
theorem x130_44 : WP d 130 44 [l0, l1, l2, l3, l4] st h Q ↔ WP d 130 45 [l0, l1, l2, l3, l4] (vI 9 :: st) h Q := wp_iconst (show (lcode 130)[44]? = some (.iconst 9) by decide +kernel)
theorem x130_45 : WP d 130 45 [l0, l1, l2, l3, some (vI x)] st h Q ↔ WP d 130 46 [l0, l1, l2, l3, some (vI x)] (vI x :: st) h Q := wp_iload (show (lcode 130)[45]? = some (.iload 4) by decide +kernel) rfl
theorem x130_46 : WP d 130 46 [l0, l1, l2, l3, l4] (vI y :: vI x :: st) h Q ↔ WP d 130 47 [l0, l1, l2, l3, l4] (vI (x + y) :: st) h Q := wp_iadd (show (lcode 130)[46]? = some (.iadd) by decide +kernel)
theorem x130_47 : WP d 130 47 [l0, l1, l2, l3, l4] (vI x :: .ref a :: st) h Q ↔ ldA (hRd h a) x (fun v => WP d 130 48 [l0, l1, l2, l3, l4] (v :: st) h Q) := wp_iaload (show (lcode 130)[47]? = some (.iaload) by decide +kernel)
theorem x130_48 : WP d 130 48 [some (Value.ref a), l1, l2, l3, l4] st h Q ↔ WP d 130 49 [some (Value.ref a), l1, l2, l3, l4] (Value.ref a :: st) h Q := wp_aload (show (lcode 130)[48]? = some (.aload 0) by decide +kernel) rfl
theorem x130_49 : WP d 130 49 [l0, l1, l2, l3, l4] (.ref a :: st) h Q ↔ gF (hRd h a) 11 6 (fun v => WP d 130 50 [l0, l1, l2, l3, l4] (v :: st) h Q) := wp_getfield (show (lcode 130)[49]? = some (.getfield 710) by decide +kernel)
theorem x130_50 : WP d 130 50 [l0, l1, l2, l3, l4] st h Q ↔ WP d 130 51 [l0, l1, l2, l3, l4] (vI 9 :: st) h Q := wp_iconst (show (lcode 130)[50]? = some (.iconst 9) by decide +kernel)
theorem x130_51 : WP d 130 51 [l0, l1, some (vI x), l3, l4] st h Q ↔ WP d 130 52 [l0, l1, some (vI x), l3, l4] (vI x :: st) h Q := wp_iload (show (lcode 130)[51]? = some (.iload 2) by decide +kernel) rfl
theorem x130_52 : WP d 130 52 [l0, l1, l2, l3, l4] (vI y :: vI x :: st) h Q ↔ WP d 130 53 [l0, l1, l2, l3, l4] (vI (x + y) :: st) h Q := wp_iadd (show (lcode 130)[52]? = some (.iadd) by decide +kernel)
theorem x130_53 : WP d 130 53 [l0, l1, l2, l3, l4] (vI x :: .ref a :: st) h Q ↔ ldA (hRd h a) x (fun v => WP d 130 54 [l0, l1, l2, l3, l4] (v :: st) h Q) := wp_iaload (show (lcode 130)[53]? = some (.iaload) by decide +kernel)
theorem x130_54 : WP d 130 54 [l0, l1, l2, l3, l4] (vI y :: vI x :: st) h Q ↔ ((¬ wr x = wr y → WP d 130 62 [l0, l1, l2, l3, l4] st h Q) ∧ (¬ (¬ wr x = wr y) → WP d 130 55 [l0, l1, l2, l3, l4] st h Q)) := wp_icmp_ne (show (lcode 130)[54]? = some (.if_icmp .ne 62) by decide +kernel)
theorem x130_55 : WP d 130 55 [l0, l1, l2, some (vI x), l4] st h Q ↔ WP d 130 56 [l0, l1, l2, some (vI x), l4] (vI x :: st) h Q := wp_iload (show (lcode 130)[55]? = some (.iload 3) by decide +kernel) rfl
theorem x130_56 : WP d 130 56 [some (Value.ref a), l1, l2, l3, l4] st h Q ↔ WP d 130 57 [some (Value.ref a), l1, l2, l3, l4] (Value.ref a :: st) h Q := wp_aload (show (lcode 130)[56]? = some (.aload 0) by decide +kernel) rfl
theorem x130_57 : WP d 130 57 [l0, l1, l2, l3, l4] (.ref a :: st) h Q ↔ gF (hRd h a) 11 23 (fun v => WP d 130 58 [l0, l1, l2, l3, l4] (v :: st) h Q) := wp_getfield (show (lcode 130)[57]? = some (.getfield 727) by decide +kernel)
theorem x130_58 : WP d 130 58 [l0, l1, l2, l3, some (vI x)] st h Q ↔ WP d 130 59 [l0, l1, l2, l3, some (vI x)] (vI x :: st) h Q := wp_iload (show (lcode 130)[58]? = some (.iload 4) by decide +kernel) rfl
theorem x130_59 : WP d 130 59 [l0, l1, l2, l3, l4] (vI x :: .ref a :: st) h Q ↔ ldA (hRd h a) x (fun v => WP d 130 60 [l0, l1, l2, l3, l4] (v :: st) h Q) := wp_iaload (show (lcode 130)[59]? = some (.iaload) by decide +kernel)
theorem x130_60 : WP d 130 60 [l0, l1, l2, l3, l4] (v1 :: v :: st) h Q ↔ (sh st ∧ CALL d 128 [v, v1] h (fun v h => WP d 130 61 [l0, l1, l2, l3, l4] (v.toList ++ st) h Q)) := wp_call (n := 2) (show (lcode 130)[60]? = some (.invokestatic 128) by decide +kernel) (by decide +kernel) (by simp)
theorem x130_61 : WP d 130 61 [l0, l1, l2, l3, l4] st h Q ↔ WP d 130 63 [l0, l1, l2, l3, l4] st h Q := wp_goto (show (lcode 130)[61]? = some (.goto 63) by decide +kernel)
theorem x130_62 : WP d 130 62 [l0, l1, l2, some (vI x), l4] st h Q ↔ WP d 130 63 [l0, l1, l2, some (vI x), l4] (vI x :: st) h Q := wp_iload (show (lcode 130)[62]? = some (.iload 3) by decide +kernel) rfl
theorem x130_63 : WP d 130 63 [l0, l1, l2, l3, l4] (vI x :: st) h Q ↔ (nl l2 ∧ WP d 130 64 [l0, l1, l2, some (vI x), l4] st h Q) := wp_istore (show (lcode 130)[63]? = some (.istore 3) by decide +kernel) (Nat.le_of_ble_eq_true rfl)
theorem x130_64 : WP d 130 64 [l0, l1, l2, l3, some (vI x)] st h Q ↔ (nl l3 ∧ WP d 130 65 [l0, l1, l2, l3, some (vI (x + 1))] st h Q) := wp_iinc (show (lcode 130)[64]? = some (.iinc 4 1) by decide +kernel) rfl (Nat.le_of_ble_eq_true rfl)
theorem x130_65 : WP d 130 65 [l0, l1, l2, l3, l4] st h Q ↔ WP d 130 38 [l0, l1, l2, l3, l4] st h Q := wp_goto (show (lcode 130)[65]? = some (.goto 38) by decide +kernel)
theorem x130_66 : WP d 130 66 [some (Value.ref a), l1, l2, l3, l4] st h Q ↔ WP d 130 67 [some (Value.ref a), l1, l2, l3, l4] (Value.ref a :: st) h Q := wp_aload (show (lcode 130)[66]? = some (.aload 0) by decide +kernel) rfl
theorem x130_67 : WP d 130 67 [l0, l1, l2, some (vI x), l4] st h Q ↔ WP d 130 68 [l0, l1, l2, some (vI x), l4] (vI x :: st) h Q := wp_iload (show (lcode 130)[67]? = some (.iload 3) by decide +kernel) rfl
theorem x130_68 : WP d 130 68 [some (Value.ref a), l1, l2, l3, l4] st h Q ↔ WP d 130 69 [some (Value.ref a), l1, l2, l3, l4] (Value.ref a :: st) h Q := wp_aload (show (lcode 130)[68]? = some (.aload 0) by decide +kernel) rfl
theorem x130_69 : WP d 130 69 [l0, l1, l2, l3, l4] (.ref a :: st) h Q ↔ gF (hRd h a) 11 3 (fun v => WP d 130 70 [l0, l1, l2, l3, l4] (v :: st) h Q) := wp_getfield (show (lcode 130)[69]? = some (.getfield 707) by decide +kernel)
theorem x130_70 : WP d 130 70 [l0, l1, some (vI x), l3, l4] st h Q ↔ WP d 130 71 [l0, l1, some (vI x), l3, l4] (vI x :: st) h Q := wp_iload (show (lcode 130)[70]? = some (.iload 2) by decide +kernel) rfl
theorem x130_71 : WP d 130 71 [l0, l1, l2, l3, l4] (vI x :: .ref a :: st) h Q ↔ ldA (hRd h a) x (fun v => WP d 130 72 [l0, l1, l2, l3, l4] (v :: st) h Q) := wp_iaload (show (lcode 130)[71]? = some (.iaload) by decide +kernel)
theorem x130_72 : WP d 130 72 [l0, l1, l2, l3, l4] (vI y :: vI x :: st) h Q ↔ WP d 130 73 [l0, l1, l2, l3, l4] (vI (x + y) :: st) h Q := wp_iadd (show (lcode 130)[72]? = some (.iadd) by decide +kernel)
theorem x130_73 : WP d 130 73 [l0, l1, l2, l3, l4] (v1 :: v :: st) h Q ↔ (sh st ∧ CALL d 127 [v, v1] h (fun v h => WP d 130 74 [l0, l1, l2, l3, l4] (v.toList ++ st) h Q)) := wp_call (n := 2) (show (lcode 130)[73]? = some (.invokestatic 127) by decide +kernel) (by decide +kernel) (by simp)
theorem x130_74 : WP d 130 74 [l0, l1, l2, l3, l4] (vI x :: st) h Q ↔ (nl l3 ∧ WP d 130 75 [l0, l1, l2, l3, some (vI x)] st h Q) := wp_istore (show (lcode 130)[74]? = some (.istore 4) by decide +kernel) (Nat.le_of_ble_eq_true rfl)
theorem x130_75 : WP d 130 75 [l0, some (vI x), l2, l3, l4] st h Q ↔ WP d 130 76 [l0, some (vI x), l2, l3, l4] (vI x :: st) h Q := wp_iload (show (lcode 130)[75]? = some (.iload 1) by decide +kernel) rfl
theorem x130_76 : WP d 130 76 [l0, l1, l2, l3, l4] (vI x :: st) h Q ↔ ((¬ wr x = 0 → WP d 130 83 [l0, l1, l2, l3, l4] st h Q) ∧ (¬ (¬ wr x = 0) → WP d 130 77 [l0, l1, l2, l3, l4] st h Q)) := wp_if_ne (show (lcode 130)[76]? = some (.ifCond .ne 83) by decide +kernel)
theorem x130_77 : WP d 130 77 [l0, l1, l2, l3, some (vI x)] st h Q ↔ WP d 130 78 [l0, l1, l2, l3, some (vI x)] (vI x :: st) h Q := wp_iload (show (lcode 130)[77]? = some (.iload 4) by decide +kernel) rfl
theorem x130_78 : WP d 130 78 [some (Value.ref a), l1, l2, l3, l4] st h Q ↔ WP d 130 79 [some (Value.ref a), l1, l2, l3, l4] (Value.ref a :: st) h Q := wp_aload (show (lcode 130)[78]? = some (.aload 0) by decide +kernel) rfl
theorem x130_79 : WP d 130 79 [l0, l1, l2, l3, l4] (.ref a :: st) h Q ↔ gF (hRd h a) 11 23 (fun v => WP d 130 80 [l0, l1, l2, l3, l4] (v :: st) h Q) := wp_getfield (show (lcode 130)[79]? = some (.getfield 727) by decide +kernel)
theorem x130_80 : WP d 130 80 [l0, l1, some (vI x), l3, l4] st h Q ↔ WP d 130 81 [l0, l1, some (vI x), l3, l4] (vI x :: st) h Q := wp_iload (show (lcode 130)[80]? = some (.iload 2) by decide +kernel) rfl
theorem x130_81 : WP d 130 81 [l0, l1, l2, l3, l4] (vI x :: .ref a :: st) h Q ↔ ldA (hRd h a) x (fun v => WP d 130 82 [l0, l1, l2, l3, l4] (v :: st) h Q) := wp_iaload (show (lcode 130)[81]? = some (.iaload) by decide +kernel)
theorem x130_82 : WP d 130 82 [l0, l1, l2, l3, l4] (vI y :: vI x :: st) h Q ↔ ((wr x = wr y → WP d 130 85 [l0, l1, l2, l3, l4] st h Q) ∧ (¬ (wr x = wr y) → WP d 130 83 [l0, l1, l2, l3, l4] st h Q)) := wp_icmp_eq (show (lcode 130)[82]? = some (.if_icmp .eq 85) by decide +kernel)
theorem x130_83 : WP d 130 83 [l0, l1, l2, l3, l4] st h Q ↔ WP d 130 84 [l0, l1, l2, l3, l4] (vI 1 :: st) h Q := wp_iconst (show (lcode 130)[83]? = some (.iconst 1) by decide +kernel)
theorem x130_84 : WP d 130 84 [l0, l1, l2, l3, l4] st h Q ↔ WP d 130 86 [l0, l1, l2, l3, l4] st h Q := wp_goto (show (lcode 130)[84]? = some (.goto 86) by decide +kernel)
theorem x130_85 : WP d 130 85 [l0, l1, l2, l3, l4] st h Q ↔ WP d 130 86 [l0, l1, l2, l3, l4] (vI 0 :: st) h Q := wp_iconst (show (lcode 130)[85]? = some (.iconst 0) by decide +kernel)
theorem x130_86 : WP d 130 86 [l0, l1, l2, l3, l4] (vI x :: st) h Q ↔ (nl l0 ∧ WP d 130 87 [l0, some (vI x), l2, l3, l4] st h Q) := wp_istore (show (lcode 130)[86]? = some (.istore 1) by decide +kernel) (Nat.le_of_ble_eq_true rfl)
theorem x130_87 : WP d 130 87 [some (Value.ref a), l1, l2, l3, l4] st h Q ↔ WP d 130 88 [some (Value.ref a), l1, l2, l3, l4] (Value.ref a :: st) h Q := wp_aload (show (lcode 130)[87]? = some (.aload 0) by decide +kernel) rfl
theorem x130_88 : WP d 130 88 [l0, l1, l2, l3, l4] (.ref a :: st) h Q ↔ gF (hRd h a) 11 23 (fun v => WP d 130 89 [l0, l1, l2, l3, l4] (v :: st) h Q) := wp_getfield (show (lcode 130)[88]? = some (.getfield 727) by decide +kernel)
theorem x130_89 : WP d 130 89 [l0, l1, some (vI x), l3, l4] st h Q ↔ WP d 130 90 [l0, l1, some (vI x), l3, l4] (vI x :: st) h Q := wp_iload (show (lcode 130)[89]? = some (.iload 2) by decide +kernel) rfl
theorem x130_90 : WP d 130 90 [l0, l1, l2, l3, some (vI x)] st h Q ↔ WP d 130 91 [l0, l1, l2, l3, some (vI x)] (vI x :: st) h Q := wp_iload (show (lcode 130)[90]? = some (.iload 4) by decide +kernel) rfl
theorem x130_91 : WP d 130 91 [l0, l1, l2, l3, l4] (vI y :: vI x :: .ref a :: st) h Q ↔ stA (hRd h a) a x (vI y) (fun c => WP d 130 92 [l0, l1, l2, l3, l4] st (hWr h a c) Q) := wp_iastore (show (lcode 130)[91]? = some (.iastore) by decide +kernel)
theorem x130_92 : WP d 130 92 [l0, l1, some (vI x), l3, l4] st h Q ↔ (nl l1 ∧ WP d 130 93 [l0, l1, some (vI (x + 1)), l3, l4] st h Q) := wp_iinc (show (lcode 130)[92]? = some (.iinc 2 1) by decide +kernel) rfl (Nat.le_of_ble_eq_true rfl)
theorem x130_93 : WP d 130 93 [l0, l1, l2, l3, l4] st h Q ↔ WP d 130 4 [l0, l1, l2, l3, l4] st h Q := wp_goto (show (lcode 130)[93]? = some (.goto 4) by decide +kernel)
theorem x130_94 : WP d 130 94 [l0, some (vI x), l2, l3, l4] st h Q ↔ WP d 130 95 [l0, some (vI x), l2, l3, l4] (vI x :: st) h Q := wp_iload (show (lcode 130)[94]? = some (.iload 1) by decide +kernel) rfl
theorem x130_95 : WP d 130 95 [l0, l1, l2, l3, l4] [vI x] h Q ↔ ((Int32.ofInt x = 0 ∨ Int32.ofInt x = 1) ∧ Q (some (vI x)) h) := wp_areturn (show (lcode 130)[95]? = some (.areturn) by decide +kernel)
-- 131: WakeOrderModel.settle
theorem x131_0 : WP d 131 0 [l0, l1, l2] st h Q ↔ WP d 131 1 [l0, l1, l2] (vI 0 :: st) h Q := wp_iconst (show (lcode 131)[0]? = some (.iconst 0) by decide +kernel)
theorem x131_1 : WP d 131 1 [l0, l1, l2] (vI x :: st) h Q ↔ (nl l0 ∧ WP d 131 2 [l0, some (vI x), l2] st h Q) := wp_istore (show (lcode 131)[1]? = some (.istore 1) by decide +kernel) (Nat.le_of_ble_eq_true rfl)
theorem x131_2 : WP d 131 2 [l0, l1, l2] st h Q ↔ WPC d 131 3 [l0, l1, l2] st h Q := wp_nop (show (lcode 131)[2]? = some (.nop) by decide +kernel)
theorem x131_3 : WP d 131 3 [l0, some (vI x), l2] st h Q ↔ WP d 131 4 [l0, some (vI x), l2] (vI x :: st) h Q := wp_iload (show (lcode 131)[3]? = some (.iload 1) by decide +kernel) rfl
theorem x131_4 : WP d 131 4 [l0, l1, l2] st h Q ↔ WP d 131 5 [l0, l1, l2] (vI 6 :: st) h Q := wp_iconst (show (lcode 131)[4]? = some (.iconst 6) by decide +kernel)
theorem x131_5 : WP d 131 5 [l0, l1, l2] (vI y :: vI x :: st) h Q ↔ ((wr y ≤ wr x → WP d 131 13 [l0, l1, l2] st h Q) ∧ (¬ (wr y ≤ wr x) → WP d 131 6 [l0, l1, l2] st h Q)) := wp_icmp_ge (show (lcode 131)[5]? = some (.if_icmp .ge 13) by decide +kernel)
theorem x131_6 : WP d 131 6 [some (Value.ref a), l1, l2] st h Q ↔ WP d 131 7 [some (Value.ref a), l1, l2] (Value.ref a :: st) h Q := wp_aload (show (lcode 131)[6]? = some (.aload 0) by decide +kernel) rfl
theorem x131_7 : WP d 131 7 [l0, l1, l2] (.ref a :: st) h Q ↔ gF (hRd h a) 11 22 (fun v => WP d 131 8 [l0, l1, l2] (v :: st) h Q) := wp_getfield (show (lcode 131)[7]? = some (.getfield 726) by decide +kernel)
theorem x131_8 : WP d 131 8 [l0, some (vI x), l2] st h Q ↔ WP d 131 9 [l0, some (vI x), l2] (vI x :: st) h Q := wp_iload (show (lcode 131)[8]? = some (.iload 1) by decide +kernel) rfl
theorem x131_9 : WP d 131 9 [l0, l1, l2] st h Q ↔ WP d 131 10 [l0, l1, l2] (vI 1000000 :: st) h Q := wp_iconst (show (lcode 131)[9]? = some (.iconst 1000000) by decide +kernel)
theorem x131_10 : WP d 131 10 [l0, l1, l2] (vI y :: vI x :: .ref a :: st) h Q ↔ stA (hRd h a) a x (vI y) (fun c => WP d 131 11 [l0, l1, l2] st (hWr h a c) Q) := wp_iastore (show (lcode 131)[10]? = some (.iastore) by decide +kernel)
theorem x131_11 : WP d 131 11 [l0, some (vI x), l2] st h Q ↔ (nl l0 ∧ WP d 131 12 [l0, some (vI (x + 1)), l2] st h Q) := wp_iinc (show (lcode 131)[11]? = some (.iinc 1 1) by decide +kernel) rfl (Nat.le_of_ble_eq_true rfl)
theorem x131_12 : WP d 131 12 [l0, l1, l2] st h Q ↔ WP d 131 2 [l0, l1, l2] st h Q := wp_goto (show (lcode 131)[12]? = some (.goto 2) by decide +kernel)
theorem x131_13 : WP d 131 13 [l0, l1, l2] st h Q ↔ WP d 131 14 [l0, l1, l2] (vI 0 :: st) h Q := wp_iconst (show (lcode 131)[13]? = some (.iconst 0) by decide +kernel)
theorem x131_14 : WP d 131 14 [l0, l1, l2] (vI x :: st) h Q ↔ (nl l0 ∧ WP d 131 15 [l0, some (vI x), l2] st h Q) := wp_istore (show (lcode 131)[14]? = some (.istore 1) by decide +kernel) (Nat.le_of_ble_eq_true rfl)
theorem x131_15 : WP d 131 15 [l0, l1, l2] st h Q ↔ WPC d 131 16 [l0, l1, l2] st h Q := wp_nop (show (lcode 131)[15]? = some (.nop) by decide +kernel)
theorem x131_16 : WP d 131 16 [l0, some (vI x), l2] st h Q ↔ WP d 131 17 [l0, some (vI x), l2] (vI x :: st) h Q := wp_iload (show (lcode 131)[16]? = some (.iload 1) by decide +kernel) rfl
theorem x131_17 : WP d 131 17 [l0, l1, l2] st h Q ↔ WP d 131 18 [l0, l1, l2] (vI 8 :: st) h Q := wp_iconst (show (lcode 131)[17]? = some (.iconst 8) by decide +kernel)
theorem x131_18 : WP d 131 18 [l0, l1, l2] (vI y :: vI x :: st) h Q ↔ ((wr y ≤ wr x → WP d 131 26 [l0, l1, l2] st h Q) ∧ (¬ (wr y ≤ wr x) → WP d 131 19 [l0, l1, l2] st h Q)) := wp_icmp_ge (show (lcode 131)[18]? = some (.if_icmp .ge 26) by decide +kernel)
theorem x131_19 : WP d 131 19 [some (Value.ref a), l1, l2] st h Q ↔ WP d 131 20 [some (Value.ref a), l1, l2] (Value.ref a :: st) h Q := wp_aload (show (lcode 131)[19]? = some (.aload 0) by decide +kernel) rfl
theorem x131_20 : WP d 131 20 [l0, l1, l2] (.ref a :: st) h Q ↔ gF (hRd h a) 11 23 (fun v => WP d 131 21 [l0, l1, l2] (v :: st) h Q) := wp_getfield (show (lcode 131)[20]? = some (.getfield 727) by decide +kernel)
theorem x131_21 : WP d 131 21 [l0, some (vI x), l2] st h Q ↔ WP d 131 22 [l0, some (vI x), l2] (vI x :: st) h Q := wp_iload (show (lcode 131)[21]? = some (.iload 1) by decide +kernel) rfl
theorem x131_22 : WP d 131 22 [l0, l1, l2] st h Q ↔ WP d 131 23 [l0, l1, l2] (vI 1000000 :: st) h Q := wp_iconst (show (lcode 131)[22]? = some (.iconst 1000000) by decide +kernel)
theorem x131_23 : WP d 131 23 [l0, l1, l2] (vI y :: vI x :: .ref a :: st) h Q ↔ stA (hRd h a) a x (vI y) (fun c => WP d 131 24 [l0, l1, l2] st (hWr h a c) Q) := wp_iastore (show (lcode 131)[23]? = some (.iastore) by decide +kernel)
theorem x131_24 : WP d 131 24 [l0, some (vI x), l2] st h Q ↔ (nl l0 ∧ WP d 131 25 [l0, some (vI (x + 1)), l2] st h Q) := wp_iinc (show (lcode 131)[24]? = some (.iinc 1 1) by decide +kernel) rfl (Nat.le_of_ble_eq_true rfl)
theorem x131_25 : WP d 131 25 [l0, l1, l2] st h Q ↔ WP d 131 15 [l0, l1, l2] st h Q := wp_goto (show (lcode 131)[25]? = some (.goto 15) by decide +kernel)
theorem x131_26 : WP d 131 26 [l0, l1, l2] st h Q ↔ WP d 131 27 [l0, l1, l2] (vI 1 :: st) h Q := wp_iconst (show (lcode 131)[26]? = some (.iconst 1) by decide +kernel)
theorem x131_27 : WP d 131 27 [l0, l1, l2] (vI x :: st) h Q ↔ (nl l0 ∧ WP d 131 28 [l0, some (vI x), l2] st h Q) := wp_istore (show (lcode 131)[27]? = some (.istore 1) by decide +kernel) (Nat.le_of_ble_eq_true rfl)
theorem x131_28 : WP d 131 28 [l0, l1, l2] st h Q ↔ WPC d 131 29 [l0, l1, l2] st h Q := wp_nop (show (lcode 131)[28]? = some (.nop) by decide +kernel)
theorem x131_29 : WP d 131 29 [l0, some (vI x), l2] st h Q ↔ WP d 131 30 [l0, some (vI x), l2] (vI x :: st) h Q := wp_iload (show (lcode 131)[29]? = some (.iload 1) by decide +kernel) rfl
theorem x131_30 : WP d 131 30 [l0, l1, l2] (vI x :: st) h Q ↔ ((wr x = 0 → WP d 131 44 [l0, l1, l2] st h Q) ∧ (¬ (wr x = 0) → WP d 131 31 [l0, l1, l2] st h Q)) := wp_if_eq (show (lcode 131)[30]? = some (.ifCond .eq 44) by decide +kernel)
theorem x131_31 : WP d 131 31 [some (Value.ref a), l1, l2] st h Q ↔ WP d 131 32 [some (Value.ref a), l1, l2] (Value.ref a :: st) h Q := wp_aload (show (lcode 131)[31]? = some (.aload 0) by decide +kernel) rfl
theorem x131_32 : WP d 131 32 [l0, l1, l2] (v :: st) h Q ↔ (sh st ∧ CALL d 129 [v] h (fun v h => WP d 131 33 [l0, l1, l2] (v.toList ++ st) h Q)) := wp_call (n := 1) (show (lcode 131)[32]? = some (.invokestatic 129) by decide +kernel) (by decide +kernel) (by simp)
theorem x131_33 : WP d 131 33 [l0, l1, l2] (vI x :: st) h Q ↔ (nl l1 ∧ WP d 131 34 [l0, l1, some (vI x)] st h Q) := wp_istore (show (lcode 131)[33]? = some (.istore 2) by decide +kernel) (Nat.le_of_ble_eq_true rfl)
theorem x131_34 : WP d 131 34 [some (Value.ref a), l1, l2] st h Q ↔ WP d 131 35 [some (Value.ref a), l1, l2] (Value.ref a :: st) h Q := wp_aload (show (lcode 131)[34]? = some (.aload 0) by decide +kernel) rfl
theorem x131_35 : WP d 131 35 [l0, l1, l2] (v :: st) h Q ↔ (sh st ∧ CALL d 130 [v] h (fun v h => WP d 131 36 [l0, l1, l2] (v.toList ++ st) h Q)) := wp_call (n := 1) (show (lcode 131)[35]? = some (.invokestatic 130) by decide +kernel) (by decide +kernel) (by simp)
theorem x131_36 : WP d 131 36 [l0, l1, l2] (vI x :: st) h Q ↔ ((¬ wr x = 0 → WP d 131 39 [l0, l1, l2] st h Q) ∧ (¬ (¬ wr x = 0) → WP d 131 37 [l0, l1, l2] st h Q)) := wp_if_ne (show (lcode 131)[36]? = some (.ifCond .ne 39) by decide +kernel)
theorem x131_37 : WP d 131 37 [l0, l1, some (vI x)] st h Q ↔ WP d 131 38 [l0, l1, some (vI x)] (vI x :: st) h Q := wp_iload (show (lcode 131)[37]? = some (.iload 2) by decide +kernel) rfl
theorem x131_38 : WP d 131 38 [l0, l1, l2] (vI x :: st) h Q ↔ ((wr x = 0 → WP d 131 41 [l0, l1, l2] st h Q) ∧ (¬ (wr x = 0) → WP d 131 39 [l0, l1, l2] st h Q)) := wp_if_eq (show (lcode 131)[38]? = some (.ifCond .eq 41) by decide +kernel)
theorem x131_39 : WP d 131 39 [l0, l1, l2] st h Q ↔ WP d 131 40 [l0, l1, l2] (vI 1 :: st) h Q := wp_iconst (show (lcode 131)[39]? = some (.iconst 1) by decide +kernel)
theorem x131_40 : WP d 131 40 [l0, l1, l2] st h Q ↔ WP d 131 42 [l0, l1, l2] st h Q := wp_goto (show (lcode 131)[40]? = some (.goto 42) by decide +kernel)
theorem x131_41 : WP d 131 41 [l0, l1, l2] st h Q ↔ WP d 131 42 [l0, l1, l2] (vI 0 :: st) h Q := wp_iconst (show (lcode 131)[41]? = some (.iconst 0) by decide +kernel)
theorem x131_42 : WP d 131 42 [l0, l1, l2] (vI x :: st) h Q ↔ (nl l0 ∧ WP d 131 43 [l0, some (vI x), l2] st h Q) := wp_istore (show (lcode 131)[42]? = some (.istore 1) by decide +kernel) (Nat.le_of_ble_eq_true rfl)
theorem x131_43 : WP d 131 43 [l0, l1, l2] st h Q ↔ WP d 131 28 [l0, l1, l2] st h Q := wp_goto (show (lcode 131)[43]? = some (.goto 28) by decide +kernel)
theorem x131_44 : WP d 131 44 [l0, l1, l2] [] h Q ↔ Q none h := wp_return (show (lcode 131)[44]? = some (.return_) by decide +kernel)
-- 132: WakeOrderModel.stuckSet
theorem x132_0 : WP d 132 0 [l0, l1, l2] st h Q ↔ WP d 132 1 [l0, l1, l2] (vI 0 :: st) h Q := wp_iconst (show (lcode 132)[0]? = some (.iconst 0) by decide +kernel)
theorem x132_1 : WP d 132 1 [l0, l1, l2] (vI x :: st) h Q ↔ (nl l0 ∧ WP d 132 2 [l0, some (vI x), l2] st h Q) := wp_istore (show (lcode 132)[1]? = some (.istore 1) by decide +kernel) (Nat.le_of_ble_eq_true rfl)
theorem x132_2 : WP d 132 2 [l0, l1, l2] st h Q ↔ WP d 132 3 [l0, l1, l2] (vI 0 :: st) h Q := wp_iconst (show (lcode 132)[2]? = some (.iconst 0) by decide +kernel)
theorem x132_3 : WP d 132 3 [l0, l1, l2] (vI x :: st) h Q ↔ (nl l1 ∧ WP d 132 4 [l0, l1, some (vI x)] st h Q) := wp_istore (show (lcode 132)[3]? = some (.istore 2) by decide +kernel) (Nat.le_of_ble_eq_true rfl)
theorem x132_4 : WP d 132 4 [l0, l1, l2] st h Q ↔ WPC d 132 5 [l0, l1, l2] st h Q := wp_nop (show (lcode 132)[4]? = some (.nop) by decide +kernel)
theorem x132_5 : WP d 132 5 [l0, l1, some (vI x)] st h Q ↔ WP d 132 6 [l0, l1, some (vI x)] (vI x :: st) h Q := wp_iload (show (lcode 132)[5]? = some (.iload 2) by decide +kernel) rfl
theorem x132_6 : WP d 132 6 [some (Value.ref a), l1, l2] st h Q ↔ WP d 132 7 [some (Value.ref a), l1, l2] (Value.ref a :: st) h Q := wp_aload (show (lcode 132)[6]? = some (.aload 0) by decide +kernel) rfl
theorem x132_7 : WP d 132 7 [l0, l1, l2] (.ref a :: st) h Q ↔ gF (hRd h a) 11 6 (fun v => WP d 132 8 [l0, l1, l2] (v :: st) h Q) := wp_getfield (show (lcode 132)[7]? = some (.getfield 710) by decide +kernel)
theorem x132_8 : WP d 132 8 [l0, l1, l2] st h Q ↔ WP d 132 9 [l0, l1, l2] (vI 6 :: st) h Q := wp_iconst (show (lcode 132)[8]? = some (.iconst 6) by decide +kernel)
theorem x132_9 : WP d 132 9 [l0, l1, l2] (vI x :: .ref a :: st) h Q ↔ ldA (hRd h a) x (fun v => WP d 132 10 [l0, l1, l2] (v :: st) h Q) := wp_iaload (show (lcode 132)[9]? = some (.iaload) by decide +kernel)
theorem x132_10 : WP d 132 10 [l0, l1, l2] (vI y :: vI x :: st) h Q ↔ ((wr y ≤ wr x → WP d 132 33 [l0, l1, l2] st h Q) ∧ (¬ (wr y ≤ wr x) → WP d 132 11 [l0, l1, l2] st h Q)) := wp_icmp_ge (show (lcode 132)[10]? = some (.if_icmp .ge 33) by decide +kernel)
theorem x132_11 : WP d 132 11 [l0, some (vI x), l2] st h Q ↔ WP d 132 12 [l0, some (vI x), l2] (vI x :: st) h Q := wp_iload (show (lcode 132)[11]? = some (.iload 1) by decide +kernel) rfl
theorem x132_12 : WP d 132 12 [some (Value.ref a), l1, l2] st h Q ↔ WP d 132 13 [some (Value.ref a), l1, l2] (Value.ref a :: st) h Q := wp_aload (show (lcode 132)[12]? = some (.aload 0) by decide +kernel) rfl
theorem x132_13 : WP d 132 13 [l0, l1, l2] (.ref a :: st) h Q ↔ gF (hRd h a) 11 22 (fun v => WP d 132 14 [l0, l1, l2] (v :: st) h Q) := wp_getfield (show (lcode 132)[13]? = some (.getfield 726) by decide +kernel)
theorem x132_14 : WP d 132 14 [some (Value.ref a), l1, l2] st h Q ↔ WP d 132 15 [some (Value.ref a), l1, l2] (Value.ref a :: st) h Q := wp_aload (show (lcode 132)[14]? = some (.aload 0) by decide +kernel) rfl
theorem x132_15 : WP d 132 15 [l0, l1, l2] (.ref a :: st) h Q ↔ gF (hRd h a) 11 6 (fun v => WP d 132 16 [l0, l1, l2] (v :: st) h Q) := wp_getfield (show (lcode 132)[15]? = some (.getfield 710) by decide +kernel)
theorem x132_16 : WP d 132 16 [l0, l1, some (vI x)] st h Q ↔ WP d 132 17 [l0, l1, some (vI x)] (vI x :: st) h Q := wp_iload (show (lcode 132)[16]? = some (.iload 2) by decide +kernel) rfl
theorem x132_17 : WP d 132 17 [l0, l1, l2] (vI x :: .ref a :: st) h Q ↔ ldA (hRd h a) x (fun v => WP d 132 18 [l0, l1, l2] (v :: st) h Q) := wp_iaload (show (lcode 132)[17]? = some (.iaload) by decide +kernel)
theorem x132_18 : WP d 132 18 [l0, l1, l2] (vI x :: .ref a :: st) h Q ↔ ldA (hRd h a) x (fun v => WP d 132 19 [l0, l1, l2] (v :: st) h Q) := wp_iaload (show (lcode 132)[18]? = some (.iaload) by decide +kernel)
theorem x132_19 : WP d 132 19 [l0, l1, l2] st h Q ↔ WP d 132 20 [l0, l1, l2] (vI 1000000 :: st) h Q := wp_iconst (show (lcode 132)[19]? = some (.iconst 1000000) by decide +kernel)
theorem x132_20 : WP d 132 20 [l0, l1, l2] (vI y :: vI x :: st) h Q ↔ ((¬ wr x = wr y → WP d 132 28 [l0, l1, l2] st h Q) ∧ (¬ (¬ wr x = wr y) → WP d 132 21 [l0, l1, l2] st h Q)) := wp_icmp_ne (show (lcode 132)[20]? = some (.if_icmp .ne 28) by decide +kernel)
theorem x132_21 : WP d 132 21 [l0, l1, l2] st h Q ↔ WP d 132 22 [l0, l1, l2] (vI 1 :: st) h Q := wp_iconst (show (lcode 132)[21]? = some (.iconst 1) by decide +kernel)
theorem x132_22 : WP d 132 22 [some (Value.ref a), l1, l2] st h Q ↔ WP d 132 23 [some (Value.ref a), l1, l2] (Value.ref a :: st) h Q := wp_aload (show (lcode 132)[22]? = some (.aload 0) by decide +kernel) rfl
theorem x132_23 : WP d 132 23 [l0, l1, l2] (.ref a :: st) h Q ↔ gF (hRd h a) 11 6 (fun v => WP d 132 24 [l0, l1, l2] (v :: st) h Q) := wp_getfield (show (lcode 132)[23]? = some (.getfield 710) by decide +kernel)
theorem x132_24 : WP d 132 24 [l0, l1, some (vI x)] st h Q ↔ WP d 132 25 [l0, l1, some (vI x)] (vI x :: st) h Q := wp_iload (show (lcode 132)[24]? = some (.iload 2) by decide +kernel) rfl
theorem x132_25 : WP d 132 25 [l0, l1, l2] (vI x :: .ref a :: st) h Q ↔ ldA (hRd h a) x (fun v => WP d 132 26 [l0, l1, l2] (v :: st) h Q) := wp_iaload (show (lcode 132)[25]? = some (.iaload) by decide +kernel)
theorem x132_26 : WP d 132 26 [l0, l1, l2] (vI y :: vI x :: st) h Q ↔ WP d 132 27 [l0, l1, l2] (vI (zshl x y) :: st) h Q := wp_ishl (show (lcode 132)[26]? = some (.ishl) by decide +kernel)
theorem x132_27 : WP d 132 27 [l0, l1, l2] st h Q ↔ WP d 132 29 [l0, l1, l2] st h Q := wp_goto (show (lcode 132)[27]? = some (.goto 29) by decide +kernel)
theorem x132_28 : WP d 132 28 [l0, l1, l2] st h Q ↔ WP d 132 29 [l0, l1, l2] (vI 0 :: st) h Q := wp_iconst (show (lcode 132)[28]? = some (.iconst 0) by decide +kernel)
theorem x132_29 : WP d 132 29 [l0, l1, l2] (vI y :: vI x :: st) h Q ↔ WP d 132 30 [l0, l1, l2] (vI (zor x y) :: st) h Q := wp_ior (show (lcode 132)[29]? = some (.ior) by decide +kernel)
theorem x132_30 : WP d 132 30 [l0, l1, l2] (vI x :: st) h Q ↔ (nl l0 ∧ WP d 132 31 [l0, some (vI x), l2] st h Q) := wp_istore (show (lcode 132)[30]? = some (.istore 1) by decide +kernel) (Nat.le_of_ble_eq_true rfl)
theorem x132_31 : WP d 132 31 [l0, l1, some (vI x)] st h Q ↔ (nl l1 ∧ WP d 132 32 [l0, l1, some (vI (x + 1))] st h Q) := wp_iinc (show (lcode 132)[31]? = some (.iinc 2 1) by decide +kernel) rfl (Nat.le_of_ble_eq_true rfl)
theorem x132_32 : WP d 132 32 [l0, l1, l2] st h Q ↔ WP d 132 4 [l0, l1, l2] st h Q := wp_goto (show (lcode 132)[32]? = some (.goto 4) by decide +kernel)
theorem x132_33 : WP d 132 33 [l0, some (vI x), l2] st h Q ↔ WP d 132 34 [l0, some (vI x), l2] (vI x :: st) h Q := wp_iload (show (lcode 132)[33]? = some (.iload 1) by decide +kernel) rfl
theorem x132_34 : WP d 132 34 [l0, l1, l2] [vI x] h Q ↔ Q (some (vI x)) h := wp_ireturn (show (lcode 132)[34]? = some (.ireturn) by decide +kernel)
-- 133: WakeOrderModel.undoneSet
theorem x133_0 : WP d 133 0 [l0, l1, l2] st h Q ↔ WP d 133 1 [l0, l1, l2] (vI 0 :: st) h Q := wp_iconst (show (lcode 133)[0]? = some (.iconst 0) by decide +kernel)
theorem x133_1 : WP d 133 1 [l0, l1, l2] (vI x :: st) h Q ↔ (nl l0 ∧ WP d 133 2 [l0, some (vI x), l2] st h Q) := wp_istore (show (lcode 133)[1]? = some (.istore 1) by decide +kernel) (Nat.le_of_ble_eq_true rfl)
theorem x133_2 : WP d 133 2 [l0, l1, l2] st h Q ↔ WP d 133 3 [l0, l1, l2] (vI 0 :: st) h Q := wp_iconst (show (lcode 133)[2]? = some (.iconst 0) by decide +kernel)
theorem x133_3 : WP d 133 3 [l0, l1, l2] (vI x :: st) h Q ↔ (nl l1 ∧ WP d 133 4 [l0, l1, some (vI x)] st h Q) := wp_istore (show (lcode 133)[3]? = some (.istore 2) by decide +kernel) (Nat.le_of_ble_eq_true rfl)
theorem x133_4 : WP d 133 4 [l0, l1, l2] st h Q ↔ WPC d 133 5 [l0, l1, l2] st h Q := wp_nop (show (lcode 133)[4]? = some (.nop) by decide +kernel)
theorem x133_5 : WP d 133 5 [l0, l1, some (vI x)] st h Q ↔ WP d 133 6 [l0, l1, some (vI x)] (vI x :: st) h Q := wp_iload (show (lcode 133)[5]? = some (.iload 2) by decide +kernel) rfl
theorem x133_6 : WP d 133 6 [some (Value.ref a), l1, l2] st h Q ↔ WP d 133 7 [some (Value.ref a), l1, l2] (Value.ref a :: st) h Q := wp_aload (show (lcode 133)[6]? = some (.aload 0) by decide +kernel) rfl
theorem x133_7 : WP d 133 7 [l0, l1, l2] (.ref a :: st) h Q ↔ gF (hRd h a) 11 2 (fun v => WP d 133 8 [l0, l1, l2] (v :: st) h Q) := wp_getfield (show (lcode 133)[7]? = some (.getfield 706) by decide +kernel)
theorem x133_8 : WP d 133 8 [l0, l1, l2] (vI y :: vI x :: st) h Q ↔ ((wr y ≤ wr x → WP d 133 25 [l0, l1, l2] st h Q) ∧ (¬ (wr y ≤ wr x) → WP d 133 9 [l0, l1, l2] st h Q)) := wp_icmp_ge (show (lcode 133)[8]? = some (.if_icmp .ge 25) by decide +kernel)
theorem x133_9 : WP d 133 9 [l0, some (vI x), l2] st h Q ↔ WP d 133 10 [l0, some (vI x), l2] (vI x :: st) h Q := wp_iload (show (lcode 133)[9]? = some (.iload 1) by decide +kernel) rfl
theorem x133_10 : WP d 133 10 [some (Value.ref a), l1, l2] st h Q ↔ WP d 133 11 [some (Value.ref a), l1, l2] (Value.ref a :: st) h Q := wp_aload (show (lcode 133)[10]? = some (.aload 0) by decide +kernel) rfl
theorem x133_11 : WP d 133 11 [l0, l1, l2] (.ref a :: st) h Q ↔ gF (hRd h a) 11 23 (fun v => WP d 133 12 [l0, l1, l2] (v :: st) h Q) := wp_getfield (show (lcode 133)[11]? = some (.getfield 727) by decide +kernel)
theorem x133_12 : WP d 133 12 [l0, l1, some (vI x)] st h Q ↔ WP d 133 13 [l0, l1, some (vI x)] (vI x :: st) h Q := wp_iload (show (lcode 133)[12]? = some (.iload 2) by decide +kernel) rfl
theorem x133_13 : WP d 133 13 [l0, l1, l2] (vI x :: .ref a :: st) h Q ↔ ldA (hRd h a) x (fun v => WP d 133 14 [l0, l1, l2] (v :: st) h Q) := wp_iaload (show (lcode 133)[13]? = some (.iaload) by decide +kernel)
theorem x133_14 : WP d 133 14 [l0, l1, l2] st h Q ↔ WP d 133 15 [l0, l1, l2] (vI 1000000 :: st) h Q := wp_iconst (show (lcode 133)[14]? = some (.iconst 1000000) by decide +kernel)
theorem x133_15 : WP d 133 15 [l0, l1, l2] (vI y :: vI x :: st) h Q ↔ ((¬ wr x = wr y → WP d 133 20 [l0, l1, l2] st h Q) ∧ (¬ (¬ wr x = wr y) → WP d 133 16 [l0, l1, l2] st h Q)) := wp_icmp_ne (show (lcode 133)[15]? = some (.if_icmp .ne 20) by decide +kernel)
theorem x133_16 : WP d 133 16 [l0, l1, l2] st h Q ↔ WP d 133 17 [l0, l1, l2] (vI 1 :: st) h Q := wp_iconst (show (lcode 133)[16]? = some (.iconst 1) by decide +kernel)
theorem x133_17 : WP d 133 17 [l0, l1, some (vI x)] st h Q ↔ WP d 133 18 [l0, l1, some (vI x)] (vI x :: st) h Q := wp_iload (show (lcode 133)[17]? = some (.iload 2) by decide +kernel) rfl
theorem x133_18 : WP d 133 18 [l0, l1, l2] (vI y :: vI x :: st) h Q ↔ WP d 133 19 [l0, l1, l2] (vI (zshl x y) :: st) h Q := wp_ishl (show (lcode 133)[18]? = some (.ishl) by decide +kernel)
theorem x133_19 : WP d 133 19 [l0, l1, l2] st h Q ↔ WP d 133 21 [l0, l1, l2] st h Q := wp_goto (show (lcode 133)[19]? = some (.goto 21) by decide +kernel)
theorem x133_20 : WP d 133 20 [l0, l1, l2] st h Q ↔ WP d 133 21 [l0, l1, l2] (vI 0 :: st) h Q := wp_iconst (show (lcode 133)[20]? = some (.iconst 0) by decide +kernel)
theorem x133_21 : WP d 133 21 [l0, l1, l2] (vI y :: vI x :: st) h Q ↔ WP d 133 22 [l0, l1, l2] (vI (zor x y) :: st) h Q := wp_ior (show (lcode 133)[21]? = some (.ior) by decide +kernel)
theorem x133_22 : WP d 133 22 [l0, l1, l2] (vI x :: st) h Q ↔ (nl l0 ∧ WP d 133 23 [l0, some (vI x), l2] st h Q) := wp_istore (show (lcode 133)[22]? = some (.istore 1) by decide +kernel) (Nat.le_of_ble_eq_true rfl)
theorem x133_23 : WP d 133 23 [l0, l1, some (vI x)] st h Q ↔ (nl l1 ∧ WP d 133 24 [l0, l1, some (vI (x + 1))] st h Q) := wp_iinc (show (lcode 133)[23]? = some (.iinc 2 1) by decide +kernel) rfl (Nat.le_of_ble_eq_true rfl)
theorem x133_24 : WP d 133 24 [l0, l1, l2] st h Q ↔ WP d 133 4 [l0, l1, l2] st h Q := wp_goto (show (lcode 133)[24]? = some (.goto 4) by decide +kernel)
theorem x133_25 : WP d 133 25 [l0, some (vI x), l2] st h Q ↔ WP d 133 26 [l0, some (vI x), l2] (vI x :: st) h Q := wp_iload (show (lcode 133)[25]? = some (.iload 1) by decide +kernel) rfl
theorem x133_26 : WP d 133 26 [l0, l1, l2] [vI x] h Q ↔ Q (some (vI x)) h := wp_ireturn (show (lcode 133)[26]? = some (.ireturn) by decide +kernel)
-- 134: WakeOrderModel.told
theorem x134_0 : WP d 134 0 [some (Value.ref a), l1] st h Q ↔ WP d 134 1 [some (Value.ref a), l1] (Value.ref a :: st) h Q := wp_aload (show (lcode 134)[0]? = some (.aload 0) by decide +kernel) rfl
theorem x134_1 : WP d 134 1 [l0, l1] (v :: st) h Q ↔ (sh st ∧ CALL d 131 [v] h (fun v h => WP d 134 2 [l0, l1] (v.toList ++ st) h Q)) := wp_call (n := 1) (show (lcode 134)[1]? = some (.invokestatic 131) by decide +kernel) (by decide +kernel) (by simp)
theorem x134_2 : WP d 134 2 [l0, some (vI x)] st h Q ↔ WP d 134 3 [l0, some (vI x)] (vI x :: st) h Q := wp_iload (show (lcode 134)[2]? = some (.iload 1) by decide +kernel) rfl
theorem x134_3 (c0 : wr x = 0 → WP d 134 4 [l0, l1] st h Q) (c1 : wr x = 1 → WP d 134 7 [l0, l1] st h Q) (c2 : wr x = 2 → WP d 134 10 [l0, l1] st h Q) (c3 : wr x = 3 → WP d 134 13 [l0, l1] st h Q) (c4 : wr x = 4 → WP d 134 16 [l0, l1] st h Q) (c5 : wr x = 5 → WP d 134 21 [l0, l1] st h Q) (c6 : wr x = 6 → WP d 134 26 [l0, l1] st h Q) (c7 : wr x = 7 → WP d 134 31 [l0, l1] st h Q) (c8 : wr x = 8 → WP d 134 34 [l0, l1] st h Q) (c9 : wr x = 9 → WP d 134 37 [l0, l1] st h Q) (c10 : wr x = 10 → WP d 134 40 [l0, l1] st h Q) (c11 : wr x = 11 → WP d 134 43 [l0, l1] st h Q) (cd : wr x < 0 ∨ 11 < wr x → WP d 134 46 [l0, l1] st h Q) : WP d 134 3 [l0, l1] (vI x :: st) h Q := by
  refine wp_tsw (show (lcode 134)[3]? = some (.tableswitch 46 0 11 #[4, 7, 10, 13, 16, 21, 26, 31, 34, 37, 40, 43]) by decide +kernel) (by decide) (fun j t hj hx => ?_) cd
  match j, hj with
  | 0, hj => cases hj; exact c0 (by omega)
  | 1, hj => cases hj; exact c1 (by omega)
  | 2, hj => cases hj; exact c2 (by omega)
  | 3, hj => cases hj; exact c3 (by omega)
  | 4, hj => cases hj; exact c4 (by omega)
  | 5, hj => cases hj; exact c5 (by omega)
  | 6, hj => cases hj; exact c6 (by omega)
  | 7, hj => cases hj; exact c7 (by omega)
  | 8, hj => cases hj; exact c8 (by omega)
  | 9, hj => cases hj; exact c9 (by omega)
  | 10, hj => cases hj; exact c10 (by omega)
  | 11, hj => cases hj; exact c11 (by omega)
  | n + 12, hj => simp at hj
theorem x134_4 : WP d 134 4 [some (Value.ref a), l1] st h Q ↔ WP d 134 5 [some (Value.ref a), l1] (Value.ref a :: st) h Q := wp_aload (show (lcode 134)[4]? = some (.aload 0) by decide +kernel) rfl
theorem x134_5 : WP d 134 5 [l0, l1] (.ref a :: st) h Q ↔ gF (hRd h a) 11 0 (fun v => WP d 134 6 [l0, l1] (v :: st) h Q) := wp_getfield (show (lcode 134)[5]? = some (.getfield 704) by decide +kernel)
theorem x134_6 : WP d 134 6 [l0, l1] [vI x] h Q ↔ Q (some (vI x)) h := wp_ireturn (show (lcode 134)[6]? = some (.ireturn) by decide +kernel)
theorem x134_7 : WP d 134 7 [some (Value.ref a), l1] st h Q ↔ WP d 134 8 [some (Value.ref a), l1] (Value.ref a :: st) h Q := wp_aload (show (lcode 134)[7]? = some (.aload 0) by decide +kernel) rfl
theorem x134_8 : WP d 134 8 [l0, l1] (.ref a :: st) h Q ↔ gF (hRd h a) 11 1 (fun v => WP d 134 9 [l0, l1] (v :: st) h Q) := wp_getfield (show (lcode 134)[8]? = some (.getfield 705) by decide +kernel)
theorem x134_9 : WP d 134 9 [l0, l1] [vI x] h Q ↔ Q (some (vI x)) h := wp_ireturn (show (lcode 134)[9]? = some (.ireturn) by decide +kernel)
theorem x134_10 : WP d 134 10 [some (Value.ref a), l1] st h Q ↔ WP d 134 11 [some (Value.ref a), l1] (Value.ref a :: st) h Q := wp_aload (show (lcode 134)[10]? = some (.aload 0) by decide +kernel) rfl
theorem x134_11 : WP d 134 11 [l0, l1] (.ref a :: st) h Q ↔ gF (hRd h a) 11 2 (fun v => WP d 134 12 [l0, l1] (v :: st) h Q) := wp_getfield (show (lcode 134)[11]? = some (.getfield 706) by decide +kernel)
theorem x134_12 : WP d 134 12 [l0, l1] [vI x] h Q ↔ Q (some (vI x)) h := wp_ireturn (show (lcode 134)[12]? = some (.ireturn) by decide +kernel)
theorem x134_13 : WP d 134 13 [some (Value.ref a), l1] st h Q ↔ WP d 134 14 [some (Value.ref a), l1] (Value.ref a :: st) h Q := wp_aload (show (lcode 134)[13]? = some (.aload 0) by decide +kernel) rfl
theorem x134_14 : WP d 134 14 [l0, l1] (.ref a :: st) h Q ↔ gF (hRd h a) 11 9 (fun v => WP d 134 15 [l0, l1] (v :: st) h Q) := wp_getfield (show (lcode 134)[14]? = some (.getfield 713) by decide +kernel)
theorem x134_15 : WP d 134 15 [l0, l1] [vI x] h Q ↔ Q (some (vI x)) h := wp_ireturn (show (lcode 134)[15]? = some (.ireturn) by decide +kernel)
theorem x134_16 : WP d 134 16 [some (Value.ref a), l1] st h Q ↔ WP d 134 17 [some (Value.ref a), l1] (Value.ref a :: st) h Q := wp_aload (show (lcode 134)[16]? = some (.aload 0) by decide +kernel) rfl
theorem x134_17 : WP d 134 17 [l0, l1] (.ref a :: st) h Q ↔ gF (hRd h a) 11 6 (fun v => WP d 134 18 [l0, l1] (v :: st) h Q) := wp_getfield (show (lcode 134)[17]? = some (.getfield 710) by decide +kernel)
theorem x134_18 : WP d 134 18 [l0, l1] st h Q ↔ WP d 134 19 [l0, l1] (vI 23 :: st) h Q := wp_iconst (show (lcode 134)[18]? = some (.iconst 23) by decide +kernel)
theorem x134_19 : WP d 134 19 [l0, l1] (vI x :: .ref a :: st) h Q ↔ ldA (hRd h a) x (fun v => WP d 134 20 [l0, l1] (v :: st) h Q) := wp_iaload (show (lcode 134)[19]? = some (.iaload) by decide +kernel)
theorem x134_20 : WP d 134 20 [l0, l1] [vI x] h Q ↔ Q (some (vI x)) h := wp_ireturn (show (lcode 134)[20]? = some (.ireturn) by decide +kernel)
theorem x134_21 : WP d 134 21 [some (Value.ref a), l1] st h Q ↔ WP d 134 22 [some (Value.ref a), l1] (Value.ref a :: st) h Q := wp_aload (show (lcode 134)[21]? = some (.aload 0) by decide +kernel) rfl
theorem x134_22 : WP d 134 22 [l0, l1] (.ref a :: st) h Q ↔ gF (hRd h a) 11 6 (fun v => WP d 134 23 [l0, l1] (v :: st) h Q) := wp_getfield (show (lcode 134)[22]? = some (.getfield 710) by decide +kernel)
theorem x134_23 : WP d 134 23 [l0, l1] st h Q ↔ WP d 134 24 [l0, l1] (vI 8 :: st) h Q := wp_iconst (show (lcode 134)[23]? = some (.iconst 8) by decide +kernel)
theorem x134_24 : WP d 134 24 [l0, l1] (vI x :: .ref a :: st) h Q ↔ ldA (hRd h a) x (fun v => WP d 134 25 [l0, l1] (v :: st) h Q) := wp_iaload (show (lcode 134)[24]? = some (.iaload) by decide +kernel)
theorem x134_25 : WP d 134 25 [l0, l1] [vI x] h Q ↔ Q (some (vI x)) h := wp_ireturn (show (lcode 134)[25]? = some (.ireturn) by decide +kernel)
theorem x134_26 : WP d 134 26 [some (Value.ref a), l1] st h Q ↔ WP d 134 27 [some (Value.ref a), l1] (Value.ref a :: st) h Q := wp_aload (show (lcode 134)[26]? = some (.aload 0) by decide +kernel) rfl
theorem x134_27 : WP d 134 27 [l0, l1] (.ref a :: st) h Q ↔ gF (hRd h a) 11 6 (fun v => WP d 134 28 [l0, l1] (v :: st) h Q) := wp_getfield (show (lcode 134)[27]? = some (.getfield 710) by decide +kernel)
theorem x134_28 : WP d 134 28 [l0, l1] st h Q ↔ WP d 134 29 [l0, l1] (vI 7 :: st) h Q := wp_iconst (show (lcode 134)[28]? = some (.iconst 7) by decide +kernel)
theorem x134_29 : WP d 134 29 [l0, l1] (vI x :: .ref a :: st) h Q ↔ ldA (hRd h a) x (fun v => WP d 134 30 [l0, l1] (v :: st) h Q) := wp_iaload (show (lcode 134)[29]? = some (.iaload) by decide +kernel)
theorem x134_30 : WP d 134 30 [l0, l1] [vI x] h Q ↔ Q (some (vI x)) h := wp_ireturn (show (lcode 134)[30]? = some (.ireturn) by decide +kernel)
theorem x134_31 : WP d 134 31 [some (Value.ref a), l1] st h Q ↔ WP d 134 32 [some (Value.ref a), l1] (Value.ref a :: st) h Q := wp_aload (show (lcode 134)[31]? = some (.aload 0) by decide +kernel) rfl
theorem x134_32 : WP d 134 32 [l0, l1] (v :: st) h Q ↔ (sh st ∧ CALL d 132 [v] h (fun v h => WP d 134 33 [l0, l1] (v.toList ++ st) h Q)) := wp_call (n := 1) (show (lcode 134)[32]? = some (.invokestatic 132) by decide +kernel) (by decide +kernel) (by simp)
theorem x134_33 : WP d 134 33 [l0, l1] [vI x] h Q ↔ Q (some (vI x)) h := wp_ireturn (show (lcode 134)[33]? = some (.ireturn) by decide +kernel)
theorem x134_34 : WP d 134 34 [some (Value.ref a), l1] st h Q ↔ WP d 134 35 [some (Value.ref a), l1] (Value.ref a :: st) h Q := wp_aload (show (lcode 134)[34]? = some (.aload 0) by decide +kernel) rfl
theorem x134_35 : WP d 134 35 [l0, l1] (v :: st) h Q ↔ (sh st ∧ CALL d 133 [v] h (fun v h => WP d 134 36 [l0, l1] (v.toList ++ st) h Q)) := wp_call (n := 1) (show (lcode 134)[35]? = some (.invokestatic 133) by decide +kernel) (by decide +kernel) (by simp)
theorem x134_36 : WP d 134 36 [l0, l1] [vI x] h Q ↔ Q (some (vI x)) h := wp_ireturn (show (lcode 134)[36]? = some (.ireturn) by decide +kernel)
theorem x134_37 : WP d 134 37 [some (Value.ref a), l1] st h Q ↔ WP d 134 38 [some (Value.ref a), l1] (Value.ref a :: st) h Q := wp_aload (show (lcode 134)[37]? = some (.aload 0) by decide +kernel) rfl
theorem x134_38 : WP d 134 38 [l0, l1] (.ref a :: st) h Q ↔ gF (hRd h a) 11 29 (fun v => WP d 134 39 [l0, l1] (v :: st) h Q) := wp_getfield (show (lcode 134)[38]? = some (.getfield 733) by decide +kernel)
theorem x134_39 : WP d 134 39 [l0, l1] [vI x] h Q ↔ Q (some (vI x)) h := wp_ireturn (show (lcode 134)[39]? = some (.ireturn) by decide +kernel)
theorem x134_40 : WP d 134 40 [some (Value.ref a), l1] st h Q ↔ WP d 134 41 [some (Value.ref a), l1] (Value.ref a :: st) h Q := wp_aload (show (lcode 134)[40]? = some (.aload 0) by decide +kernel) rfl
theorem x134_41 : WP d 134 41 [l0, l1] (.ref a :: st) h Q ↔ gF (hRd h a) 11 35 (fun v => WP d 134 42 [l0, l1] (v :: st) h Q) := wp_getfield (show (lcode 134)[41]? = some (.getfield 739) by decide +kernel)
theorem x134_42 : WP d 134 42 [l0, l1] [vI x] h Q ↔ Q (some (vI x)) h := wp_ireturn (show (lcode 134)[42]? = some (.ireturn) by decide +kernel)
theorem x134_43 : WP d 134 43 [some (Value.ref a), l1] st h Q ↔ WP d 134 44 [some (Value.ref a), l1] (Value.ref a :: st) h Q := wp_aload (show (lcode 134)[43]? = some (.aload 0) by decide +kernel) rfl
theorem x134_44 : WP d 134 44 [l0, l1] (.ref a :: st) h Q ↔ gF (hRd h a) 11 24 (fun v => WP d 134 45 [l0, l1] (v :: st) h Q) := wp_getfield (show (lcode 134)[44]? = some (.getfield 728) by decide +kernel)
theorem x134_45 : WP d 134 45 [l0, l1] [vI x] h Q ↔ Q (some (vI x)) h := wp_ireturn (show (lcode 134)[45]? = some (.ireturn) by decide +kernel)
theorem x134_46 : WP d 134 46 [l0, l1] st h Q ↔ WP d 134 47 [l0, l1] (vI (-1000000002) :: st) h Q := wp_iconst (show (lcode 134)[46]? = some (.iconst (-1000000002)) by decide +kernel)
theorem x134_47 : WP d 134 47 [l0, l1] [vI x] h Q ↔ Q (some (vI x)) h := wp_ireturn (show (lcode 134)[47]? = some (.ireturn) by decide +kernel)
-- 135: WakeOrderModel.placeOf
theorem x135_0 : WP d 135 0 [l0, l1, l2, l3] st h Q ↔ WP d 135 1 [l0, l1, l2, l3] (vI (-1) :: st) h Q := wp_iconst (show (lcode 135)[0]? = some (.iconst (-1)) by decide +kernel)
theorem x135_1 : WP d 135 1 [l0, l1, l2, l3] (vI x :: st) h Q ↔ (nl l1 ∧ WP d 135 2 [l0, l1, some (vI x), l3] st h Q) := wp_istore (show (lcode 135)[1]? = some (.istore 2) by decide +kernel) (Nat.le_of_ble_eq_true rfl)
theorem x135_2 : WP d 135 2 [l0, l1, l2, l3] st h Q ↔ WP d 135 3 [l0, l1, l2, l3] (vI 0 :: st) h Q := wp_iconst (show (lcode 135)[2]? = some (.iconst 0) by decide +kernel)
theorem x135_3 : WP d 135 3 [l0, l1, l2, l3] (vI x :: st) h Q ↔ (nl l2 ∧ WP d 135 4 [l0, l1, l2, some (vI x)] st h Q) := wp_istore (show (lcode 135)[3]? = some (.istore 3) by decide +kernel) (Nat.le_of_ble_eq_true rfl)
theorem x135_4 : WP d 135 4 [l0, l1, l2, l3] st h Q ↔ WPC d 135 5 [l0, l1, l2, l3] st h Q := wp_nop (show (lcode 135)[4]? = some (.nop) by decide +kernel)
theorem x135_5 : WP d 135 5 [l0, l1, l2, some (vI x)] st h Q ↔ WP d 135 6 [l0, l1, l2, some (vI x)] (vI x :: st) h Q := wp_iload (show (lcode 135)[5]? = some (.iload 3) by decide +kernel) rfl
theorem x135_6 : WP d 135 6 [some (Value.ref a), l1, l2, l3] st h Q ↔ WP d 135 7 [some (Value.ref a), l1, l2, l3] (Value.ref a :: st) h Q := wp_aload (show (lcode 135)[6]? = some (.aload 0) by decide +kernel) rfl
theorem x135_7 : WP d 135 7 [l0, l1, l2, l3] (.ref a :: st) h Q ↔ gF (hRd h a) 11 6 (fun v => WP d 135 8 [l0, l1, l2, l3] (v :: st) h Q) := wp_getfield (show (lcode 135)[7]? = some (.getfield 710) by decide +kernel)
theorem x135_8 : WP d 135 8 [l0, l1, l2, l3] st h Q ↔ WP d 135 9 [l0, l1, l2, l3] (vI 6 :: st) h Q := wp_iconst (show (lcode 135)[8]? = some (.iconst 6) by decide +kernel)
theorem x135_9 : WP d 135 9 [l0, l1, l2, l3] (vI x :: .ref a :: st) h Q ↔ ldA (hRd h a) x (fun v => WP d 135 10 [l0, l1, l2, l3] (v :: st) h Q) := wp_iaload (show (lcode 135)[9]? = some (.iaload) by decide +kernel)
theorem x135_10 : WP d 135 10 [l0, l1, l2, l3] (vI y :: vI x :: st) h Q ↔ ((wr y ≤ wr x → WP d 135 23 [l0, l1, l2, l3] st h Q) ∧ (¬ (wr y ≤ wr x) → WP d 135 11 [l0, l1, l2, l3] st h Q)) := wp_icmp_ge (show (lcode 135)[10]? = some (.if_icmp .ge 23) by decide +kernel)
theorem x135_11 : WP d 135 11 [some (Value.ref a), l1, l2, l3] st h Q ↔ WP d 135 12 [some (Value.ref a), l1, l2, l3] (Value.ref a :: st) h Q := wp_aload (show (lcode 135)[11]? = some (.aload 0) by decide +kernel) rfl
theorem x135_12 : WP d 135 12 [l0, l1, l2, l3] (.ref a :: st) h Q ↔ gF (hRd h a) 11 6 (fun v => WP d 135 13 [l0, l1, l2, l3] (v :: st) h Q) := wp_getfield (show (lcode 135)[12]? = some (.getfield 710) by decide +kernel)
theorem x135_13 : WP d 135 13 [l0, l1, l2, some (vI x)] st h Q ↔ WP d 135 14 [l0, l1, l2, some (vI x)] (vI x :: st) h Q := wp_iload (show (lcode 135)[13]? = some (.iload 3) by decide +kernel) rfl
theorem x135_14 : WP d 135 14 [l0, l1, l2, l3] (vI x :: .ref a :: st) h Q ↔ ldA (hRd h a) x (fun v => WP d 135 15 [l0, l1, l2, l3] (v :: st) h Q) := wp_iaload (show (lcode 135)[14]? = some (.iaload) by decide +kernel)
theorem x135_15 : WP d 135 15 [l0, some (vI x), l2, l3] st h Q ↔ WP d 135 16 [l0, some (vI x), l2, l3] (vI x :: st) h Q := wp_iload (show (lcode 135)[15]? = some (.iload 1) by decide +kernel) rfl
theorem x135_16 : WP d 135 16 [l0, l1, l2, l3] (vI y :: vI x :: st) h Q ↔ ((¬ wr x = wr y → WP d 135 19 [l0, l1, l2, l3] st h Q) ∧ (¬ (¬ wr x = wr y) → WP d 135 17 [l0, l1, l2, l3] st h Q)) := wp_icmp_ne (show (lcode 135)[16]? = some (.if_icmp .ne 19) by decide +kernel)
theorem x135_17 : WP d 135 17 [l0, l1, l2, some (vI x)] st h Q ↔ WP d 135 18 [l0, l1, l2, some (vI x)] (vI x :: st) h Q := wp_iload (show (lcode 135)[17]? = some (.iload 3) by decide +kernel) rfl
theorem x135_18 : WP d 135 18 [l0, l1, l2, l3] st h Q ↔ WP d 135 20 [l0, l1, l2, l3] st h Q := wp_goto (show (lcode 135)[18]? = some (.goto 20) by decide +kernel)
theorem x135_19 : WP d 135 19 [l0, l1, some (vI x), l3] st h Q ↔ WP d 135 20 [l0, l1, some (vI x), l3] (vI x :: st) h Q := wp_iload (show (lcode 135)[19]? = some (.iload 2) by decide +kernel) rfl
theorem x135_20 : WP d 135 20 [l0, l1, l2, l3] (vI x :: st) h Q ↔ (nl l1 ∧ WP d 135 21 [l0, l1, some (vI x), l3] st h Q) := wp_istore (show (lcode 135)[20]? = some (.istore 2) by decide +kernel) (Nat.le_of_ble_eq_true rfl)
theorem x135_21 : WP d 135 21 [l0, l1, l2, some (vI x)] st h Q ↔ (nl l2 ∧ WP d 135 22 [l0, l1, l2, some (vI (x + 1))] st h Q) := wp_iinc (show (lcode 135)[21]? = some (.iinc 3 1) by decide +kernel) rfl (Nat.le_of_ble_eq_true rfl)
theorem x135_22 : WP d 135 22 [l0, l1, l2, l3] st h Q ↔ WP d 135 4 [l0, l1, l2, l3] st h Q := wp_goto (show (lcode 135)[22]? = some (.goto 4) by decide +kernel)
theorem x135_23 : WP d 135 23 [l0, l1, some (vI x), l3] st h Q ↔ WP d 135 24 [l0, l1, some (vI x), l3] (vI x :: st) h Q := wp_iload (show (lcode 135)[23]? = some (.iload 2) by decide +kernel) rfl
theorem x135_24 : WP d 135 24 [l0, l1, l2, l3] [vI x] h Q ↔ Q (some (vI x)) h := wp_ireturn (show (lcode 135)[24]? = some (.ireturn) by decide +kernel)
-- 136: WakeOrderModel.manyOf
theorem x136_0 : WP d 136 0 [l0, l1, l2, l3] st h Q ↔ WP d 136 1 [l0, l1, l2, l3] (vI 0 :: st) h Q := wp_iconst (show (lcode 136)[0]? = some (.iconst 0) by decide +kernel)
theorem x136_1 : WP d 136 1 [l0, l1, l2, l3] (vI x :: st) h Q ↔ (nl l1 ∧ WP d 136 2 [l0, l1, some (vI x), l3] st h Q) := wp_istore (show (lcode 136)[1]? = some (.istore 2) by decide +kernel) (Nat.le_of_ble_eq_true rfl)
theorem x136_2 : WP d 136 2 [l0, l1, l2, l3] st h Q ↔ WP d 136 3 [l0, l1, l2, l3] (vI 0 :: st) h Q := wp_iconst (show (lcode 136)[2]? = some (.iconst 0) by decide +kernel)
theorem x136_3 : WP d 136 3 [l0, l1, l2, l3] (vI x :: st) h Q ↔ (nl l2 ∧ WP d 136 4 [l0, l1, l2, some (vI x)] st h Q) := wp_istore (show (lcode 136)[3]? = some (.istore 3) by decide +kernel) (Nat.le_of_ble_eq_true rfl)
theorem x136_4 : WP d 136 4 [l0, l1, l2, l3] st h Q ↔ WPC d 136 5 [l0, l1, l2, l3] st h Q := wp_nop (show (lcode 136)[4]? = some (.nop) by decide +kernel)
theorem x136_5 : WP d 136 5 [l0, l1, l2, some (vI x)] st h Q ↔ WP d 136 6 [l0, l1, l2, some (vI x)] (vI x :: st) h Q := wp_iload (show (lcode 136)[5]? = some (.iload 3) by decide +kernel) rfl
theorem x136_6 : WP d 136 6 [some (Value.ref a), l1, l2, l3] st h Q ↔ WP d 136 7 [some (Value.ref a), l1, l2, l3] (Value.ref a :: st) h Q := wp_aload (show (lcode 136)[6]? = some (.aload 0) by decide +kernel) rfl
theorem x136_7 : WP d 136 7 [l0, l1, l2, l3] (.ref a :: st) h Q ↔ gF (hRd h a) 11 2 (fun v => WP d 136 8 [l0, l1, l2, l3] (v :: st) h Q) := wp_getfield (show (lcode 136)[7]? = some (.getfield 706) by decide +kernel)
theorem x136_8 : WP d 136 8 [l0, l1, l2, l3] (vI y :: vI x :: st) h Q ↔ ((wr y ≤ wr x → WP d 136 25 [l0, l1, l2, l3] st h Q) ∧ (¬ (wr y ≤ wr x) → WP d 136 9 [l0, l1, l2, l3] st h Q)) := wp_icmp_ge (show (lcode 136)[8]? = some (.if_icmp .ge 25) by decide +kernel)
theorem x136_9 : WP d 136 9 [l0, l1, some (vI x), l3] st h Q ↔ WP d 136 10 [l0, l1, some (vI x), l3] (vI x :: st) h Q := wp_iload (show (lcode 136)[9]? = some (.iload 2) by decide +kernel) rfl
theorem x136_10 : WP d 136 10 [some (Value.ref a), l1, l2, l3] st h Q ↔ WP d 136 11 [some (Value.ref a), l1, l2, l3] (Value.ref a :: st) h Q := wp_aload (show (lcode 136)[10]? = some (.aload 0) by decide +kernel) rfl
theorem x136_11 : WP d 136 11 [l0, l1, l2, l3] (.ref a :: st) h Q ↔ gF (hRd h a) 11 6 (fun v => WP d 136 12 [l0, l1, l2, l3] (v :: st) h Q) := wp_getfield (show (lcode 136)[11]? = some (.getfield 710) by decide +kernel)
theorem x136_12 : WP d 136 12 [l0, l1, l2, l3] st h Q ↔ WP d 136 13 [l0, l1, l2, l3] (vI 9 :: st) h Q := wp_iconst (show (lcode 136)[12]? = some (.iconst 9) by decide +kernel)
theorem x136_13 : WP d 136 13 [l0, l1, l2, some (vI x)] st h Q ↔ WP d 136 14 [l0, l1, l2, some (vI x)] (vI x :: st) h Q := wp_iload (show (lcode 136)[13]? = some (.iload 3) by decide +kernel) rfl
theorem x136_14 : WP d 136 14 [l0, l1, l2, l3] (vI y :: vI x :: st) h Q ↔ WP d 136 15 [l0, l1, l2, l3] (vI (x + y) :: st) h Q := wp_iadd (show (lcode 136)[14]? = some (.iadd) by decide +kernel)
theorem x136_15 : WP d 136 15 [l0, l1, l2, l3] (vI x :: .ref a :: st) h Q ↔ ldA (hRd h a) x (fun v => WP d 136 16 [l0, l1, l2, l3] (v :: st) h Q) := wp_iaload (show (lcode 136)[15]? = some (.iaload) by decide +kernel)
theorem x136_16 : WP d 136 16 [l0, some (vI x), l2, l3] st h Q ↔ WP d 136 17 [l0, some (vI x), l2, l3] (vI x :: st) h Q := wp_iload (show (lcode 136)[16]? = some (.iload 1) by decide +kernel) rfl
theorem x136_17 : WP d 136 17 [l0, l1, l2, l3] (vI y :: vI x :: st) h Q ↔ ((¬ wr x = wr y → WP d 136 20 [l0, l1, l2, l3] st h Q) ∧ (¬ (¬ wr x = wr y) → WP d 136 18 [l0, l1, l2, l3] st h Q)) := wp_icmp_ne (show (lcode 136)[17]? = some (.if_icmp .ne 20) by decide +kernel)
theorem x136_18 : WP d 136 18 [l0, l1, l2, l3] st h Q ↔ WP d 136 19 [l0, l1, l2, l3] (vI 1 :: st) h Q := wp_iconst (show (lcode 136)[18]? = some (.iconst 1) by decide +kernel)
theorem x136_19 : WP d 136 19 [l0, l1, l2, l3] st h Q ↔ WP d 136 21 [l0, l1, l2, l3] st h Q := wp_goto (show (lcode 136)[19]? = some (.goto 21) by decide +kernel)
theorem x136_20 : WP d 136 20 [l0, l1, l2, l3] st h Q ↔ WP d 136 21 [l0, l1, l2, l3] (vI 0 :: st) h Q := wp_iconst (show (lcode 136)[20]? = some (.iconst 0) by decide +kernel)
theorem x136_21 : WP d 136 21 [l0, l1, l2, l3] (vI y :: vI x :: st) h Q ↔ WP d 136 22 [l0, l1, l2, l3] (vI (x + y) :: st) h Q := wp_iadd (show (lcode 136)[21]? = some (.iadd) by decide +kernel)
theorem x136_22 : WP d 136 22 [l0, l1, l2, l3] (vI x :: st) h Q ↔ (nl l1 ∧ WP d 136 23 [l0, l1, some (vI x), l3] st h Q) := wp_istore (show (lcode 136)[22]? = some (.istore 2) by decide +kernel) (Nat.le_of_ble_eq_true rfl)
theorem x136_23 : WP d 136 23 [l0, l1, l2, some (vI x)] st h Q ↔ (nl l2 ∧ WP d 136 24 [l0, l1, l2, some (vI (x + 1))] st h Q) := wp_iinc (show (lcode 136)[23]? = some (.iinc 3 1) by decide +kernel) rfl (Nat.le_of_ble_eq_true rfl)
theorem x136_24 : WP d 136 24 [l0, l1, l2, l3] st h Q ↔ WP d 136 4 [l0, l1, l2, l3] st h Q := wp_goto (show (lcode 136)[24]? = some (.goto 4) by decide +kernel)
theorem x136_25 : WP d 136 25 [l0, l1, some (vI x), l3] st h Q ↔ WP d 136 26 [l0, l1, some (vI x), l3] (vI x :: st) h Q := wp_iload (show (lcode 136)[25]? = some (.iload 2) by decide +kernel) rfl
theorem x136_26 : WP d 136 26 [l0, l1, l2, l3] [vI x] h Q ↔ Q (some (vI x)) h := wp_ireturn (show (lcode 136)[26]? = some (.ireturn) by decide +kernel)
-- 137: WakeOrderModel.person
theorem x137_0 : WP d 137 0 [some (Value.ref a), l1, l2] st h Q ↔ WP d 137 1 [some (Value.ref a), l1, l2] (Value.ref a :: st) h Q := wp_aload (show (lcode 137)[0]? = some (.aload 0) by decide +kernel) rfl
theorem x137_1 : WP d 137 1 [l0, some (vI x), l2] st h Q ↔ WP d 137 2 [l0, some (vI x), l2] (vI x :: st) h Q := wp_iload (show (lcode 137)[1]? = some (.iload 1) by decide +kernel) rfl
theorem x137_2 : WP d 137 2 [l0, l1, l2] (v1 :: v :: st) h Q ↔ (sh st ∧ CALL d 113 [v, v1] h (fun v h => WP d 137 3 [l0, l1, l2] (v.toList ++ st) h Q)) := wp_call (n := 2) (show (lcode 137)[2]? = some (.invokestatic 113) by decide +kernel) (by decide +kernel) (by simp)
theorem x137_3 : WP d 137 3 [l0, l1, l2] (vI x :: st) h Q ↔ ((¬ wr x = 0 → WP d 137 6 [l0, l1, l2] st h Q) ∧ (¬ (¬ wr x = 0) → WP d 137 4 [l0, l1, l2] st h Q)) := wp_if_ne (show (lcode 137)[3]? = some (.ifCond .ne 6) by decide +kernel)
theorem x137_4 : WP d 137 4 [l0, l1, l2] st h Q ↔ WP d 137 5 [l0, l1, l2] (vI (-1000000001) :: st) h Q := wp_iconst (show (lcode 137)[4]? = some (.iconst (-1000000001)) by decide +kernel)
theorem x137_5 : WP d 137 5 [l0, l1, l2] [vI x] h Q ↔ Q (some (vI x)) h := wp_ireturn (show (lcode 137)[5]? = some (.ireturn) by decide +kernel)
theorem x137_6 : WP d 137 6 [some (Value.ref a), l1, l2] st h Q ↔ WP d 137 7 [some (Value.ref a), l1, l2] (Value.ref a :: st) h Q := wp_aload (show (lcode 137)[6]? = some (.aload 0) by decide +kernel) rfl
theorem x137_7 : WP d 137 7 [l0, l1, l2] (v :: st) h Q ↔ (sh st ∧ CALL d 131 [v] h (fun v h => WP d 137 8 [l0, l1, l2] (v.toList ++ st) h Q)) := wp_call (n := 1) (show (lcode 137)[7]? = some (.invokestatic 131) by decide +kernel) (by decide +kernel) (by simp)
theorem x137_8 : WP d 137 8 [l0, l1, some (vI x)] st h Q ↔ WP d 137 9 [l0, l1, some (vI x)] (vI x :: st) h Q := wp_iload (show (lcode 137)[8]? = some (.iload 2) by decide +kernel) rfl
theorem x137_9 (c0 : wr x = 0 → WP d 137 10 [l0, l1, l2] st h Q) (c1 : wr x = 1 → WP d 137 17 [l0, l1, l2] st h Q) (c2 : wr x = 2 → WP d 137 21 [l0, l1, l2] st h Q) (c3 : wr x = 3 → WP d 137 26 [l0, l1, l2] st h Q) (c4 : wr x = 4 → WP d 137 39 [l0, l1, l2] st h Q) (cd : wr x < 0 ∨ 4 < wr x → WP d 137 43 [l0, l1, l2] st h Q) : WP d 137 9 [l0, l1, l2] (vI x :: st) h Q := by
  refine wp_tsw (show (lcode 137)[9]? = some (.tableswitch 43 0 4 #[10, 17, 21, 26, 39]) by decide +kernel) (by decide) (fun j t hj hx => ?_) cd
  match j, hj with
  | 0, hj => cases hj; exact c0 (by omega)
  | 1, hj => cases hj; exact c1 (by omega)
  | 2, hj => cases hj; exact c2 (by omega)
  | 3, hj => cases hj; exact c3 (by omega)
  | 4, hj => cases hj; exact c4 (by omega)
  | n + 5, hj => simp at hj
theorem x137_10 : WP d 137 10 [some (Value.ref a), l1, l2] st h Q ↔ WP d 137 11 [some (Value.ref a), l1, l2] (Value.ref a :: st) h Q := wp_aload (show (lcode 137)[10]? = some (.aload 0) by decide +kernel) rfl
theorem x137_11 : WP d 137 11 [l0, l1, l2] (.ref a :: st) h Q ↔ gF (hRd h a) 11 6 (fun v => WP d 137 12 [l0, l1, l2] (v :: st) h Q) := wp_getfield (show (lcode 137)[11]? = some (.getfield 710) by decide +kernel)
theorem x137_12 : WP d 137 12 [l0, l1, l2] st h Q ↔ WP d 137 13 [l0, l1, l2] (vI 17 :: st) h Q := wp_iconst (show (lcode 137)[12]? = some (.iconst 17) by decide +kernel)
theorem x137_13 : WP d 137 13 [l0, some (vI x), l2] st h Q ↔ WP d 137 14 [l0, some (vI x), l2] (vI x :: st) h Q := wp_iload (show (lcode 137)[13]? = some (.iload 1) by decide +kernel) rfl
theorem x137_14 : WP d 137 14 [l0, l1, l2] (vI y :: vI x :: st) h Q ↔ WP d 137 15 [l0, l1, l2] (vI (x + y) :: st) h Q := wp_iadd (show (lcode 137)[14]? = some (.iadd) by decide +kernel)
theorem x137_15 : WP d 137 15 [l0, l1, l2] (vI x :: .ref a :: st) h Q ↔ ldA (hRd h a) x (fun v => WP d 137 16 [l0, l1, l2] (v :: st) h Q) := wp_iaload (show (lcode 137)[15]? = some (.iaload) by decide +kernel)
theorem x137_16 : WP d 137 16 [l0, l1, l2] [vI x] h Q ↔ Q (some (vI x)) h := wp_ireturn (show (lcode 137)[16]? = some (.ireturn) by decide +kernel)
theorem x137_17 : WP d 137 17 [some (Value.ref a), l1, l2] st h Q ↔ WP d 137 18 [some (Value.ref a), l1, l2] (Value.ref a :: st) h Q := wp_aload (show (lcode 137)[17]? = some (.aload 0) by decide +kernel) rfl
theorem x137_18 : WP d 137 18 [l0, some (vI x), l2] st h Q ↔ WP d 137 19 [l0, some (vI x), l2] (vI x :: st) h Q := wp_iload (show (lcode 137)[18]? = some (.iload 1) by decide +kernel) rfl
theorem x137_19 : WP d 137 19 [l0, l1, l2] (v1 :: v :: st) h Q ↔ (sh st ∧ CALL d 135 [v, v1] h (fun v h => WP d 137 20 [l0, l1, l2] (v.toList ++ st) h Q)) := wp_call (n := 2) (show (lcode 137)[19]? = some (.invokestatic 135) by decide +kernel) (by decide +kernel) (by simp)
theorem x137_20 : WP d 137 20 [l0, l1, l2] [vI x] h Q ↔ Q (some (vI x)) h := wp_ireturn (show (lcode 137)[20]? = some (.ireturn) by decide +kernel)
theorem x137_21 : WP d 137 21 [some (Value.ref a), l1, l2] st h Q ↔ WP d 137 22 [some (Value.ref a), l1, l2] (Value.ref a :: st) h Q := wp_aload (show (lcode 137)[21]? = some (.aload 0) by decide +kernel) rfl
theorem x137_22 : WP d 137 22 [l0, l1, l2] (.ref a :: st) h Q ↔ gF (hRd h a) 11 5 (fun v => WP d 137 23 [l0, l1, l2] (v :: st) h Q) := wp_getfield (show (lcode 137)[22]? = some (.getfield 709) by decide +kernel)
theorem x137_23 : WP d 137 23 [l0, some (vI x), l2] st h Q ↔ WP d 137 24 [l0, some (vI x), l2] (vI x :: st) h Q := wp_iload (show (lcode 137)[23]? = some (.iload 1) by decide +kernel) rfl
theorem x137_24 : WP d 137 24 [l0, l1, l2] (vI x :: .ref a :: st) h Q ↔ ldA (hRd h a) x (fun v => WP d 137 25 [l0, l1, l2] (v :: st) h Q) := wp_iaload (show (lcode 137)[24]? = some (.iaload) by decide +kernel)
theorem x137_25 : WP d 137 25 [l0, l1, l2] [vI x] h Q ↔ Q (some (vI x)) h := wp_ireturn (show (lcode 137)[25]? = some (.ireturn) by decide +kernel)
theorem x137_26 : WP d 137 26 [some (Value.ref a), l1, l2] st h Q ↔ WP d 137 27 [some (Value.ref a), l1, l2] (Value.ref a :: st) h Q := wp_aload (show (lcode 137)[26]? = some (.aload 0) by decide +kernel) rfl
theorem x137_27 : WP d 137 27 [l0, l1, l2] (.ref a :: st) h Q ↔ gF (hRd h a) 11 22 (fun v => WP d 137 28 [l0, l1, l2] (v :: st) h Q) := wp_getfield (show (lcode 137)[27]? = some (.getfield 726) by decide +kernel)
theorem x137_28 : WP d 137 28 [l0, some (vI x), l2] st h Q ↔ WP d 137 29 [l0, some (vI x), l2] (vI x :: st) h Q := wp_iload (show (lcode 137)[28]? = some (.iload 1) by decide +kernel) rfl
theorem x137_29 : WP d 137 29 [l0, l1, l2] (vI x :: .ref a :: st) h Q ↔ ldA (hRd h a) x (fun v => WP d 137 30 [l0, l1, l2] (v :: st) h Q) := wp_iaload (show (lcode 137)[29]? = some (.iaload) by decide +kernel)
theorem x137_30 : WP d 137 30 [l0, l1, l2] st h Q ↔ WP d 137 31 [l0, l1, l2] (vI 1000000 :: st) h Q := wp_iconst (show (lcode 137)[30]? = some (.iconst 1000000) by decide +kernel)
theorem x137_31 : WP d 137 31 [l0, l1, l2] (vI y :: vI x :: st) h Q ↔ ((¬ wr x = wr y → WP d 137 34 [l0, l1, l2] st h Q) ∧ (¬ (¬ wr x = wr y) → WP d 137 32 [l0, l1, l2] st h Q)) := wp_icmp_ne (show (lcode 137)[31]? = some (.if_icmp .ne 34) by decide +kernel)
theorem x137_32 : WP d 137 32 [l0, l1, l2] st h Q ↔ WP d 137 33 [l0, l1, l2] (vI (-1) :: st) h Q := wp_iconst (show (lcode 137)[32]? = some (.iconst (-1)) by decide +kernel)
theorem x137_33 : WP d 137 33 [l0, l1, l2] st h Q ↔ WP d 137 38 [l0, l1, l2] st h Q := wp_goto (show (lcode 137)[33]? = some (.goto 38) by decide +kernel)
theorem x137_34 : WP d 137 34 [some (Value.ref a), l1, l2] st h Q ↔ WP d 137 35 [some (Value.ref a), l1, l2] (Value.ref a :: st) h Q := wp_aload (show (lcode 137)[34]? = some (.aload 0) by decide +kernel) rfl
theorem x137_35 : WP d 137 35 [l0, l1, l2] (.ref a :: st) h Q ↔ gF (hRd h a) 11 22 (fun v => WP d 137 36 [l0, l1, l2] (v :: st) h Q) := wp_getfield (show (lcode 137)[35]? = some (.getfield 726) by decide +kernel)
theorem x137_36 : WP d 137 36 [l0, some (vI x), l2] st h Q ↔ WP d 137 37 [l0, some (vI x), l2] (vI x :: st) h Q := wp_iload (show (lcode 137)[36]? = some (.iload 1) by decide +kernel) rfl
theorem x137_37 : WP d 137 37 [l0, l1, l2] (vI x :: .ref a :: st) h Q ↔ ldA (hRd h a) x (fun v => WP d 137 38 [l0, l1, l2] (v :: st) h Q) := wp_iaload (show (lcode 137)[37]? = some (.iaload) by decide +kernel)
theorem x137_38 : WP d 137 38 [l0, l1, l2] [vI x] h Q ↔ Q (some (vI x)) h := wp_ireturn (show (lcode 137)[38]? = some (.ireturn) by decide +kernel)
theorem x137_39 : WP d 137 39 [some (Value.ref a), l1, l2] st h Q ↔ WP d 137 40 [some (Value.ref a), l1, l2] (Value.ref a :: st) h Q := wp_aload (show (lcode 137)[39]? = some (.aload 0) by decide +kernel) rfl
theorem x137_40 : WP d 137 40 [l0, some (vI x), l2] st h Q ↔ WP d 137 41 [l0, some (vI x), l2] (vI x :: st) h Q := wp_iload (show (lcode 137)[40]? = some (.iload 1) by decide +kernel) rfl
theorem x137_41 : WP d 137 41 [l0, l1, l2] (v1 :: v :: st) h Q ↔ (sh st ∧ CALL d 136 [v, v1] h (fun v h => WP d 137 42 [l0, l1, l2] (v.toList ++ st) h Q)) := wp_call (n := 2) (show (lcode 137)[41]? = some (.invokestatic 136) by decide +kernel) (by decide +kernel) (by simp)
theorem x137_42 : WP d 137 42 [l0, l1, l2] [vI x] h Q ↔ Q (some (vI x)) h := wp_ireturn (show (lcode 137)[42]? = some (.ireturn) by decide +kernel)
theorem x137_43 : WP d 137 43 [l0, l1, l2] st h Q ↔ WP d 137 44 [l0, l1, l2] (vI (-1000000002) :: st) h Q := wp_iconst (show (lcode 137)[43]? = some (.iconst (-1000000002)) by decide +kernel)
theorem x137_44 : WP d 137 44 [l0, l1, l2] [vI x] h Q ↔ Q (some (vI x)) h := wp_ireturn (show (lcode 137)[44]? = some (.ireturn) by decide +kernel)
-- 138: WakeOrderModel.job
theorem x138_0 : WP d 138 0 [some (Value.ref a), l1, l2] st h Q ↔ WP d 138 1 [some (Value.ref a), l1, l2] (Value.ref a :: st) h Q := wp_aload (show (lcode 138)[0]? = some (.aload 0) by decide +kernel) rfl
theorem x138_1 : WP d 138 1 [l0, some (vI x), l2] st h Q ↔ WP d 138 2 [l0, some (vI x), l2] (vI x :: st) h Q := wp_iload (show (lcode 138)[1]? = some (.iload 1) by decide +kernel) rfl
theorem x138_2 : WP d 138 2 [l0, l1, l2] (v1 :: v :: st) h Q ↔ (sh st ∧ CALL d 114 [v, v1] h (fun v h => WP d 138 3 [l0, l1, l2] (v.toList ++ st) h Q)) := wp_call (n := 2) (show (lcode 138)[2]? = some (.invokestatic 114) by decide +kernel) (by decide +kernel) (by simp)
theorem x138_3 : WP d 138 3 [l0, l1, l2] (vI x :: st) h Q ↔ ((¬ wr x = 0 → WP d 138 6 [l0, l1, l2] st h Q) ∧ (¬ (¬ wr x = 0) → WP d 138 4 [l0, l1, l2] st h Q)) := wp_if_ne (show (lcode 138)[3]? = some (.ifCond .ne 6) by decide +kernel)
theorem x138_4 : WP d 138 4 [l0, l1, l2] st h Q ↔ WP d 138 5 [l0, l1, l2] (vI (-1000000001) :: st) h Q := wp_iconst (show (lcode 138)[4]? = some (.iconst (-1000000001)) by decide +kernel)
theorem x138_5 : WP d 138 5 [l0, l1, l2] [vI x] h Q ↔ Q (some (vI x)) h := wp_ireturn (show (lcode 138)[5]? = some (.ireturn) by decide +kernel)
theorem x138_6 : WP d 138 6 [some (Value.ref a), l1, l2] st h Q ↔ WP d 138 7 [some (Value.ref a), l1, l2] (Value.ref a :: st) h Q := wp_aload (show (lcode 138)[6]? = some (.aload 0) by decide +kernel) rfl
theorem x138_7 : WP d 138 7 [l0, l1, l2] (v :: st) h Q ↔ (sh st ∧ CALL d 131 [v] h (fun v h => WP d 138 8 [l0, l1, l2] (v.toList ++ st) h Q)) := wp_call (n := 1) (show (lcode 138)[7]? = some (.invokestatic 131) by decide +kernel) (by decide +kernel) (by simp)
theorem x138_8 : WP d 138 8 [l0, l1, some (vI x)] st h Q ↔ WP d 138 9 [l0, l1, some (vI x)] (vI x :: st) h Q := wp_iload (show (lcode 138)[8]? = some (.iload 2) by decide +kernel) rfl
theorem x138_9 (c0 : wr x = 0 → WP d 138 10 [l0, l1, l2] st h Q) (c1 : wr x = 1 → WP d 138 17 [l0, l1, l2] st h Q) (c2 : wr x = 2 → WP d 138 22 [l0, l1, l2] st h Q) (c3 : wr x = 3 → WP d 138 27 [l0, l1, l2] st h Q) (cd : wr x < 0 ∨ 3 < wr x → WP d 138 40 [l0, l1, l2] st h Q) : WP d 138 9 [l0, l1, l2] (vI x :: st) h Q := by
  refine wp_tsw (show (lcode 138)[9]? = some (.tableswitch 40 0 3 #[10, 17, 22, 27]) by decide +kernel) (by decide) (fun j t hj hx => ?_) cd
  match j, hj with
  | 0, hj => cases hj; exact c0 (by omega)
  | 1, hj => cases hj; exact c1 (by omega)
  | 2, hj => cases hj; exact c2 (by omega)
  | 3, hj => cases hj; exact c3 (by omega)
  | n + 4, hj => simp at hj
theorem x138_10 : WP d 138 10 [some (Value.ref a), l1, l2] st h Q ↔ WP d 138 11 [some (Value.ref a), l1, l2] (Value.ref a :: st) h Q := wp_aload (show (lcode 138)[10]? = some (.aload 0) by decide +kernel) rfl
theorem x138_11 : WP d 138 11 [l0, l1, l2] (.ref a :: st) h Q ↔ gF (hRd h a) 11 6 (fun v => WP d 138 12 [l0, l1, l2] (v :: st) h Q) := wp_getfield (show (lcode 138)[11]? = some (.getfield 710) by decide +kernel)
theorem x138_12 : WP d 138 12 [l0, l1, l2] st h Q ↔ WP d 138 13 [l0, l1, l2] (vI 9 :: st) h Q := wp_iconst (show (lcode 138)[12]? = some (.iconst 9) by decide +kernel)
theorem x138_13 : WP d 138 13 [l0, some (vI x), l2] st h Q ↔ WP d 138 14 [l0, some (vI x), l2] (vI x :: st) h Q := wp_iload (show (lcode 138)[13]? = some (.iload 1) by decide +kernel) rfl
theorem x138_14 : WP d 138 14 [l0, l1, l2] (vI y :: vI x :: st) h Q ↔ WP d 138 15 [l0, l1, l2] (vI (x + y) :: st) h Q := wp_iadd (show (lcode 138)[14]? = some (.iadd) by decide +kernel)
theorem x138_15 : WP d 138 15 [l0, l1, l2] (vI x :: .ref a :: st) h Q ↔ ldA (hRd h a) x (fun v => WP d 138 16 [l0, l1, l2] (v :: st) h Q) := wp_iaload (show (lcode 138)[15]? = some (.iaload) by decide +kernel)
theorem x138_16 : WP d 138 16 [l0, l1, l2] [vI x] h Q ↔ Q (some (vI x)) h := wp_ireturn (show (lcode 138)[16]? = some (.ireturn) by decide +kernel)
theorem x138_17 : WP d 138 17 [some (Value.ref a), l1, l2] st h Q ↔ WP d 138 18 [some (Value.ref a), l1, l2] (Value.ref a :: st) h Q := wp_aload (show (lcode 138)[17]? = some (.aload 0) by decide +kernel) rfl
theorem x138_18 : WP d 138 18 [l0, l1, l2] (.ref a :: st) h Q ↔ gF (hRd h a) 11 3 (fun v => WP d 138 19 [l0, l1, l2] (v :: st) h Q) := wp_getfield (show (lcode 138)[18]? = some (.getfield 707) by decide +kernel)
theorem x138_19 : WP d 138 19 [l0, some (vI x), l2] st h Q ↔ WP d 138 20 [l0, some (vI x), l2] (vI x :: st) h Q := wp_iload (show (lcode 138)[19]? = some (.iload 1) by decide +kernel) rfl
theorem x138_20 : WP d 138 20 [l0, l1, l2] (vI x :: .ref a :: st) h Q ↔ ldA (hRd h a) x (fun v => WP d 138 21 [l0, l1, l2] (v :: st) h Q) := wp_iaload (show (lcode 138)[20]? = some (.iaload) by decide +kernel)
theorem x138_21 : WP d 138 21 [l0, l1, l2] [vI x] h Q ↔ Q (some (vI x)) h := wp_ireturn (show (lcode 138)[21]? = some (.ireturn) by decide +kernel)
theorem x138_22 : WP d 138 22 [some (Value.ref a), l1, l2] st h Q ↔ WP d 138 23 [some (Value.ref a), l1, l2] (Value.ref a :: st) h Q := wp_aload (show (lcode 138)[22]? = some (.aload 0) by decide +kernel) rfl
theorem x138_23 : WP d 138 23 [l0, l1, l2] (.ref a :: st) h Q ↔ gF (hRd h a) 11 4 (fun v => WP d 138 24 [l0, l1, l2] (v :: st) h Q) := wp_getfield (show (lcode 138)[23]? = some (.getfield 708) by decide +kernel)
theorem x138_24 : WP d 138 24 [l0, some (vI x), l2] st h Q ↔ WP d 138 25 [l0, some (vI x), l2] (vI x :: st) h Q := wp_iload (show (lcode 138)[24]? = some (.iload 1) by decide +kernel) rfl
theorem x138_25 : WP d 138 25 [l0, l1, l2] (vI x :: .ref a :: st) h Q ↔ ldA (hRd h a) x (fun v => WP d 138 26 [l0, l1, l2] (v :: st) h Q) := wp_iaload (show (lcode 138)[25]? = some (.iaload) by decide +kernel)
theorem x138_26 : WP d 138 26 [l0, l1, l2] [vI x] h Q ↔ Q (some (vI x)) h := wp_ireturn (show (lcode 138)[26]? = some (.ireturn) by decide +kernel)
theorem x138_27 : WP d 138 27 [some (Value.ref a), l1, l2] st h Q ↔ WP d 138 28 [some (Value.ref a), l1, l2] (Value.ref a :: st) h Q := wp_aload (show (lcode 138)[27]? = some (.aload 0) by decide +kernel) rfl
theorem x138_28 : WP d 138 28 [l0, l1, l2] (.ref a :: st) h Q ↔ gF (hRd h a) 11 23 (fun v => WP d 138 29 [l0, l1, l2] (v :: st) h Q) := wp_getfield (show (lcode 138)[28]? = some (.getfield 727) by decide +kernel)
theorem x138_29 : WP d 138 29 [l0, some (vI x), l2] st h Q ↔ WP d 138 30 [l0, some (vI x), l2] (vI x :: st) h Q := wp_iload (show (lcode 138)[29]? = some (.iload 1) by decide +kernel) rfl
theorem x138_30 : WP d 138 30 [l0, l1, l2] (vI x :: .ref a :: st) h Q ↔ ldA (hRd h a) x (fun v => WP d 138 31 [l0, l1, l2] (v :: st) h Q) := wp_iaload (show (lcode 138)[30]? = some (.iaload) by decide +kernel)
theorem x138_31 : WP d 138 31 [l0, l1, l2] st h Q ↔ WP d 138 32 [l0, l1, l2] (vI 1000000 :: st) h Q := wp_iconst (show (lcode 138)[31]? = some (.iconst 1000000) by decide +kernel)
theorem x138_32 : WP d 138 32 [l0, l1, l2] (vI y :: vI x :: st) h Q ↔ ((¬ wr x = wr y → WP d 138 35 [l0, l1, l2] st h Q) ∧ (¬ (¬ wr x = wr y) → WP d 138 33 [l0, l1, l2] st h Q)) := wp_icmp_ne (show (lcode 138)[32]? = some (.if_icmp .ne 35) by decide +kernel)
theorem x138_33 : WP d 138 33 [l0, l1, l2] st h Q ↔ WP d 138 34 [l0, l1, l2] (vI (-1) :: st) h Q := wp_iconst (show (lcode 138)[33]? = some (.iconst (-1)) by decide +kernel)
theorem x138_34 : WP d 138 34 [l0, l1, l2] st h Q ↔ WP d 138 39 [l0, l1, l2] st h Q := wp_goto (show (lcode 138)[34]? = some (.goto 39) by decide +kernel)
theorem x138_35 : WP d 138 35 [some (Value.ref a), l1, l2] st h Q ↔ WP d 138 36 [some (Value.ref a), l1, l2] (Value.ref a :: st) h Q := wp_aload (show (lcode 138)[35]? = some (.aload 0) by decide +kernel) rfl
theorem x138_36 : WP d 138 36 [l0, l1, l2] (.ref a :: st) h Q ↔ gF (hRd h a) 11 23 (fun v => WP d 138 37 [l0, l1, l2] (v :: st) h Q) := wp_getfield (show (lcode 138)[36]? = some (.getfield 727) by decide +kernel)
theorem x138_37 : WP d 138 37 [l0, some (vI x), l2] st h Q ↔ WP d 138 38 [l0, some (vI x), l2] (vI x :: st) h Q := wp_iload (show (lcode 138)[37]? = some (.iload 1) by decide +kernel) rfl
theorem x138_38 : WP d 138 38 [l0, l1, l2] (vI x :: .ref a :: st) h Q ↔ ldA (hRd h a) x (fun v => WP d 138 39 [l0, l1, l2] (v :: st) h Q) := wp_iaload (show (lcode 138)[38]? = some (.iaload) by decide +kernel)
theorem x138_39 : WP d 138 39 [l0, l1, l2] [vI x] h Q ↔ Q (some (vI x)) h := wp_ireturn (show (lcode 138)[39]? = some (.ireturn) by decide +kernel)
theorem x138_40 : WP d 138 40 [l0, l1, l2] st h Q ↔ WP d 138 41 [l0, l1, l2] (vI (-1000000002) :: st) h Q := wp_iconst (show (lcode 138)[40]? = some (.iconst (-1000000002)) by decide +kernel)
theorem x138_41 : WP d 138 41 [l0, l1, l2] [vI x] h Q ↔ Q (some (vI x)) h := wp_ireturn (show (lcode 138)[41]? = some (.ireturn) by decide +kernel)
-- 139: WakeOrderModel.order
theorem x139_0 : WP d 139 0 [l0, some (vI x)] st h Q ↔ WP d 139 1 [l0, some (vI x)] (vI x :: st) h Q := wp_iload (show (lcode 139)[0]? = some (.iload 1) by decide +kernel) rfl
theorem x139_1 : WP d 139 1 [l0, l1] (vI x :: st) h Q ↔ WP d 139 2 [l0, l1] (vL (wr x) :: st) h Q := wp_i2l (show (lcode 139)[1]? = some (.i2l) by decide +kernel)
theorem x139_2 : WP d 139 2 [l0, l1] st h Q ↔ WP d 139 3 [l0, l1] (vL 0 :: st) h Q := wp_lconst (show (lcode 139)[2]? = some (.jsr_w 0) by decide +kernel)
theorem x139_3 : WP d 139 3 [some (Value.ref a), l1] st h Q ↔ WP d 139 4 [some (Value.ref a), l1] (Value.ref a :: st) h Q := wp_aload (show (lcode 139)[3]? = some (.aload 0) by decide +kernel) rfl
theorem x139_4 : WP d 139 4 [l0, l1] (.ref a :: st) h Q ↔ gF (hRd h a) 11 6 (fun v => WP d 139 5 [l0, l1] (v :: st) h Q) := wp_getfield (show (lcode 139)[4]? = some (.getfield 710) by decide +kernel)
theorem x139_5 : WP d 139 5 [l0, l1] st h Q ↔ WP d 139 6 [l0, l1] (vI 6 :: st) h Q := wp_iconst (show (lcode 139)[5]? = some (.iconst 6) by decide +kernel)
theorem x139_6 : WP d 139 6 [l0, l1] (vI x :: .ref a :: st) h Q ↔ ldA (hRd h a) x (fun v => WP d 139 7 [l0, l1] (v :: st) h Q) := wp_iaload (show (lcode 139)[6]? = some (.iaload) by decide +kernel)
theorem x139_7 : WP d 139 7 [l0, l1] st h Q ↔ WP d 139 8 [l0, l1] (vI 1 :: st) h Q := wp_iconst (show (lcode 139)[7]? = some (.iconst 1) by decide +kernel)
theorem x139_8 : WP d 139 8 [l0, l1] (vI y :: vI x :: st) h Q ↔ WP d 139 9 [l0, l1] (vI (x - y) :: st) h Q := wp_isub (show (lcode 139)[8]? = some (.isub) by decide +kernel)
theorem x139_9 : WP d 139 9 [l0, l1] (vI x :: st) h Q ↔ WP d 139 10 [l0, l1] (vL (wr x) :: st) h Q := wp_i2l (show (lcode 139)[9]? = some (.i2l) by decide +kernel)
theorem x139_10 : WP d 139 10 [l0, l1] (v2 :: v1 :: v :: st) h Q ↔ (sh st ∧ CALL d 110 [v, v1, v2] h (fun v h => WP d 139 11 [l0, l1] (v.toList ++ st) h Q)) := wp_call (n := 3) (show (lcode 139)[10]? = some (.invokestatic 110) by decide +kernel) (by decide +kernel) (by simp)
theorem x139_11 : WP d 139 11 [l0, l1] (vI x :: st) h Q ↔ ((wr x = 0 → WP d 139 17 [l0, l1] st h Q) ∧ (¬ (wr x = 0) → WP d 139 12 [l0, l1] st h Q)) := wp_if_eq (show (lcode 139)[11]? = some (.ifCond .eq 17) by decide +kernel)
theorem x139_12 : WP d 139 12 [some (Value.ref a), l1] st h Q ↔ WP d 139 13 [some (Value.ref a), l1] (Value.ref a :: st) h Q := wp_aload (show (lcode 139)[12]? = some (.aload 0) by decide +kernel) rfl
theorem x139_13 : WP d 139 13 [l0, l1] (.ref a :: st) h Q ↔ gF (hRd h a) 11 6 (fun v => WP d 139 14 [l0, l1] (v :: st) h Q) := wp_getfield (show (lcode 139)[13]? = some (.getfield 710) by decide +kernel)
theorem x139_14 : WP d 139 14 [l0, some (vI x)] st h Q ↔ WP d 139 15 [l0, some (vI x)] (vI x :: st) h Q := wp_iload (show (lcode 139)[14]? = some (.iload 1) by decide +kernel) rfl
theorem x139_15 : WP d 139 15 [l0, l1] (vI x :: .ref a :: st) h Q ↔ ldA (hRd h a) x (fun v => WP d 139 16 [l0, l1] (v :: st) h Q) := wp_iaload (show (lcode 139)[15]? = some (.iaload) by decide +kernel)
theorem x139_16 : WP d 139 16 [l0, l1] st h Q ↔ WP d 139 18 [l0, l1] st h Q := wp_goto (show (lcode 139)[16]? = some (.goto 18) by decide +kernel)
theorem x139_17 : WP d 139 17 [l0, l1] st h Q ↔ WP d 139 18 [l0, l1] (vI (-1) :: st) h Q := wp_iconst (show (lcode 139)[17]? = some (.iconst (-1)) by decide +kernel)
theorem x139_18 : WP d 139 18 [l0, l1] [vI x] h Q ↔ Q (some (vI x)) h := wp_ireturn (show (lcode 139)[18]? = some (.ireturn) by decide +kernel)
-- 140: WakeOrderModel.remember
theorem x140_0 : WP d 140 0 [some (Value.ref a), l1] st h Q ↔ WP d 140 1 [some (Value.ref a), l1] (Value.ref a :: st) h Q := wp_aload (show (lcode 140)[0]? = some (.aload 0) by decide +kernel) rfl
theorem x140_1 : WP d 140 1 [l0, l1] (.ref a :: st) h Q ↔ gF (hRd h a) 11 24 (fun v => WP d 140 2 [l0, l1] (v :: st) h Q) := wp_getfield (show (lcode 140)[1]? = some (.getfield 728) by decide +kernel)
theorem x140_2 : WP d 140 2 [l0, l1] st h Q ↔ WP d 140 3 [l0, l1] (vI 20 :: st) h Q := wp_iconst (show (lcode 140)[2]? = some (.iconst 20) by decide +kernel)
theorem x140_3 : WP d 140 3 [l0, l1] (vI y :: vI x :: st) h Q ↔ ((¬ wr x = wr y → WP d 140 28 [l0, l1] st h Q) ∧ (¬ (¬ wr x = wr y) → WP d 140 4 [l0, l1] st h Q)) := wp_icmp_ne (show (lcode 140)[3]? = some (.if_icmp .ne 28) by decide +kernel)
theorem x140_4 : WP d 140 4 [l0, l1] st h Q ↔ WP d 140 5 [l0, l1] (vI 24 :: st) h Q := wp_iconst (show (lcode 140)[4]? = some (.iconst 24) by decide +kernel)
theorem x140_5 : WP d 140 5 [l0, l1] (vI x :: st) h Q ↔ (nl l0 ∧ WP d 140 6 [l0, some (vI x)] st h Q) := wp_istore (show (lcode 140)[5]? = some (.istore 1) by decide +kernel) (Nat.le_of_ble_eq_true rfl)
theorem x140_6 : WP d 140 6 [l0, l1] st h Q ↔ WPC d 140 7 [l0, l1] st h Q := wp_nop (show (lcode 140)[6]? = some (.nop) by decide +kernel)
theorem x140_7 : WP d 140 7 [l0, some (vI x)] st h Q ↔ WP d 140 8 [l0, some (vI x)] (vI x :: st) h Q := wp_iload (show (lcode 140)[7]? = some (.iload 1) by decide +kernel) rfl
theorem x140_8 : WP d 140 8 [l0, l1] st h Q ↔ WP d 140 9 [l0, l1] (vI 480 :: st) h Q := wp_iconst (show (lcode 140)[8]? = some (.iconst 480) by decide +kernel)
theorem x140_9 : WP d 140 9 [l0, l1] (vI y :: vI x :: st) h Q ↔ ((wr y ≤ wr x → WP d 140 22 [l0, l1] st h Q) ∧ (¬ (wr y ≤ wr x) → WP d 140 10 [l0, l1] st h Q)) := wp_icmp_ge (show (lcode 140)[9]? = some (.if_icmp .ge 22) by decide +kernel)
theorem x140_10 : WP d 140 10 [some (Value.ref a), l1] st h Q ↔ WP d 140 11 [some (Value.ref a), l1] (Value.ref a :: st) h Q := wp_aload (show (lcode 140)[10]? = some (.aload 0) by decide +kernel) rfl
theorem x140_11 : WP d 140 11 [l0, l1] (.ref a :: st) h Q ↔ gF (hRd h a) 11 25 (fun v => WP d 140 12 [l0, l1] (v :: st) h Q) := wp_getfield (show (lcode 140)[11]? = some (.getfield 729) by decide +kernel)
theorem x140_12 : WP d 140 12 [l0, some (vI x)] st h Q ↔ WP d 140 13 [l0, some (vI x)] (vI x :: st) h Q := wp_iload (show (lcode 140)[12]? = some (.iload 1) by decide +kernel) rfl
theorem x140_13 : WP d 140 13 [l0, l1] st h Q ↔ WP d 140 14 [l0, l1] (vI 24 :: st) h Q := wp_iconst (show (lcode 140)[13]? = some (.iconst 24) by decide +kernel)
theorem x140_14 : WP d 140 14 [l0, l1] (vI y :: vI x :: st) h Q ↔ WP d 140 15 [l0, l1] (vI (x - y) :: st) h Q := wp_isub (show (lcode 140)[14]? = some (.isub) by decide +kernel)
theorem x140_15 : WP d 140 15 [some (Value.ref a), l1] st h Q ↔ WP d 140 16 [some (Value.ref a), l1] (Value.ref a :: st) h Q := wp_aload (show (lcode 140)[15]? = some (.aload 0) by decide +kernel) rfl
theorem x140_16 : WP d 140 16 [l0, l1] (.ref a :: st) h Q ↔ gF (hRd h a) 11 25 (fun v => WP d 140 17 [l0, l1] (v :: st) h Q) := wp_getfield (show (lcode 140)[16]? = some (.getfield 729) by decide +kernel)
theorem x140_17 : WP d 140 17 [l0, some (vI x)] st h Q ↔ WP d 140 18 [l0, some (vI x)] (vI x :: st) h Q := wp_iload (show (lcode 140)[17]? = some (.iload 1) by decide +kernel) rfl
theorem x140_18 : WP d 140 18 [l0, l1] (vI x :: .ref a :: st) h Q ↔ ldA (hRd h a) x (fun v => WP d 140 19 [l0, l1] (v :: st) h Q) := wp_iaload (show (lcode 140)[18]? = some (.iaload) by decide +kernel)
theorem x140_19 : WP d 140 19 [l0, l1] (vI y :: vI x :: .ref a :: st) h Q ↔ stA (hRd h a) a x (vI y) (fun c => WP d 140 20 [l0, l1] st (hWr h a c) Q) := wp_iastore (show (lcode 140)[19]? = some (.iastore) by decide +kernel)
theorem x140_20 : WP d 140 20 [l0, some (vI x)] st h Q ↔ (nl l0 ∧ WP d 140 21 [l0, some (vI (x + 1))] st h Q) := wp_iinc (show (lcode 140)[20]? = some (.iinc 1 1) by decide +kernel) rfl (Nat.le_of_ble_eq_true rfl)
theorem x140_21 : WP d 140 21 [l0, l1] st h Q ↔ WP d 140 6 [l0, l1] st h Q := wp_goto (show (lcode 140)[21]? = some (.goto 6) by decide +kernel)
theorem x140_22 : WP d 140 22 [some (Value.ref a), l1] st h Q ↔ WP d 140 23 [some (Value.ref a), l1] (Value.ref a :: st) h Q := wp_aload (show (lcode 140)[22]? = some (.aload 0) by decide +kernel) rfl
theorem x140_23 : WP d 140 23 [l0, l1] (v :: st) h Q ↔ (c1 v ∧ WP d 140 24 [l0, l1] (v :: v :: st) h Q) := wp_dup (show (lcode 140)[23]? = some (.dup) by decide +kernel)
theorem x140_24 : WP d 140 24 [l0, l1] (.ref a :: st) h Q ↔ gF (hRd h a) 11 24 (fun v => WP d 140 25 [l0, l1] (v :: st) h Q) := wp_getfield (show (lcode 140)[24]? = some (.getfield 728) by decide +kernel)
theorem x140_25 : WP d 140 25 [l0, l1] st h Q ↔ WP d 140 26 [l0, l1] (vI 1 :: st) h Q := wp_iconst (show (lcode 140)[25]? = some (.iconst 1) by decide +kernel)
theorem x140_26 : WP d 140 26 [l0, l1] (vI y :: vI x :: st) h Q ↔ WP d 140 27 [l0, l1] (vI (x - y) :: st) h Q := wp_isub (show (lcode 140)[26]? = some (.isub) by decide +kernel)
theorem x140_27 : WP d 140 27 [l0, l1] (vI x :: .ref a :: st) h Q ↔ pF (hRd h a) 11 24 (vI x) (fun c => WP d 140 28 [l0, l1] st (hWr h a c) Q) := wp_putfield (show (lcode 140)[27]? = some (.putfield 728) by decide +kernel)
theorem x140_28 : WP d 140 28 [l0, l1] st h Q ↔ WP d 140 29 [l0, l1] (vI 0 :: st) h Q := wp_iconst (show (lcode 140)[28]? = some (.iconst 0) by decide +kernel)
theorem x140_29 : WP d 140 29 [l0, l1] (vI x :: st) h Q ↔ (nl l0 ∧ WP d 140 30 [l0, some (vI x)] st h Q) := wp_istore (show (lcode 140)[29]? = some (.istore 1) by decide +kernel) (Nat.le_of_ble_eq_true rfl)
theorem x140_30 : WP d 140 30 [l0, l1] st h Q ↔ WPC d 140 31 [l0, l1] st h Q := wp_nop (show (lcode 140)[30]? = some (.nop) by decide +kernel)
theorem x140_31 : WP d 140 31 [l0, some (vI x)] st h Q ↔ WP d 140 32 [l0, some (vI x)] (vI x :: st) h Q := wp_iload (show (lcode 140)[31]? = some (.iload 1) by decide +kernel) rfl
theorem x140_32 : WP d 140 32 [l0, l1] st h Q ↔ WP d 140 33 [l0, l1] (vI 24 :: st) h Q := wp_iconst (show (lcode 140)[32]? = some (.iconst 24) by decide +kernel)
theorem x140_33 : WP d 140 33 [l0, l1] (vI y :: vI x :: st) h Q ↔ ((wr y ≤ wr x → WP d 140 49 [l0, l1] st h Q) ∧ (¬ (wr y ≤ wr x) → WP d 140 34 [l0, l1] st h Q)) := wp_icmp_ge (show (lcode 140)[33]? = some (.if_icmp .ge 49) by decide +kernel)
theorem x140_34 : WP d 140 34 [some (Value.ref a), l1] st h Q ↔ WP d 140 35 [some (Value.ref a), l1] (Value.ref a :: st) h Q := wp_aload (show (lcode 140)[34]? = some (.aload 0) by decide +kernel) rfl
theorem x140_35 : WP d 140 35 [l0, l1] (.ref a :: st) h Q ↔ gF (hRd h a) 11 25 (fun v => WP d 140 36 [l0, l1] (v :: st) h Q) := wp_getfield (show (lcode 140)[35]? = some (.getfield 729) by decide +kernel)
theorem x140_36 : WP d 140 36 [l0, l1] st h Q ↔ WP d 140 37 [l0, l1] (vI 24 :: st) h Q := wp_iconst (show (lcode 140)[36]? = some (.iconst 24) by decide +kernel)
theorem x140_37 : WP d 140 37 [some (Value.ref a), l1] st h Q ↔ WP d 140 38 [some (Value.ref a), l1] (Value.ref a :: st) h Q := wp_aload (show (lcode 140)[37]? = some (.aload 0) by decide +kernel) rfl
theorem x140_38 : WP d 140 38 [l0, l1] (.ref a :: st) h Q ↔ gF (hRd h a) 11 24 (fun v => WP d 140 39 [l0, l1] (v :: st) h Q) := wp_getfield (show (lcode 140)[38]? = some (.getfield 728) by decide +kernel)
theorem x140_39 : WP d 140 39 [l0, l1] (vI y :: vI x :: st) h Q ↔ WP d 140 40 [l0, l1] (vI (x * y) :: st) h Q := wp_imul (show (lcode 140)[39]? = some (.imul) by decide +kernel)
theorem x140_40 : WP d 140 40 [l0, some (vI x)] st h Q ↔ WP d 140 41 [l0, some (vI x)] (vI x :: st) h Q := wp_iload (show (lcode 140)[40]? = some (.iload 1) by decide +kernel) rfl
theorem x140_41 : WP d 140 41 [l0, l1] (vI y :: vI x :: st) h Q ↔ WP d 140 42 [l0, l1] (vI (x + y) :: st) h Q := wp_iadd (show (lcode 140)[41]? = some (.iadd) by decide +kernel)
theorem x140_42 : WP d 140 42 [some (Value.ref a), l1] st h Q ↔ WP d 140 43 [some (Value.ref a), l1] (Value.ref a :: st) h Q := wp_aload (show (lcode 140)[42]? = some (.aload 0) by decide +kernel) rfl
theorem x140_43 : WP d 140 43 [l0, l1] (.ref a :: st) h Q ↔ gF (hRd h a) 11 6 (fun v => WP d 140 44 [l0, l1] (v :: st) h Q) := wp_getfield (show (lcode 140)[43]? = some (.getfield 710) by decide +kernel)
theorem x140_44 : WP d 140 44 [l0, some (vI x)] st h Q ↔ WP d 140 45 [l0, some (vI x)] (vI x :: st) h Q := wp_iload (show (lcode 140)[44]? = some (.iload 1) by decide +kernel) rfl
theorem x140_45 : WP d 140 45 [l0, l1] (vI x :: .ref a :: st) h Q ↔ ldA (hRd h a) x (fun v => WP d 140 46 [l0, l1] (v :: st) h Q) := wp_iaload (show (lcode 140)[45]? = some (.iaload) by decide +kernel)
theorem x140_46 : WP d 140 46 [l0, l1] (vI y :: vI x :: .ref a :: st) h Q ↔ stA (hRd h a) a x (vI y) (fun c => WP d 140 47 [l0, l1] st (hWr h a c) Q) := wp_iastore (show (lcode 140)[46]? = some (.iastore) by decide +kernel)
theorem x140_47 : WP d 140 47 [l0, some (vI x)] st h Q ↔ (nl l0 ∧ WP d 140 48 [l0, some (vI (x + 1))] st h Q) := wp_iinc (show (lcode 140)[47]? = some (.iinc 1 1) by decide +kernel) rfl (Nat.le_of_ble_eq_true rfl)
theorem x140_48 : WP d 140 48 [l0, l1] st h Q ↔ WP d 140 30 [l0, l1] st h Q := wp_goto (show (lcode 140)[48]? = some (.goto 30) by decide +kernel)
theorem x140_49 : WP d 140 49 [some (Value.ref a), l1] st h Q ↔ WP d 140 50 [some (Value.ref a), l1] (Value.ref a :: st) h Q := wp_aload (show (lcode 140)[49]? = some (.aload 0) by decide +kernel) rfl
theorem x140_50 : WP d 140 50 [l0, l1] (v :: st) h Q ↔ (c1 v ∧ WP d 140 51 [l0, l1] (v :: v :: st) h Q) := wp_dup (show (lcode 140)[50]? = some (.dup) by decide +kernel)
theorem x140_51 : WP d 140 51 [l0, l1] (.ref a :: st) h Q ↔ gF (hRd h a) 11 24 (fun v => WP d 140 52 [l0, l1] (v :: st) h Q) := wp_getfield (show (lcode 140)[51]? = some (.getfield 728) by decide +kernel)
theorem x140_52 : WP d 140 52 [l0, l1] st h Q ↔ WP d 140 53 [l0, l1] (vI 1 :: st) h Q := wp_iconst (show (lcode 140)[52]? = some (.iconst 1) by decide +kernel)
theorem x140_53 : WP d 140 53 [l0, l1] (vI y :: vI x :: st) h Q ↔ WP d 140 54 [l0, l1] (vI (x + y) :: st) h Q := wp_iadd (show (lcode 140)[53]? = some (.iadd) by decide +kernel)
theorem x140_54 : WP d 140 54 [l0, l1] (vI x :: .ref a :: st) h Q ↔ pF (hRd h a) 11 24 (vI x) (fun c => WP d 140 55 [l0, l1] st (hWr h a c) Q) := wp_putfield (show (lcode 140)[54]? = some (.putfield 728) by decide +kernel)
theorem x140_55 : WP d 140 55 [l0, l1] [] h Q ↔ Q none h := wp_return (show (lcode 140)[55]? = some (.return_) by decide +kernel)
-- 141: WakeOrderModel.takeOut
theorem x141_0 : WP d 141 0 [l0, some (vI x), l2] st h Q ↔ WP d 141 1 [l0, some (vI x), l2] (vI x :: st) h Q := wp_iload (show (lcode 141)[0]? = some (.iload 1) by decide +kernel) rfl
theorem x141_1 : WP d 141 1 [l0, l1, l2] (vI x :: st) h Q ↔ (nl l1 ∧ WP d 141 2 [l0, l1, some (vI x)] st h Q) := wp_istore (show (lcode 141)[1]? = some (.istore 2) by decide +kernel) (Nat.le_of_ble_eq_true rfl)
theorem x141_2 : WP d 141 2 [l0, l1, l2] st h Q ↔ WPC d 141 3 [l0, l1, l2] st h Q := wp_nop (show (lcode 141)[2]? = some (.nop) by decide +kernel)
theorem x141_3 : WP d 141 3 [l0, l1, some (vI x)] st h Q ↔ WP d 141 4 [l0, l1, some (vI x)] (vI x :: st) h Q := wp_iload (show (lcode 141)[3]? = some (.iload 2) by decide +kernel) rfl
theorem x141_4 : WP d 141 4 [some (Value.ref a), l1, l2] st h Q ↔ WP d 141 5 [some (Value.ref a), l1, l2] (Value.ref a :: st) h Q := wp_aload (show (lcode 141)[4]? = some (.aload 0) by decide +kernel) rfl
theorem x141_5 : WP d 141 5 [l0, l1, l2] (.ref a :: st) h Q ↔ gF (hRd h a) 11 6 (fun v => WP d 141 6 [l0, l1, l2] (v :: st) h Q) := wp_getfield (show (lcode 141)[5]? = some (.getfield 710) by decide +kernel)
theorem x141_6 : WP d 141 6 [l0, l1, l2] st h Q ↔ WP d 141 7 [l0, l1, l2] (vI 6 :: st) h Q := wp_iconst (show (lcode 141)[6]? = some (.iconst 6) by decide +kernel)
theorem x141_7 : WP d 141 7 [l0, l1, l2] (vI x :: .ref a :: st) h Q ↔ ldA (hRd h a) x (fun v => WP d 141 8 [l0, l1, l2] (v :: st) h Q) := wp_iaload (show (lcode 141)[7]? = some (.iaload) by decide +kernel)
theorem x141_8 : WP d 141 8 [l0, l1, l2] st h Q ↔ WP d 141 9 [l0, l1, l2] (vI 1 :: st) h Q := wp_iconst (show (lcode 141)[8]? = some (.iconst 1) by decide +kernel)
theorem x141_9 : WP d 141 9 [l0, l1, l2] (vI y :: vI x :: st) h Q ↔ WP d 141 10 [l0, l1, l2] (vI (x - y) :: st) h Q := wp_isub (show (lcode 141)[9]? = some (.isub) by decide +kernel)
theorem x141_10 : WP d 141 10 [l0, l1, l2] (vI y :: vI x :: st) h Q ↔ ((wr y ≤ wr x → WP d 141 23 [l0, l1, l2] st h Q) ∧ (¬ (wr y ≤ wr x) → WP d 141 11 [l0, l1, l2] st h Q)) := wp_icmp_ge (show (lcode 141)[10]? = some (.if_icmp .ge 23) by decide +kernel)
theorem x141_11 : WP d 141 11 [some (Value.ref a), l1, l2] st h Q ↔ WP d 141 12 [some (Value.ref a), l1, l2] (Value.ref a :: st) h Q := wp_aload (show (lcode 141)[11]? = some (.aload 0) by decide +kernel) rfl
theorem x141_12 : WP d 141 12 [l0, l1, l2] (.ref a :: st) h Q ↔ gF (hRd h a) 11 6 (fun v => WP d 141 13 [l0, l1, l2] (v :: st) h Q) := wp_getfield (show (lcode 141)[12]? = some (.getfield 710) by decide +kernel)
theorem x141_13 : WP d 141 13 [l0, l1, some (vI x)] st h Q ↔ WP d 141 14 [l0, l1, some (vI x)] (vI x :: st) h Q := wp_iload (show (lcode 141)[13]? = some (.iload 2) by decide +kernel) rfl
theorem x141_14 : WP d 141 14 [some (Value.ref a), l1, l2] st h Q ↔ WP d 141 15 [some (Value.ref a), l1, l2] (Value.ref a :: st) h Q := wp_aload (show (lcode 141)[14]? = some (.aload 0) by decide +kernel) rfl
theorem x141_15 : WP d 141 15 [l0, l1, l2] (.ref a :: st) h Q ↔ gF (hRd h a) 11 6 (fun v => WP d 141 16 [l0, l1, l2] (v :: st) h Q) := wp_getfield (show (lcode 141)[15]? = some (.getfield 710) by decide +kernel)
theorem x141_16 : WP d 141 16 [l0, l1, some (vI x)] st h Q ↔ WP d 141 17 [l0, l1, some (vI x)] (vI x :: st) h Q := wp_iload (show (lcode 141)[16]? = some (.iload 2) by decide +kernel) rfl
theorem x141_17 : WP d 141 17 [l0, l1, l2] st h Q ↔ WP d 141 18 [l0, l1, l2] (vI 1 :: st) h Q := wp_iconst (show (lcode 141)[17]? = some (.iconst 1) by decide +kernel)
theorem x141_18 : WP d 141 18 [l0, l1, l2] (vI y :: vI x :: st) h Q ↔ WP d 141 19 [l0, l1, l2] (vI (x + y) :: st) h Q := wp_iadd (show (lcode 141)[18]? = some (.iadd) by decide +kernel)
theorem x141_19 : WP d 141 19 [l0, l1, l2] (vI x :: .ref a :: st) h Q ↔ ldA (hRd h a) x (fun v => WP d 141 20 [l0, l1, l2] (v :: st) h Q) := wp_iaload (show (lcode 141)[19]? = some (.iaload) by decide +kernel)
theorem x141_20 : WP d 141 20 [l0, l1, l2] (vI y :: vI x :: .ref a :: st) h Q ↔ stA (hRd h a) a x (vI y) (fun c => WP d 141 21 [l0, l1, l2] st (hWr h a c) Q) := wp_iastore (show (lcode 141)[20]? = some (.iastore) by decide +kernel)
theorem x141_21 : WP d 141 21 [l0, l1, some (vI x)] st h Q ↔ (nl l1 ∧ WP d 141 22 [l0, l1, some (vI (x + 1))] st h Q) := wp_iinc (show (lcode 141)[21]? = some (.iinc 2 1) by decide +kernel) rfl (Nat.le_of_ble_eq_true rfl)
theorem x141_22 : WP d 141 22 [l0, l1, l2] st h Q ↔ WP d 141 2 [l0, l1, l2] st h Q := wp_goto (show (lcode 141)[22]? = some (.goto 2) by decide +kernel)
theorem x141_23 : WP d 141 23 [some (Value.ref a), l1, l2] st h Q ↔ WP d 141 24 [some (Value.ref a), l1, l2] (Value.ref a :: st) h Q := wp_aload (show (lcode 141)[23]? = some (.aload 0) by decide +kernel) rfl
theorem x141_24 : WP d 141 24 [l0, l1, l2] (.ref a :: st) h Q ↔ gF (hRd h a) 11 6 (fun v => WP d 141 25 [l0, l1, l2] (v :: st) h Q) := wp_getfield (show (lcode 141)[24]? = some (.getfield 710) by decide +kernel)
theorem x141_25 : WP d 141 25 [l0, l1, l2] st h Q ↔ WP d 141 26 [l0, l1, l2] (vI 6 :: st) h Q := wp_iconst (show (lcode 141)[25]? = some (.iconst 6) by decide +kernel)
theorem x141_26 : WP d 141 26 [l0, l1, l2] (v :: v1 :: st) h Q ↔ ((c1 v ∧ c1 v1) ∧ WP d 141 27 [l0, l1, l2] (v :: v1 :: v :: v1 :: st) h Q) := wp_dup2 (show (lcode 141)[26]? = some (.dup2) by decide +kernel)
theorem x141_27 : WP d 141 27 [l0, l1, l2] (vI x :: .ref a :: st) h Q ↔ ldA (hRd h a) x (fun v => WP d 141 28 [l0, l1, l2] (v :: st) h Q) := wp_iaload (show (lcode 141)[27]? = some (.iaload) by decide +kernel)
theorem x141_28 : WP d 141 28 [l0, l1, l2] st h Q ↔ WP d 141 29 [l0, l1, l2] (vI 1 :: st) h Q := wp_iconst (show (lcode 141)[28]? = some (.iconst 1) by decide +kernel)
theorem x141_29 : WP d 141 29 [l0, l1, l2] (vI y :: vI x :: st) h Q ↔ WP d 141 30 [l0, l1, l2] (vI (x - y) :: st) h Q := wp_isub (show (lcode 141)[29]? = some (.isub) by decide +kernel)
theorem x141_30 : WP d 141 30 [l0, l1, l2] (vI y :: vI x :: .ref a :: st) h Q ↔ stA (hRd h a) a x (vI y) (fun c => WP d 141 31 [l0, l1, l2] st (hWr h a c) Q) := wp_iastore (show (lcode 141)[30]? = some (.iastore) by decide +kernel)
theorem x141_31 : WP d 141 31 [l0, l1, l2] [] h Q ↔ Q none h := wp_return (show (lcode 141)[31]? = some (.return_) by decide +kernel)
-- 142: WakeOrderModel.putIn
theorem x142_0 : WP d 142 0 [some (Value.ref a), l1, l2, l3] st h Q ↔ WP d 142 1 [some (Value.ref a), l1, l2, l3] (Value.ref a :: st) h Q := wp_aload (show (lcode 142)[0]? = some (.aload 0) by decide +kernel) rfl
theorem x142_1 : WP d 142 1 [l0, l1, l2, l3] (.ref a :: st) h Q ↔ gF (hRd h a) 11 6 (fun v => WP d 142 2 [l0, l1, l2, l3] (v :: st) h Q) := wp_getfield (show (lcode 142)[1]? = some (.getfield 710) by decide +kernel)
theorem x142_2 : WP d 142 2 [l0, l1, l2, l3] st h Q ↔ WP d 142 3 [l0, l1, l2, l3] (vI 6 :: st) h Q := wp_iconst (show (lcode 142)[2]? = some (.iconst 6) by decide +kernel)
theorem x142_3 : WP d 142 3 [l0, l1, l2, l3] (vI x :: .ref a :: st) h Q ↔ ldA (hRd h a) x (fun v => WP d 142 4 [l0, l1, l2, l3] (v :: st) h Q) := wp_iaload (show (lcode 142)[3]? = some (.iaload) by decide +kernel)
theorem x142_4 : WP d 142 4 [l0, l1, l2, l3] (vI x :: st) h Q ↔ (nl l2 ∧ WP d 142 5 [l0, l1, l2, some (vI x)] st h Q) := wp_istore (show (lcode 142)[4]? = some (.istore 3) by decide +kernel) (Nat.le_of_ble_eq_true rfl)
theorem x142_5 : WP d 142 5 [l0, l1, l2, l3] st h Q ↔ WPC d 142 6 [l0, l1, l2, l3] st h Q := wp_nop (show (lcode 142)[5]? = some (.nop) by decide +kernel)
theorem x142_6 : WP d 142 6 [l0, l1, l2, some (vI x)] st h Q ↔ WP d 142 7 [l0, l1, l2, some (vI x)] (vI x :: st) h Q := wp_iload (show (lcode 142)[6]? = some (.iload 3) by decide +kernel) rfl
theorem x142_7 : WP d 142 7 [l0, l1, some (vI x), l3] st h Q ↔ WP d 142 8 [l0, l1, some (vI x), l3] (vI x :: st) h Q := wp_iload (show (lcode 142)[7]? = some (.iload 2) by decide +kernel) rfl
theorem x142_8 : WP d 142 8 [l0, l1, l2, l3] (vI y :: vI x :: st) h Q ↔ ((wr x ≤ wr y → WP d 142 21 [l0, l1, l2, l3] st h Q) ∧ (¬ (wr x ≤ wr y) → WP d 142 9 [l0, l1, l2, l3] st h Q)) := wp_icmp_le (show (lcode 142)[8]? = some (.if_icmp .le 21) by decide +kernel)
theorem x142_9 : WP d 142 9 [some (Value.ref a), l1, l2, l3] st h Q ↔ WP d 142 10 [some (Value.ref a), l1, l2, l3] (Value.ref a :: st) h Q := wp_aload (show (lcode 142)[9]? = some (.aload 0) by decide +kernel) rfl
theorem x142_10 : WP d 142 10 [l0, l1, l2, l3] (.ref a :: st) h Q ↔ gF (hRd h a) 11 6 (fun v => WP d 142 11 [l0, l1, l2, l3] (v :: st) h Q) := wp_getfield (show (lcode 142)[10]? = some (.getfield 710) by decide +kernel)
theorem x142_11 : WP d 142 11 [l0, l1, l2, some (vI x)] st h Q ↔ WP d 142 12 [l0, l1, l2, some (vI x)] (vI x :: st) h Q := wp_iload (show (lcode 142)[11]? = some (.iload 3) by decide +kernel) rfl
theorem x142_12 : WP d 142 12 [some (Value.ref a), l1, l2, l3] st h Q ↔ WP d 142 13 [some (Value.ref a), l1, l2, l3] (Value.ref a :: st) h Q := wp_aload (show (lcode 142)[12]? = some (.aload 0) by decide +kernel) rfl
theorem x142_13 : WP d 142 13 [l0, l1, l2, l3] (.ref a :: st) h Q ↔ gF (hRd h a) 11 6 (fun v => WP d 142 14 [l0, l1, l2, l3] (v :: st) h Q) := wp_getfield (show (lcode 142)[13]? = some (.getfield 710) by decide +kernel)
theorem x142_14 : WP d 142 14 [l0, l1, l2, some (vI x)] st h Q ↔ WP d 142 15 [l0, l1, l2, some (vI x)] (vI x :: st) h Q := wp_iload (show (lcode 142)[14]? = some (.iload 3) by decide +kernel) rfl
theorem x142_15 : WP d 142 15 [l0, l1, l2, l3] st h Q ↔ WP d 142 16 [l0, l1, l2, l3] (vI 1 :: st) h Q := wp_iconst (show (lcode 142)[15]? = some (.iconst 1) by decide +kernel)
theorem x142_16 : WP d 142 16 [l0, l1, l2, l3] (vI y :: vI x :: st) h Q ↔ WP d 142 17 [l0, l1, l2, l3] (vI (x - y) :: st) h Q := wp_isub (show (lcode 142)[16]? = some (.isub) by decide +kernel)
theorem x142_17 : WP d 142 17 [l0, l1, l2, l3] (vI x :: .ref a :: st) h Q ↔ ldA (hRd h a) x (fun v => WP d 142 18 [l0, l1, l2, l3] (v :: st) h Q) := wp_iaload (show (lcode 142)[17]? = some (.iaload) by decide +kernel)
theorem x142_18 : WP d 142 18 [l0, l1, l2, l3] (vI y :: vI x :: .ref a :: st) h Q ↔ stA (hRd h a) a x (vI y) (fun c => WP d 142 19 [l0, l1, l2, l3] st (hWr h a c) Q) := wp_iastore (show (lcode 142)[18]? = some (.iastore) by decide +kernel)
theorem x142_19 : WP d 142 19 [l0, l1, l2, some (vI x)] st h Q ↔ (nl l2 ∧ WP d 142 20 [l0, l1, l2, some (vI (x + (-1)))] st h Q) := wp_iinc (show (lcode 142)[19]? = some (.iinc 3 (-1)) by decide +kernel) rfl (Nat.le_of_ble_eq_true rfl)
theorem x142_20 : WP d 142 20 [l0, l1, l2, l3] st h Q ↔ WP d 142 5 [l0, l1, l2, l3] st h Q := wp_goto (show (lcode 142)[20]? = some (.goto 5) by decide +kernel)
theorem x142_21 : WP d 142 21 [some (Value.ref a), l1, l2, l3] st h Q ↔ WP d 142 22 [some (Value.ref a), l1, l2, l3] (Value.ref a :: st) h Q := wp_aload (show (lcode 142)[21]? = some (.aload 0) by decide +kernel) rfl
theorem x142_22 : WP d 142 22 [l0, l1, l2, l3] (.ref a :: st) h Q ↔ gF (hRd h a) 11 6 (fun v => WP d 142 23 [l0, l1, l2, l3] (v :: st) h Q) := wp_getfield (show (lcode 142)[22]? = some (.getfield 710) by decide +kernel)
theorem x142_23 : WP d 142 23 [l0, l1, some (vI x), l3] st h Q ↔ WP d 142 24 [l0, l1, some (vI x), l3] (vI x :: st) h Q := wp_iload (show (lcode 142)[23]? = some (.iload 2) by decide +kernel) rfl
theorem x142_24 : WP d 142 24 [l0, some (vI x), l2, l3] st h Q ↔ WP d 142 25 [l0, some (vI x), l2, l3] (vI x :: st) h Q := wp_iload (show (lcode 142)[24]? = some (.iload 1) by decide +kernel) rfl
theorem x142_25 : WP d 142 25 [l0, l1, l2, l3] (vI y :: vI x :: .ref a :: st) h Q ↔ stA (hRd h a) a x (vI y) (fun c => WP d 142 26 [l0, l1, l2, l3] st (hWr h a c) Q) := wp_iastore (show (lcode 142)[25]? = some (.iastore) by decide +kernel)
theorem x142_26 : WP d 142 26 [some (Value.ref a), l1, l2, l3] st h Q ↔ WP d 142 27 [some (Value.ref a), l1, l2, l3] (Value.ref a :: st) h Q := wp_aload (show (lcode 142)[26]? = some (.aload 0) by decide +kernel) rfl
theorem x142_27 : WP d 142 27 [l0, l1, l2, l3] (.ref a :: st) h Q ↔ gF (hRd h a) 11 6 (fun v => WP d 142 28 [l0, l1, l2, l3] (v :: st) h Q) := wp_getfield (show (lcode 142)[27]? = some (.getfield 710) by decide +kernel)
theorem x142_28 : WP d 142 28 [l0, l1, l2, l3] st h Q ↔ WP d 142 29 [l0, l1, l2, l3] (vI 6 :: st) h Q := wp_iconst (show (lcode 142)[28]? = some (.iconst 6) by decide +kernel)
theorem x142_29 : WP d 142 29 [l0, l1, l2, l3] (v :: v1 :: st) h Q ↔ ((c1 v ∧ c1 v1) ∧ WP d 142 30 [l0, l1, l2, l3] (v :: v1 :: v :: v1 :: st) h Q) := wp_dup2 (show (lcode 142)[29]? = some (.dup2) by decide +kernel)
theorem x142_30 : WP d 142 30 [l0, l1, l2, l3] (vI x :: .ref a :: st) h Q ↔ ldA (hRd h a) x (fun v => WP d 142 31 [l0, l1, l2, l3] (v :: st) h Q) := wp_iaload (show (lcode 142)[30]? = some (.iaload) by decide +kernel)
theorem x142_31 : WP d 142 31 [l0, l1, l2, l3] st h Q ↔ WP d 142 32 [l0, l1, l2, l3] (vI 1 :: st) h Q := wp_iconst (show (lcode 142)[31]? = some (.iconst 1) by decide +kernel)
theorem x142_32 : WP d 142 32 [l0, l1, l2, l3] (vI y :: vI x :: st) h Q ↔ WP d 142 33 [l0, l1, l2, l3] (vI (x + y) :: st) h Q := wp_iadd (show (lcode 142)[32]? = some (.iadd) by decide +kernel)
theorem x142_33 : WP d 142 33 [l0, l1, l2, l3] (vI y :: vI x :: .ref a :: st) h Q ↔ stA (hRd h a) a x (vI y) (fun c => WP d 142 34 [l0, l1, l2, l3] st (hWr h a c) Q) := wp_iastore (show (lcode 142)[33]? = some (.iastore) by decide +kernel)
theorem x142_34 : WP d 142 34 [l0, l1, l2, l3] [] h Q ↔ Q none h := wp_return (show (lcode 142)[34]? = some (.return_) by decide +kernel)
-- 143: WakeOrderModel.rank
theorem x143_0 : WP d 143 0 [some (Value.ref a), l1, l2, l3] st h Q ↔ WP d 143 1 [some (Value.ref a), l1, l2, l3] (Value.ref a :: st) h Q := wp_aload (show (lcode 143)[0]? = some (.aload 0) by decide +kernel) rfl
theorem x143_1 : WP d 143 1 [l0, some (vI x), l2, l3] st h Q ↔ WP d 143 2 [l0, some (vI x), l2, l3] (vI x :: st) h Q := wp_iload (show (lcode 143)[1]? = some (.iload 1) by decide +kernel) rfl
theorem x143_2 : WP d 143 2 [l0, l1, l2, l3] (v1 :: v :: st) h Q ↔ (sh st ∧ CALL d 113 [v, v1] h (fun v h => WP d 143 3 [l0, l1, l2, l3] (v.toList ++ st) h Q)) := wp_call (n := 2) (show (lcode 143)[2]? = some (.invokestatic 113) by decide +kernel) (by decide +kernel) (by simp)
theorem x143_3 : WP d 143 3 [l0, l1, l2, l3] (vI x :: st) h Q ↔ ((¬ wr x = 0 → WP d 143 6 [l0, l1, l2, l3] st h Q) ∧ (¬ (¬ wr x = 0) → WP d 143 4 [l0, l1, l2, l3] st h Q)) := wp_if_ne (show (lcode 143)[3]? = some (.ifCond .ne 6) by decide +kernel)
theorem x143_4 : WP d 143 4 [l0, l1, l2, l3] st h Q ↔ WP d 143 5 [l0, l1, l2, l3] (vI (-1000000001) :: st) h Q := wp_iconst (show (lcode 143)[4]? = some (.iconst (-1000000001)) by decide +kernel)
theorem x143_5 : WP d 143 5 [l0, l1, l2, l3] [vI x] h Q ↔ Q (some (vI x)) h := wp_ireturn (show (lcode 143)[5]? = some (.ireturn) by decide +kernel)
theorem x143_6 : WP d 143 6 [l0, l1, some (vI x), l3] st h Q ↔ WP d 143 7 [l0, l1, some (vI x), l3] (vI x :: st) h Q := wp_iload (show (lcode 143)[6]? = some (.iload 2) by decide +kernel) rfl
theorem x143_7 : WP d 143 7 [l0, l1, l2, l3] (vI x :: st) h Q ↔ WP d 143 8 [l0, l1, l2, l3] (vL (wr x) :: st) h Q := wp_i2l (show (lcode 143)[7]? = some (.i2l) by decide +kernel)
theorem x143_8 : WP d 143 8 [l0, l1, l2, l3] st h Q ↔ WP d 143 9 [l0, l1, l2, l3] (vL 0 :: st) h Q := wp_lconst (show (lcode 143)[8]? = some (.jsr_w 0) by decide +kernel)
theorem x143_9 : WP d 143 9 [some (Value.ref a), l1, l2, l3] st h Q ↔ WP d 143 10 [some (Value.ref a), l1, l2, l3] (Value.ref a :: st) h Q := wp_aload (show (lcode 143)[9]? = some (.aload 0) by decide +kernel) rfl
theorem x143_10 : WP d 143 10 [l0, l1, l2, l3] (.ref a :: st) h Q ↔ gF (hRd h a) 11 6 (fun v => WP d 143 11 [l0, l1, l2, l3] (v :: st) h Q) := wp_getfield (show (lcode 143)[10]? = some (.getfield 710) by decide +kernel)
theorem x143_11 : WP d 143 11 [l0, l1, l2, l3] st h Q ↔ WP d 143 12 [l0, l1, l2, l3] (vI 6 :: st) h Q := wp_iconst (show (lcode 143)[11]? = some (.iconst 6) by decide +kernel)
theorem x143_12 : WP d 143 12 [l0, l1, l2, l3] (vI x :: .ref a :: st) h Q ↔ ldA (hRd h a) x (fun v => WP d 143 13 [l0, l1, l2, l3] (v :: st) h Q) := wp_iaload (show (lcode 143)[12]? = some (.iaload) by decide +kernel)
theorem x143_13 : WP d 143 13 [l0, l1, l2, l3] st h Q ↔ WP d 143 14 [l0, l1, l2, l3] (vI 1 :: st) h Q := wp_iconst (show (lcode 143)[13]? = some (.iconst 1) by decide +kernel)
theorem x143_14 : WP d 143 14 [l0, l1, l2, l3] (vI y :: vI x :: st) h Q ↔ WP d 143 15 [l0, l1, l2, l3] (vI (x - y) :: st) h Q := wp_isub (show (lcode 143)[14]? = some (.isub) by decide +kernel)
theorem x143_15 : WP d 143 15 [l0, l1, l2, l3] (vI x :: st) h Q ↔ WP d 143 16 [l0, l1, l2, l3] (vL (wr x) :: st) h Q := wp_i2l (show (lcode 143)[15]? = some (.i2l) by decide +kernel)
theorem x143_16 : WP d 143 16 [l0, l1, l2, l3] (v2 :: v1 :: v :: st) h Q ↔ (sh st ∧ CALL d 110 [v, v1, v2] h (fun v h => WP d 143 17 [l0, l1, l2, l3] (v.toList ++ st) h Q)) := wp_call (n := 3) (show (lcode 143)[16]? = some (.invokestatic 110) by decide +kernel) (by decide +kernel) (by simp)
theorem x143_17 : WP d 143 17 [l0, l1, l2, l3] (vI x :: st) h Q ↔ ((¬ wr x = 0 → WP d 143 20 [l0, l1, l2, l3] st h Q) ∧ (¬ (¬ wr x = 0) → WP d 143 18 [l0, l1, l2, l3] st h Q)) := wp_if_ne (show (lcode 143)[17]? = some (.ifCond .ne 20) by decide +kernel)
theorem x143_18 : WP d 143 18 [l0, l1, l2, l3] st h Q ↔ WP d 143 19 [l0, l1, l2, l3] (vI (-1000000002) :: st) h Q := wp_iconst (show (lcode 143)[18]? = some (.iconst (-1000000002)) by decide +kernel)
theorem x143_19 : WP d 143 19 [l0, l1, l2, l3] [vI x] h Q ↔ Q (some (vI x)) h := wp_ireturn (show (lcode 143)[19]? = some (.ireturn) by decide +kernel)
theorem x143_20 : WP d 143 20 [some (Value.ref a), l1, l2, l3] st h Q ↔ WP d 143 21 [some (Value.ref a), l1, l2, l3] (Value.ref a :: st) h Q := wp_aload (show (lcode 143)[20]? = some (.aload 0) by decide +kernel) rfl
theorem x143_21 : WP d 143 21 [l0, some (vI x), l2, l3] st h Q ↔ WP d 143 22 [l0, some (vI x), l2, l3] (vI x :: st) h Q := wp_iload (show (lcode 143)[21]? = some (.iload 1) by decide +kernel) rfl
theorem x143_22 : WP d 143 22 [l0, l1, l2, l3] (v1 :: v :: st) h Q ↔ (sh st ∧ CALL d 135 [v, v1] h (fun v h => WP d 143 23 [l0, l1, l2, l3] (v.toList ++ st) h Q)) := wp_call (n := 2) (show (lcode 143)[22]? = some (.invokestatic 135) by decide +kernel) (by decide +kernel) (by simp)
theorem x143_23 : WP d 143 23 [l0, l1, l2, l3] (vI x :: st) h Q ↔ (nl l2 ∧ WP d 143 24 [l0, l1, l2, some (vI x)] st h Q) := wp_istore (show (lcode 143)[23]? = some (.istore 3) by decide +kernel) (Nat.le_of_ble_eq_true rfl)
theorem x143_24 : WP d 143 24 [l0, l1, l2, some (vI x)] st h Q ↔ WP d 143 25 [l0, l1, l2, some (vI x)] (vI x :: st) h Q := wp_iload (show (lcode 143)[24]? = some (.iload 3) by decide +kernel) rfl
theorem x143_25 : WP d 143 25 [l0, l1, l2, l3] (vI x :: st) h Q ↔ ((0 ≤ wr x → WP d 143 28 [l0, l1, l2, l3] st h Q) ∧ (¬ (0 ≤ wr x) → WP d 143 26 [l0, l1, l2, l3] st h Q)) := wp_if_ge (show (lcode 143)[25]? = some (.ifCond .ge 28) by decide +kernel)
theorem x143_26 : WP d 143 26 [l0, l1, l2, l3] st h Q ↔ WP d 143 27 [l0, l1, l2, l3] (vI (-1000000003) :: st) h Q := wp_iconst (show (lcode 143)[26]? = some (.iconst (-1000000003)) by decide +kernel)
theorem x143_27 : WP d 143 27 [l0, l1, l2, l3] [vI x] h Q ↔ Q (some (vI x)) h := wp_ireturn (show (lcode 143)[27]? = some (.ireturn) by decide +kernel)
theorem x143_28 : WP d 143 28 [some (Value.ref a), l1, l2, l3] st h Q ↔ WP d 143 29 [some (Value.ref a), l1, l2, l3] (Value.ref a :: st) h Q := wp_aload (show (lcode 143)[28]? = some (.aload 0) by decide +kernel) rfl
theorem x143_29 : WP d 143 29 [l0, l1, l2, l3] (v :: st) h Q ↔ (sh st ∧ CALL d 140 [v] h (fun v h => WP d 143 30 [l0, l1, l2, l3] (v.toList ++ st) h Q)) := wp_call (n := 1) (show (lcode 143)[29]? = some (.invokestatic 140) by decide +kernel) (by decide +kernel) (by simp)
theorem x143_30 : WP d 143 30 [some (Value.ref a), l1, l2, l3] st h Q ↔ WP d 143 31 [some (Value.ref a), l1, l2, l3] (Value.ref a :: st) h Q := wp_aload (show (lcode 143)[30]? = some (.aload 0) by decide +kernel) rfl
theorem x143_31 : WP d 143 31 [l0, l1, l2, some (vI x)] st h Q ↔ WP d 143 32 [l0, l1, l2, some (vI x)] (vI x :: st) h Q := wp_iload (show (lcode 143)[31]? = some (.iload 3) by decide +kernel) rfl
theorem x143_32 : WP d 143 32 [l0, l1, l2, l3] (v1 :: v :: st) h Q ↔ (sh st ∧ CALL d 141 [v, v1] h (fun v h => WP d 143 33 [l0, l1, l2, l3] (v.toList ++ st) h Q)) := wp_call (n := 2) (show (lcode 143)[32]? = some (.invokestatic 141) by decide +kernel) (by decide +kernel) (by simp)
theorem x143_33 : WP d 143 33 [some (Value.ref a), l1, l2, l3] st h Q ↔ WP d 143 34 [some (Value.ref a), l1, l2, l3] (Value.ref a :: st) h Q := wp_aload (show (lcode 143)[33]? = some (.aload 0) by decide +kernel) rfl
theorem x143_34 : WP d 143 34 [l0, some (vI x), l2, l3] st h Q ↔ WP d 143 35 [l0, some (vI x), l2, l3] (vI x :: st) h Q := wp_iload (show (lcode 143)[34]? = some (.iload 1) by decide +kernel) rfl
theorem x143_35 : WP d 143 35 [l0, l1, some (vI x), l3] st h Q ↔ WP d 143 36 [l0, l1, some (vI x), l3] (vI x :: st) h Q := wp_iload (show (lcode 143)[35]? = some (.iload 2) by decide +kernel) rfl
theorem x143_36 : WP d 143 36 [l0, l1, l2, l3] (v2 :: v1 :: v :: st) h Q ↔ (sh st ∧ CALL d 142 [v, v1, v2] h (fun v h => WP d 143 37 [l0, l1, l2, l3] (v.toList ++ st) h Q)) := wp_call (n := 3) (show (lcode 143)[36]? = some (.invokestatic 142) by decide +kernel) (by decide +kernel) (by simp)
theorem x143_37 : WP d 143 37 [l0, l1, l2, some (vI x)] st h Q ↔ WP d 143 38 [l0, l1, l2, some (vI x)] (vI x :: st) h Q := wp_iload (show (lcode 143)[37]? = some (.iload 3) by decide +kernel) rfl
theorem x143_38 : WP d 143 38 [l0, l1, l2, l3] [vI x] h Q ↔ Q (some (vI x)) h := wp_ireturn (show (lcode 143)[38]? = some (.ireturn) by decide +kernel)
-- 144: WakeOrderModel.eyes
theorem x144_0 : WP d 144 0 [some (Value.ref a), l1, l2, l3] st h Q ↔ WP d 144 1 [some (Value.ref a), l1, l2, l3] (Value.ref a :: st) h Q := wp_aload (show (lcode 144)[0]? = some (.aload 0) by decide +kernel) rfl
theorem x144_1 : WP d 144 1 [l0, some (vI x), l2, l3] st h Q ↔ WP d 144 2 [l0, some (vI x), l2, l3] (vI x :: st) h Q := wp_iload (show (lcode 144)[1]? = some (.iload 1) by decide +kernel) rfl
theorem x144_2 : WP d 144 2 [l0, l1, l2, l3] (v1 :: v :: st) h Q ↔ (sh st ∧ CALL d 113 [v, v1] h (fun v h => WP d 144 3 [l0, l1, l2, l3] (v.toList ++ st) h Q)) := wp_call (n := 2) (show (lcode 144)[2]? = some (.invokestatic 113) by decide +kernel) (by decide +kernel) (by simp)
theorem x144_3 : WP d 144 3 [l0, l1, l2, l3] (vI x :: st) h Q ↔ ((¬ wr x = 0 → WP d 144 6 [l0, l1, l2, l3] st h Q) ∧ (¬ (¬ wr x = 0) → WP d 144 4 [l0, l1, l2, l3] st h Q)) := wp_if_ne (show (lcode 144)[3]? = some (.ifCond .ne 6) by decide +kernel)
theorem x144_4 : WP d 144 4 [l0, l1, l2, l3] st h Q ↔ WP d 144 5 [l0, l1, l2, l3] (vI (-1000000001) :: st) h Q := wp_iconst (show (lcode 144)[4]? = some (.iconst (-1000000001)) by decide +kernel)
theorem x144_5 : WP d 144 5 [l0, l1, l2, l3] [vI x] h Q ↔ Q (some (vI x)) h := wp_ireturn (show (lcode 144)[5]? = some (.ireturn) by decide +kernel)
theorem x144_6 : WP d 144 6 [some (Value.ref a), l1, l2, l3] st h Q ↔ WP d 144 7 [some (Value.ref a), l1, l2, l3] (Value.ref a :: st) h Q := wp_aload (show (lcode 144)[6]? = some (.aload 0) by decide +kernel) rfl
theorem x144_7 : WP d 144 7 [l0, l1, l2, l3] (v :: st) h Q ↔ (sh st ∧ CALL d 140 [v] h (fun v h => WP d 144 8 [l0, l1, l2, l3] (v.toList ++ st) h Q)) := wp_call (n := 1) (show (lcode 144)[7]? = some (.invokestatic 140) by decide +kernel) (by decide +kernel) (by simp)
theorem x144_8 : WP d 144 8 [some (Value.ref a), l1, l2, l3] st h Q ↔ WP d 144 9 [some (Value.ref a), l1, l2, l3] (Value.ref a :: st) h Q := wp_aload (show (lcode 144)[8]? = some (.aload 0) by decide +kernel) rfl
theorem x144_9 : WP d 144 9 [l0, l1, l2, l3] (.ref a :: st) h Q ↔ gF (hRd h a) 11 6 (fun v => WP d 144 10 [l0, l1, l2, l3] (v :: st) h Q) := wp_getfield (show (lcode 144)[9]? = some (.getfield 710) by decide +kernel)
theorem x144_10 : WP d 144 10 [l0, l1, l2, l3] st h Q ↔ WP d 144 11 [l0, l1, l2, l3] (vI 7 :: st) h Q := wp_iconst (show (lcode 144)[10]? = some (.iconst 7) by decide +kernel)
theorem x144_11 : WP d 144 11 [l0, l1, l2, l3] (vI x :: .ref a :: st) h Q ↔ ldA (hRd h a) x (fun v => WP d 144 12 [l0, l1, l2, l3] (v :: st) h Q) := wp_iaload (show (lcode 144)[11]? = some (.iaload) by decide +kernel)
theorem x144_12 : WP d 144 12 [l0, some (vI x), l2, l3] st h Q ↔ WP d 144 13 [l0, some (vI x), l2, l3] (vI x :: st) h Q := wp_iload (show (lcode 144)[12]? = some (.iload 1) by decide +kernel) rfl
theorem x144_13 : WP d 144 13 [l0, l1, l2, l3] (vI y :: vI x :: st) h Q ↔ WP d 144 14 [l0, l1, l2, l3] (vI (zshr x y) :: st) h Q := wp_ishr (show (lcode 144)[13]? = some (.ishr) by decide +kernel)
theorem x144_14 : WP d 144 14 [l0, l1, l2, l3] st h Q ↔ WP d 144 15 [l0, l1, l2, l3] (vI 1 :: st) h Q := wp_iconst (show (lcode 144)[14]? = some (.iconst 1) by decide +kernel)
theorem x144_15 : WP d 144 15 [l0, l1, l2, l3] (vI y :: vI x :: st) h Q ↔ WP d 144 16 [l0, l1, l2, l3] (vI (zand x y) :: st) h Q := wp_iand (show (lcode 144)[15]? = some (.iand) by decide +kernel)
theorem x144_16 : WP d 144 16 [l0, l1, l2, l3] (vI x :: st) h Q ↔ (nl l2 ∧ WP d 144 17 [l0, l1, l2, some (vI x)] st h Q) := wp_istore (show (lcode 144)[16]? = some (.istore 3) by decide +kernel) (Nat.le_of_ble_eq_true rfl)
theorem x144_17 : WP d 144 17 [some (Value.ref a), l1, l2, l3] st h Q ↔ WP d 144 18 [some (Value.ref a), l1, l2, l3] (Value.ref a :: st) h Q := wp_aload (show (lcode 144)[17]? = some (.aload 0) by decide +kernel) rfl
theorem x144_18 : WP d 144 18 [l0, l1, l2, l3] (.ref a :: st) h Q ↔ gF (hRd h a) 11 6 (fun v => WP d 144 19 [l0, l1, l2, l3] (v :: st) h Q) := wp_getfield (show (lcode 144)[18]? = some (.getfield 710) by decide +kernel)
theorem x144_19 : WP d 144 19 [l0, l1, l2, l3] st h Q ↔ WP d 144 20 [l0, l1, l2, l3] (vI 7 :: st) h Q := wp_iconst (show (lcode 144)[19]? = some (.iconst 7) by decide +kernel)
theorem x144_20 : WP d 144 20 [l0, l1, some (vI x), l3] st h Q ↔ WP d 144 21 [l0, l1, some (vI x), l3] (vI x :: st) h Q := wp_iload (show (lcode 144)[20]? = some (.iload 2) by decide +kernel) rfl
theorem x144_21 : WP d 144 21 [l0, l1, l2, l3] (vI x :: st) h Q ↔ ((wr x = 0 → WP d 144 31 [l0, l1, l2, l3] st h Q) ∧ (¬ (wr x = 0) → WP d 144 22 [l0, l1, l2, l3] st h Q)) := wp_if_eq (show (lcode 144)[21]? = some (.ifCond .eq 31) by decide +kernel)
theorem x144_22 : WP d 144 22 [some (Value.ref a), l1, l2, l3] st h Q ↔ WP d 144 23 [some (Value.ref a), l1, l2, l3] (Value.ref a :: st) h Q := wp_aload (show (lcode 144)[22]? = some (.aload 0) by decide +kernel) rfl
theorem x144_23 : WP d 144 23 [l0, l1, l2, l3] (.ref a :: st) h Q ↔ gF (hRd h a) 11 6 (fun v => WP d 144 24 [l0, l1, l2, l3] (v :: st) h Q) := wp_getfield (show (lcode 144)[23]? = some (.getfield 710) by decide +kernel)
theorem x144_24 : WP d 144 24 [l0, l1, l2, l3] st h Q ↔ WP d 144 25 [l0, l1, l2, l3] (vI 7 :: st) h Q := wp_iconst (show (lcode 144)[24]? = some (.iconst 7) by decide +kernel)
theorem x144_25 : WP d 144 25 [l0, l1, l2, l3] (vI x :: .ref a :: st) h Q ↔ ldA (hRd h a) x (fun v => WP d 144 26 [l0, l1, l2, l3] (v :: st) h Q) := wp_iaload (show (lcode 144)[25]? = some (.iaload) by decide +kernel)
theorem x144_26 : WP d 144 26 [l0, l1, l2, l3] st h Q ↔ WP d 144 27 [l0, l1, l2, l3] (vI 1 :: st) h Q := wp_iconst (show (lcode 144)[26]? = some (.iconst 1) by decide +kernel)
theorem x144_27 : WP d 144 27 [l0, some (vI x), l2, l3] st h Q ↔ WP d 144 28 [l0, some (vI x), l2, l3] (vI x :: st) h Q := wp_iload (show (lcode 144)[27]? = some (.iload 1) by decide +kernel) rfl
theorem x144_28 : WP d 144 28 [l0, l1, l2, l3] (vI y :: vI x :: st) h Q ↔ WP d 144 29 [l0, l1, l2, l3] (vI (zshl x y) :: st) h Q := wp_ishl (show (lcode 144)[28]? = some (.ishl) by decide +kernel)
theorem x144_29 : WP d 144 29 [l0, l1, l2, l3] (vI y :: vI x :: st) h Q ↔ WP d 144 30 [l0, l1, l2, l3] (vI (zor x y) :: st) h Q := wp_ior (show (lcode 144)[29]? = some (.ior) by decide +kernel)
theorem x144_30 : WP d 144 30 [l0, l1, l2, l3] st h Q ↔ WP d 144 41 [l0, l1, l2, l3] st h Q := wp_goto (show (lcode 144)[30]? = some (.goto 41) by decide +kernel)
theorem x144_31 : WP d 144 31 [some (Value.ref a), l1, l2, l3] st h Q ↔ WP d 144 32 [some (Value.ref a), l1, l2, l3] (Value.ref a :: st) h Q := wp_aload (show (lcode 144)[31]? = some (.aload 0) by decide +kernel) rfl
theorem x144_32 : WP d 144 32 [l0, l1, l2, l3] (.ref a :: st) h Q ↔ gF (hRd h a) 11 6 (fun v => WP d 144 33 [l0, l1, l2, l3] (v :: st) h Q) := wp_getfield (show (lcode 144)[32]? = some (.getfield 710) by decide +kernel)
theorem x144_33 : WP d 144 33 [l0, l1, l2, l3] st h Q ↔ WP d 144 34 [l0, l1, l2, l3] (vI 7 :: st) h Q := wp_iconst (show (lcode 144)[33]? = some (.iconst 7) by decide +kernel)
theorem x144_34 : WP d 144 34 [l0, l1, l2, l3] (vI x :: .ref a :: st) h Q ↔ ldA (hRd h a) x (fun v => WP d 144 35 [l0, l1, l2, l3] (v :: st) h Q) := wp_iaload (show (lcode 144)[34]? = some (.iaload) by decide +kernel)
theorem x144_35 : WP d 144 35 [l0, l1, l2, l3] st h Q ↔ WP d 144 36 [l0, l1, l2, l3] (vI 1 :: st) h Q := wp_iconst (show (lcode 144)[35]? = some (.iconst 1) by decide +kernel)
theorem x144_36 : WP d 144 36 [l0, some (vI x), l2, l3] st h Q ↔ WP d 144 37 [l0, some (vI x), l2, l3] (vI x :: st) h Q := wp_iload (show (lcode 144)[36]? = some (.iload 1) by decide +kernel) rfl
theorem x144_37 : WP d 144 37 [l0, l1, l2, l3] (vI y :: vI x :: st) h Q ↔ WP d 144 38 [l0, l1, l2, l3] (vI (zshl x y) :: st) h Q := wp_ishl (show (lcode 144)[37]? = some (.ishl) by decide +kernel)
theorem x144_38 : WP d 144 38 [l0, l1, l2, l3] st h Q ↔ WP d 144 39 [l0, l1, l2, l3] (vI (-1) :: st) h Q := wp_iconst (show (lcode 144)[38]? = some (.iconst (-1)) by decide +kernel)
theorem x144_39 : WP d 144 39 [l0, l1, l2, l3] (vI y :: vI x :: st) h Q ↔ WP d 144 40 [l0, l1, l2, l3] (vI (zxor x y) :: st) h Q := wp_ixor (show (lcode 144)[39]? = some (.ixor) by decide +kernel)
theorem x144_40 : WP d 144 40 [l0, l1, l2, l3] (vI y :: vI x :: st) h Q ↔ WP d 144 41 [l0, l1, l2, l3] (vI (zand x y) :: st) h Q := wp_iand (show (lcode 144)[40]? = some (.iand) by decide +kernel)
theorem x144_41 : WP d 144 41 [l0, l1, l2, l3] (vI y :: vI x :: .ref a :: st) h Q ↔ stA (hRd h a) a x (vI y) (fun c => WP d 144 42 [l0, l1, l2, l3] st (hWr h a c) Q) := wp_iastore (show (lcode 144)[41]? = some (.iastore) by decide +kernel)
theorem x144_42 : WP d 144 42 [l0, l1, l2, some (vI x)] st h Q ↔ WP d 144 43 [l0, l1, l2, some (vI x)] (vI x :: st) h Q := wp_iload (show (lcode 144)[42]? = some (.iload 3) by decide +kernel) rfl
theorem x144_43 : WP d 144 43 [l0, l1, l2, l3] [vI x] h Q ↔ Q (some (vI x)) h := wp_ireturn (show (lcode 144)[43]? = some (.ireturn) by decide +kernel)
-- 145: WakeOrderModel.hand
theorem x145_0 : WP d 145 0 [some (Value.ref a), l1, l2, l3] st h Q ↔ WP d 145 1 [some (Value.ref a), l1, l2, l3] (Value.ref a :: st) h Q := wp_aload (show (lcode 145)[0]? = some (.aload 0) by decide +kernel) rfl
theorem x145_1 : WP d 145 1 [l0, some (vI x), l2, l3] st h Q ↔ WP d 145 2 [l0, some (vI x), l2, l3] (vI x :: st) h Q := wp_iload (show (lcode 145)[1]? = some (.iload 1) by decide +kernel) rfl
theorem x145_2 : WP d 145 2 [l0, l1, l2, l3] (v1 :: v :: st) h Q ↔ (sh st ∧ CALL d 114 [v, v1] h (fun v h => WP d 145 3 [l0, l1, l2, l3] (v.toList ++ st) h Q)) := wp_call (n := 2) (show (lcode 145)[2]? = some (.invokestatic 114) by decide +kernel) (by decide +kernel) (by simp)
theorem x145_3 : WP d 145 3 [l0, l1, l2, l3] (vI x :: st) h Q ↔ ((wr x = 0 → WP d 145 8 [l0, l1, l2, l3] st h Q) ∧ (¬ (wr x = 0) → WP d 145 4 [l0, l1, l2, l3] st h Q)) := wp_if_eq (show (lcode 145)[3]? = some (.ifCond .eq 8) by decide +kernel)
theorem x145_4 : WP d 145 4 [some (Value.ref a), l1, l2, l3] st h Q ↔ WP d 145 5 [some (Value.ref a), l1, l2, l3] (Value.ref a :: st) h Q := wp_aload (show (lcode 145)[4]? = some (.aload 0) by decide +kernel) rfl
theorem x145_5 : WP d 145 5 [l0, l1, some (vI x), l3] st h Q ↔ WP d 145 6 [l0, l1, some (vI x), l3] (vI x :: st) h Q := wp_iload (show (lcode 145)[5]? = some (.iload 2) by decide +kernel) rfl
theorem x145_6 : WP d 145 6 [l0, l1, l2, l3] (v1 :: v :: st) h Q ↔ (sh st ∧ CALL d 113 [v, v1] h (fun v h => WP d 145 7 [l0, l1, l2, l3] (v.toList ++ st) h Q)) := wp_call (n := 2) (show (lcode 145)[6]? = some (.invokestatic 113) by decide +kernel) (by decide +kernel) (by simp)
theorem x145_7 : WP d 145 7 [l0, l1, l2, l3] (vI x :: st) h Q ↔ ((¬ wr x = 0 → WP d 145 10 [l0, l1, l2, l3] st h Q) ∧ (¬ (¬ wr x = 0) → WP d 145 8 [l0, l1, l2, l3] st h Q)) := wp_if_ne (show (lcode 145)[7]? = some (.ifCond .ne 10) by decide +kernel)
theorem x145_8 : WP d 145 8 [l0, l1, l2, l3] st h Q ↔ WP d 145 9 [l0, l1, l2, l3] (vI (-1000000001) :: st) h Q := wp_iconst (show (lcode 145)[8]? = some (.iconst (-1000000001)) by decide +kernel)
theorem x145_9 : WP d 145 9 [l0, l1, l2, l3] [vI x] h Q ↔ Q (some (vI x)) h := wp_ireturn (show (lcode 145)[9]? = some (.ireturn) by decide +kernel)
theorem x145_10 : WP d 145 10 [some (Value.ref a), l1, l2, l3] st h Q ↔ WP d 145 11 [some (Value.ref a), l1, l2, l3] (Value.ref a :: st) h Q := wp_aload (show (lcode 145)[10]? = some (.aload 0) by decide +kernel) rfl
theorem x145_11 : WP d 145 11 [l0, l1, l2, l3] (v :: st) h Q ↔ (sh st ∧ CALL d 140 [v] h (fun v h => WP d 145 12 [l0, l1, l2, l3] (v.toList ++ st) h Q)) := wp_call (n := 1) (show (lcode 145)[11]? = some (.invokestatic 140) by decide +kernel) (by decide +kernel) (by simp)
theorem x145_12 : WP d 145 12 [some (Value.ref a), l1, l2, l3] st h Q ↔ WP d 145 13 [some (Value.ref a), l1, l2, l3] (Value.ref a :: st) h Q := wp_aload (show (lcode 145)[12]? = some (.aload 0) by decide +kernel) rfl
theorem x145_13 : WP d 145 13 [l0, l1, l2, l3] (.ref a :: st) h Q ↔ gF (hRd h a) 11 6 (fun v => WP d 145 14 [l0, l1, l2, l3] (v :: st) h Q) := wp_getfield (show (lcode 145)[13]? = some (.getfield 710) by decide +kernel)
theorem x145_14 : WP d 145 14 [l0, l1, l2, l3] st h Q ↔ WP d 145 15 [l0, l1, l2, l3] (vI 9 :: st) h Q := wp_iconst (show (lcode 145)[14]? = some (.iconst 9) by decide +kernel)
theorem x145_15 : WP d 145 15 [l0, some (vI x), l2, l3] st h Q ↔ WP d 145 16 [l0, some (vI x), l2, l3] (vI x :: st) h Q := wp_iload (show (lcode 145)[15]? = some (.iload 1) by decide +kernel) rfl
theorem x145_16 : WP d 145 16 [l0, l1, l2, l3] (vI y :: vI x :: st) h Q ↔ WP d 145 17 [l0, l1, l2, l3] (vI (x + y) :: st) h Q := wp_iadd (show (lcode 145)[16]? = some (.iadd) by decide +kernel)
theorem x145_17 : WP d 145 17 [l0, l1, l2, l3] (vI x :: .ref a :: st) h Q ↔ ldA (hRd h a) x (fun v => WP d 145 18 [l0, l1, l2, l3] (v :: st) h Q) := wp_iaload (show (lcode 145)[17]? = some (.iaload) by decide +kernel)
theorem x145_18 : WP d 145 18 [l0, l1, l2, l3] (vI x :: st) h Q ↔ (nl l2 ∧ WP d 145 19 [l0, l1, l2, some (vI x)] st h Q) := wp_istore (show (lcode 145)[18]? = some (.istore 3) by decide +kernel) (Nat.le_of_ble_eq_true rfl)
theorem x145_19 : WP d 145 19 [some (Value.ref a), l1, l2, l3] st h Q ↔ WP d 145 20 [some (Value.ref a), l1, l2, l3] (Value.ref a :: st) h Q := wp_aload (show (lcode 145)[19]? = some (.aload 0) by decide +kernel) rfl
theorem x145_20 : WP d 145 20 [l0, l1, l2, l3] (.ref a :: st) h Q ↔ gF (hRd h a) 11 6 (fun v => WP d 145 21 [l0, l1, l2, l3] (v :: st) h Q) := wp_getfield (show (lcode 145)[20]? = some (.getfield 710) by decide +kernel)
theorem x145_21 : WP d 145 21 [l0, l1, l2, l3] st h Q ↔ WP d 145 22 [l0, l1, l2, l3] (vI 9 :: st) h Q := wp_iconst (show (lcode 145)[21]? = some (.iconst 9) by decide +kernel)
theorem x145_22 : WP d 145 22 [l0, some (vI x), l2, l3] st h Q ↔ WP d 145 23 [l0, some (vI x), l2, l3] (vI x :: st) h Q := wp_iload (show (lcode 145)[22]? = some (.iload 1) by decide +kernel) rfl
theorem x145_23 : WP d 145 23 [l0, l1, l2, l3] (vI y :: vI x :: st) h Q ↔ WP d 145 24 [l0, l1, l2, l3] (vI (x + y) :: st) h Q := wp_iadd (show (lcode 145)[23]? = some (.iadd) by decide +kernel)
theorem x145_24 : WP d 145 24 [l0, l1, some (vI x), l3] st h Q ↔ WP d 145 25 [l0, l1, some (vI x), l3] (vI x :: st) h Q := wp_iload (show (lcode 145)[24]? = some (.iload 2) by decide +kernel) rfl
theorem x145_25 : WP d 145 25 [l0, l1, l2, l3] (vI y :: vI x :: .ref a :: st) h Q ↔ stA (hRd h a) a x (vI y) (fun c => WP d 145 26 [l0, l1, l2, l3] st (hWr h a c) Q) := wp_iastore (show (lcode 145)[25]? = some (.iastore) by decide +kernel)
theorem x145_26 : WP d 145 26 [l0, l1, l2, some (vI x)] st h Q ↔ WP d 145 27 [l0, l1, l2, some (vI x)] (vI x :: st) h Q := wp_iload (show (lcode 145)[26]? = some (.iload 3) by decide +kernel) rfl
theorem x145_27 : WP d 145 27 [l0, l1, l2, l3] [vI x] h Q ↔ Q (some (vI x)) h := wp_ireturn (show (lcode 145)[27]? = some (.ireturn) by decide +kernel)
-- 146: WakeOrderModel.dismissNow
theorem x146_0 : WP d 146 0 [some (Value.ref a), l1] st h Q ↔ WP d 146 1 [some (Value.ref a), l1] (Value.ref a :: st) h Q := wp_aload (show (lcode 146)[0]? = some (.aload 0) by decide +kernel) rfl
theorem x146_1 : WP d 146 1 [some (Value.ref a), l1] st h Q ↔ WP d 146 2 [some (Value.ref a), l1] (Value.ref a :: st) h Q := wp_aload (show (lcode 146)[1]? = some (.aload 0) by decide +kernel) rfl
theorem x146_2 : WP d 146 2 [l0, some (vI x)] st h Q ↔ WP d 146 3 [l0, some (vI x)] (vI x :: st) h Q := wp_iload (show (lcode 146)[2]? = some (.iload 1) by decide +kernel) rfl
theorem x146_3 : WP d 146 3 [l0, l1] (v1 :: v :: st) h Q ↔ (sh st ∧ CALL d 135 [v, v1] h (fun v h => WP d 146 4 [l0, l1] (v.toList ++ st) h Q)) := wp_call (n := 2) (show (lcode 146)[3]? = some (.invokestatic 135) by decide +kernel) (by decide +kernel) (by simp)
theorem x146_4 : WP d 146 4 [l0, l1] (v1 :: v :: st) h Q ↔ (sh st ∧ CALL d 141 [v, v1] h (fun v h => WP d 146 5 [l0, l1] (v.toList ++ st) h Q)) := wp_call (n := 2) (show (lcode 146)[4]? = some (.invokestatic 141) by decide +kernel) (by decide +kernel) (by simp)
theorem x146_5 : WP d 146 5 [some (Value.ref a), l1] st h Q ↔ WP d 146 6 [some (Value.ref a), l1] (Value.ref a :: st) h Q := wp_aload (show (lcode 146)[5]? = some (.aload 0) by decide +kernel) rfl
theorem x146_6 : WP d 146 6 [l0, l1] (.ref a :: st) h Q ↔ gF (hRd h a) 11 6 (fun v => WP d 146 7 [l0, l1] (v :: st) h Q) := wp_getfield (show (lcode 146)[6]? = some (.getfield 710) by decide +kernel)
theorem x146_7 : WP d 146 7 [l0, l1] st h Q ↔ WP d 146 8 [l0, l1] (vI 8 :: st) h Q := wp_iconst (show (lcode 146)[7]? = some (.iconst 8) by decide +kernel)
theorem x146_8 : WP d 146 8 [l0, l1] (v :: v1 :: st) h Q ↔ ((c1 v ∧ c1 v1) ∧ WP d 146 9 [l0, l1] (v :: v1 :: v :: v1 :: st) h Q) := wp_dup2 (show (lcode 146)[8]? = some (.dup2) by decide +kernel)
theorem x146_9 : WP d 146 9 [l0, l1] (vI x :: .ref a :: st) h Q ↔ ldA (hRd h a) x (fun v => WP d 146 10 [l0, l1] (v :: st) h Q) := wp_iaload (show (lcode 146)[9]? = some (.iaload) by decide +kernel)
theorem x146_10 : WP d 146 10 [l0, l1] st h Q ↔ WP d 146 11 [l0, l1] (vI 1 :: st) h Q := wp_iconst (show (lcode 146)[10]? = some (.iconst 1) by decide +kernel)
theorem x146_11 : WP d 146 11 [l0, some (vI x)] st h Q ↔ WP d 146 12 [l0, some (vI x)] (vI x :: st) h Q := wp_iload (show (lcode 146)[11]? = some (.iload 1) by decide +kernel) rfl
theorem x146_12 : WP d 146 12 [l0, l1] (vI y :: vI x :: st) h Q ↔ WP d 146 13 [l0, l1] (vI (zshl x y) :: st) h Q := wp_ishl (show (lcode 146)[12]? = some (.ishl) by decide +kernel)
theorem x146_13 : WP d 146 13 [l0, l1] (vI y :: vI x :: st) h Q ↔ WP d 146 14 [l0, l1] (vI (zor x y) :: st) h Q := wp_ior (show (lcode 146)[13]? = some (.ior) by decide +kernel)
theorem x146_14 : WP d 146 14 [l0, l1] (vI y :: vI x :: .ref a :: st) h Q ↔ stA (hRd h a) a x (vI y) (fun c => WP d 146 15 [l0, l1] st (hWr h a c) Q) := wp_iastore (show (lcode 146)[14]? = some (.iastore) by decide +kernel)
theorem x146_15 : WP d 146 15 [l0, l1] [] h Q ↔ Q none h := wp_return (show (lcode 146)[15]? = some (.return_) by decide +kernel)
-- 147: WakeOrderModel.dismiss
theorem x147_0 : WP d 147 0 [some (Value.ref a), l1] st h Q ↔ WP d 147 1 [some (Value.ref a), l1] (Value.ref a :: st) h Q := wp_aload (show (lcode 147)[0]? = some (.aload 0) by decide +kernel) rfl
theorem x147_1 : WP d 147 1 [l0, some (vI x)] st h Q ↔ WP d 147 2 [l0, some (vI x)] (vI x :: st) h Q := wp_iload (show (lcode 147)[1]? = some (.iload 1) by decide +kernel) rfl
theorem x147_2 : WP d 147 2 [l0, l1] (v1 :: v :: st) h Q ↔ (sh st ∧ CALL d 113 [v, v1] h (fun v h => WP d 147 3 [l0, l1] (v.toList ++ st) h Q)) := wp_call (n := 2) (show (lcode 147)[2]? = some (.invokestatic 113) by decide +kernel) (by decide +kernel) (by simp)
theorem x147_3 : WP d 147 3 [l0, l1] (vI x :: st) h Q ↔ ((¬ wr x = 0 → WP d 147 6 [l0, l1] st h Q) ∧ (¬ (¬ wr x = 0) → WP d 147 4 [l0, l1] st h Q)) := wp_if_ne (show (lcode 147)[3]? = some (.ifCond .ne 6) by decide +kernel)
theorem x147_4 : WP d 147 4 [l0, l1] st h Q ↔ WP d 147 5 [l0, l1] (vI (-1000000001) :: st) h Q := wp_iconst (show (lcode 147)[4]? = some (.iconst (-1000000001)) by decide +kernel)
theorem x147_5 : WP d 147 5 [l0, l1] [vI x] h Q ↔ Q (some (vI x)) h := wp_ireturn (show (lcode 147)[5]? = some (.ireturn) by decide +kernel)
theorem x147_6 : WP d 147 6 [some (Value.ref a), l1] st h Q ↔ WP d 147 7 [some (Value.ref a), l1] (Value.ref a :: st) h Q := wp_aload (show (lcode 147)[6]? = some (.aload 0) by decide +kernel) rfl
theorem x147_7 : WP d 147 7 [l0, l1] (.ref a :: st) h Q ↔ gF (hRd h a) 11 6 (fun v => WP d 147 8 [l0, l1] (v :: st) h Q) := wp_getfield (show (lcode 147)[7]? = some (.getfield 710) by decide +kernel)
theorem x147_8 : WP d 147 8 [l0, l1] st h Q ↔ WP d 147 9 [l0, l1] (vI 8 :: st) h Q := wp_iconst (show (lcode 147)[8]? = some (.iconst 8) by decide +kernel)
theorem x147_9 : WP d 147 9 [l0, l1] (vI x :: .ref a :: st) h Q ↔ ldA (hRd h a) x (fun v => WP d 147 10 [l0, l1] (v :: st) h Q) := wp_iaload (show (lcode 147)[9]? = some (.iaload) by decide +kernel)
theorem x147_10 : WP d 147 10 [l0, some (vI x)] st h Q ↔ WP d 147 11 [l0, some (vI x)] (vI x :: st) h Q := wp_iload (show (lcode 147)[10]? = some (.iload 1) by decide +kernel) rfl
theorem x147_11 : WP d 147 11 [l0, l1] (v1 :: v :: st) h Q ↔ (sh st ∧ CALL d 111 [v, v1] h (fun v h => WP d 147 12 [l0, l1] (v.toList ++ st) h Q)) := wp_call (n := 2) (show (lcode 147)[11]? = some (.invokestatic 111) by decide +kernel) (by decide +kernel) (by simp)
theorem x147_12 : WP d 147 12 [l0, l1] (vI x :: st) h Q ↔ ((wr x = 0 → WP d 147 15 [l0, l1] st h Q) ∧ (¬ (wr x = 0) → WP d 147 13 [l0, l1] st h Q)) := wp_if_eq (show (lcode 147)[12]? = some (.ifCond .eq 15) by decide +kernel)
theorem x147_13 : WP d 147 13 [l0, l1] st h Q ↔ WP d 147 14 [l0, l1] (vI (-1000000003) :: st) h Q := wp_iconst (show (lcode 147)[13]? = some (.iconst (-1000000003)) by decide +kernel)
theorem x147_14 : WP d 147 14 [l0, l1] [vI x] h Q ↔ Q (some (vI x)) h := wp_ireturn (show (lcode 147)[14]? = some (.ireturn) by decide +kernel)
theorem x147_15 : WP d 147 15 [some (Value.ref a), l1] st h Q ↔ WP d 147 16 [some (Value.ref a), l1] (Value.ref a :: st) h Q := wp_aload (show (lcode 147)[15]? = some (.aload 0) by decide +kernel) rfl
theorem x147_16 : WP d 147 16 [l0, l1] (v :: st) h Q ↔ (sh st ∧ CALL d 140 [v] h (fun v h => WP d 147 17 [l0, l1] (v.toList ++ st) h Q)) := wp_call (n := 1) (show (lcode 147)[16]? = some (.invokestatic 140) by decide +kernel) (by decide +kernel) (by simp)
theorem x147_17 : WP d 147 17 [some (Value.ref a), l1] st h Q ↔ WP d 147 18 [some (Value.ref a), l1] (Value.ref a :: st) h Q := wp_aload (show (lcode 147)[17]? = some (.aload 0) by decide +kernel) rfl
theorem x147_18 : WP d 147 18 [l0, some (vI x)] st h Q ↔ WP d 147 19 [l0, some (vI x)] (vI x :: st) h Q := wp_iload (show (lcode 147)[18]? = some (.iload 1) by decide +kernel) rfl
theorem x147_19 : WP d 147 19 [l0, l1] (v1 :: v :: st) h Q ↔ (sh st ∧ CALL d 146 [v, v1] h (fun v h => WP d 147 20 [l0, l1] (v.toList ++ st) h Q)) := wp_call (n := 2) (show (lcode 147)[19]? = some (.invokestatic 146) by decide +kernel) (by decide +kernel) (by simp)
theorem x147_20 : WP d 147 20 [some (Value.ref a), l1] st h Q ↔ WP d 147 21 [some (Value.ref a), l1] (Value.ref a :: st) h Q := wp_aload (show (lcode 147)[20]? = some (.aload 0) by decide +kernel) rfl
theorem x147_21 : WP d 147 21 [l0, l1] (.ref a :: st) h Q ↔ gF (hRd h a) 11 6 (fun v => WP d 147 22 [l0, l1] (v :: st) h Q) := wp_getfield (show (lcode 147)[21]? = some (.getfield 710) by decide +kernel)
theorem x147_22 : WP d 147 22 [l0, l1] st h Q ↔ WP d 147 23 [l0, l1] (vI 6 :: st) h Q := wp_iconst (show (lcode 147)[22]? = some (.iconst 6) by decide +kernel)
theorem x147_23 : WP d 147 23 [l0, l1] (vI x :: .ref a :: st) h Q ↔ ldA (hRd h a) x (fun v => WP d 147 24 [l0, l1] (v :: st) h Q) := wp_iaload (show (lcode 147)[23]? = some (.iaload) by decide +kernel)
theorem x147_24 : WP d 147 24 [l0, l1] [vI x] h Q ↔ Q (some (vI x)) h := wp_ireturn (show (lcode 147)[24]? = some (.ireturn) by decide +kernel)
-- 148: WakeOrderModel.wake
theorem x148_0 : WP d 148 0 [some (Value.ref a), l1, l2, l3] st h Q ↔ WP d 148 1 [some (Value.ref a), l1, l2, l3] (Value.ref a :: st) h Q := wp_aload (show (lcode 148)[0]? = some (.aload 0) by decide +kernel) rfl
theorem x148_1 : WP d 148 1 [l0, some (vI x), l2, l3] st h Q ↔ WP d 148 2 [l0, some (vI x), l2, l3] (vI x :: st) h Q := wp_iload (show (lcode 148)[1]? = some (.iload 1) by decide +kernel) rfl
theorem x148_2 : WP d 148 2 [l0, l1, l2, l3] (v1 :: v :: st) h Q ↔ (sh st ∧ CALL d 113 [v, v1] h (fun v h => WP d 148 3 [l0, l1, l2, l3] (v.toList ++ st) h Q)) := wp_call (n := 2) (show (lcode 148)[2]? = some (.invokestatic 113) by decide +kernel) (by decide +kernel) (by simp)
theorem x148_3 : WP d 148 3 [l0, l1, l2, l3] (vI x :: st) h Q ↔ ((¬ wr x = 0 → WP d 148 6 [l0, l1, l2, l3] st h Q) ∧ (¬ (¬ wr x = 0) → WP d 148 4 [l0, l1, l2, l3] st h Q)) := wp_if_ne (show (lcode 148)[3]? = some (.ifCond .ne 6) by decide +kernel)
theorem x148_4 : WP d 148 4 [l0, l1, l2, l3] st h Q ↔ WP d 148 5 [l0, l1, l2, l3] (vI (-1000000001) :: st) h Q := wp_iconst (show (lcode 148)[4]? = some (.iconst (-1000000001)) by decide +kernel)
theorem x148_5 : WP d 148 5 [l0, l1, l2, l3] [vI x] h Q ↔ Q (some (vI x)) h := wp_ireturn (show (lcode 148)[5]? = some (.ireturn) by decide +kernel)
theorem x148_6 : WP d 148 6 [l0, l1, some (vI x), l3] st h Q ↔ WP d 148 7 [l0, l1, some (vI x), l3] (vI x :: st) h Q := wp_iload (show (lcode 148)[6]? = some (.iload 2) by decide +kernel) rfl
theorem x148_7 : WP d 148 7 [l0, l1, l2, l3] (vI x :: st) h Q ↔ WP d 148 8 [l0, l1, l2, l3] (vL (wr x) :: st) h Q := wp_i2l (show (lcode 148)[7]? = some (.i2l) by decide +kernel)
theorem x148_8 : WP d 148 8 [l0, l1, l2, l3] st h Q ↔ WP d 148 9 [l0, l1, l2, l3] (vL 0 :: st) h Q := wp_lconst (show (lcode 148)[8]? = some (.jsr_w 0) by decide +kernel)
theorem x148_9 : WP d 148 9 [l0, l1, l2, l3] st h Q ↔ WP d 148 10 [l0, l1, l2, l3] (vL 999 :: st) h Q := wp_lconst (show (lcode 148)[9]? = some (.jsr_w 999) by decide +kernel)
theorem x148_10 : WP d 148 10 [l0, l1, l2, l3] (v2 :: v1 :: v :: st) h Q ↔ (sh st ∧ CALL d 110 [v, v1, v2] h (fun v h => WP d 148 11 [l0, l1, l2, l3] (v.toList ++ st) h Q)) := wp_call (n := 3) (show (lcode 148)[10]? = some (.invokestatic 110) by decide +kernel) (by decide +kernel) (by simp)
theorem x148_11 : WP d 148 11 [l0, l1, l2, l3] (vI x :: st) h Q ↔ ((¬ wr x = 0 → WP d 148 14 [l0, l1, l2, l3] st h Q) ∧ (¬ (¬ wr x = 0) → WP d 148 12 [l0, l1, l2, l3] st h Q)) := wp_if_ne (show (lcode 148)[11]? = some (.ifCond .ne 14) by decide +kernel)
theorem x148_12 : WP d 148 12 [l0, l1, l2, l3] st h Q ↔ WP d 148 13 [l0, l1, l2, l3] (vI (-1000000002) :: st) h Q := wp_iconst (show (lcode 148)[12]? = some (.iconst (-1000000002)) by decide +kernel)
theorem x148_13 : WP d 148 13 [l0, l1, l2, l3] [vI x] h Q ↔ Q (some (vI x)) h := wp_ireturn (show (lcode 148)[13]? = some (.ireturn) by decide +kernel)
theorem x148_14 : WP d 148 14 [some (Value.ref a), l1, l2, l3] st h Q ↔ WP d 148 15 [some (Value.ref a), l1, l2, l3] (Value.ref a :: st) h Q := wp_aload (show (lcode 148)[14]? = some (.aload 0) by decide +kernel) rfl
theorem x148_15 : WP d 148 15 [l0, l1, l2, l3] (v :: st) h Q ↔ (sh st ∧ CALL d 140 [v] h (fun v h => WP d 148 16 [l0, l1, l2, l3] (v.toList ++ st) h Q)) := wp_call (n := 1) (show (lcode 148)[15]? = some (.invokestatic 140) by decide +kernel) (by decide +kernel) (by simp)
theorem x148_16 : WP d 148 16 [some (Value.ref a), l1, l2, l3] st h Q ↔ WP d 148 17 [some (Value.ref a), l1, l2, l3] (Value.ref a :: st) h Q := wp_aload (show (lcode 148)[16]? = some (.aload 0) by decide +kernel) rfl
theorem x148_17 : WP d 148 17 [l0, l1, l2, l3] (.ref a :: st) h Q ↔ gF (hRd h a) 11 6 (fun v => WP d 148 18 [l0, l1, l2, l3] (v :: st) h Q) := wp_getfield (show (lcode 148)[17]? = some (.getfield 710) by decide +kernel)
theorem x148_18 : WP d 148 18 [l0, l1, l2, l3] st h Q ↔ WP d 148 19 [l0, l1, l2, l3] (vI 17 :: st) h Q := wp_iconst (show (lcode 148)[18]? = some (.iconst 17) by decide +kernel)
theorem x148_19 : WP d 148 19 [l0, some (vI x), l2, l3] st h Q ↔ WP d 148 20 [l0, some (vI x), l2, l3] (vI x :: st) h Q := wp_iload (show (lcode 148)[19]? = some (.iload 1) by decide +kernel) rfl
theorem x148_20 : WP d 148 20 [l0, l1, l2, l3] (vI y :: vI x :: st) h Q ↔ WP d 148 21 [l0, l1, l2, l3] (vI (x + y) :: st) h Q := wp_iadd (show (lcode 148)[20]? = some (.iadd) by decide +kernel)
theorem x148_21 : WP d 148 21 [l0, l1, l2, l3] (vI x :: .ref a :: st) h Q ↔ ldA (hRd h a) x (fun v => WP d 148 22 [l0, l1, l2, l3] (v :: st) h Q) := wp_iaload (show (lcode 148)[21]? = some (.iaload) by decide +kernel)
theorem x148_22 : WP d 148 22 [l0, l1, l2, l3] (vI x :: st) h Q ↔ (nl l2 ∧ WP d 148 23 [l0, l1, l2, some (vI x)] st h Q) := wp_istore (show (lcode 148)[22]? = some (.istore 3) by decide +kernel) (Nat.le_of_ble_eq_true rfl)
theorem x148_23 : WP d 148 23 [some (Value.ref a), l1, l2, l3] st h Q ↔ WP d 148 24 [some (Value.ref a), l1, l2, l3] (Value.ref a :: st) h Q := wp_aload (show (lcode 148)[23]? = some (.aload 0) by decide +kernel) rfl
theorem x148_24 : WP d 148 24 [l0, l1, l2, l3] (.ref a :: st) h Q ↔ gF (hRd h a) 11 6 (fun v => WP d 148 25 [l0, l1, l2, l3] (v :: st) h Q) := wp_getfield (show (lcode 148)[24]? = some (.getfield 710) by decide +kernel)
theorem x148_25 : WP d 148 25 [l0, l1, l2, l3] st h Q ↔ WP d 148 26 [l0, l1, l2, l3] (vI 17 :: st) h Q := wp_iconst (show (lcode 148)[25]? = some (.iconst 17) by decide +kernel)
theorem x148_26 : WP d 148 26 [l0, some (vI x), l2, l3] st h Q ↔ WP d 148 27 [l0, some (vI x), l2, l3] (vI x :: st) h Q := wp_iload (show (lcode 148)[26]? = some (.iload 1) by decide +kernel) rfl
theorem x148_27 : WP d 148 27 [l0, l1, l2, l3] (vI y :: vI x :: st) h Q ↔ WP d 148 28 [l0, l1, l2, l3] (vI (x + y) :: st) h Q := wp_iadd (show (lcode 148)[27]? = some (.iadd) by decide +kernel)
theorem x148_28 : WP d 148 28 [l0, l1, some (vI x), l3] st h Q ↔ WP d 148 29 [l0, l1, some (vI x), l3] (vI x :: st) h Q := wp_iload (show (lcode 148)[28]? = some (.iload 2) by decide +kernel) rfl
theorem x148_29 : WP d 148 29 [l0, l1, l2, l3] (vI y :: vI x :: .ref a :: st) h Q ↔ stA (hRd h a) a x (vI y) (fun c => WP d 148 30 [l0, l1, l2, l3] st (hWr h a c) Q) := wp_iastore (show (lcode 148)[29]? = some (.iastore) by decide +kernel)
theorem x148_30 : WP d 148 30 [l0, l1, l2, some (vI x)] st h Q ↔ WP d 148 31 [l0, l1, l2, some (vI x)] (vI x :: st) h Q := wp_iload (show (lcode 148)[30]? = some (.iload 3) by decide +kernel) rfl
theorem x148_31 : WP d 148 31 [l0, l1, l2, l3] [vI x] h Q ↔ Q (some (vI x)) h := wp_ireturn (show (lcode 148)[31]? = some (.ireturn) by decide +kernel)
-- 149: WakeOrderModel.draw
theorem x149_0 : WP d 149 0 [some (Value.ref a), l1] st h Q ↔ WP d 149 1 [some (Value.ref a), l1] (Value.ref a :: st) h Q := wp_aload (show (lcode 149)[0]? = some (.aload 0) by decide +kernel) rfl
theorem x149_1 : WP d 149 1 [some (Value.ref a), l1] st h Q ↔ WP d 149 2 [some (Value.ref a), l1] (Value.ref a :: st) h Q := wp_aload (show (lcode 149)[1]? = some (.aload 0) by decide +kernel) rfl
theorem x149_2 : WP d 149 2 [l0, l1] (.ref a :: st) h Q ↔ gF (hRd h a) 11 7 (fun v => WP d 149 3 [l0, l1] (v :: st) h Q) := wp_getfield (show (lcode 149)[2]? = some (.getfield 711) by decide +kernel)
theorem x149_3 : WP d 149 3 [l0, l1] (vI x :: st) h Q ↔ WP d 149 4 [l0, l1] (vL (wr x) :: st) h Q := wp_i2l (show (lcode 149)[3]? = some (.i2l) by decide +kernel)
theorem x149_4 : WP d 149 4 [l0, l1] st h Q ↔ WP d 149 5 [l0, l1] (vL 1103515245 :: st) h Q := wp_lconst (show (lcode 149)[4]? = some (.jsr_w 1103515245) by decide +kernel)
theorem x149_5 : WP d 149 5 [l0, l1] (vL y :: vL x :: st) h Q ↔ WP d 149 6 [l0, l1] (vL (x * y) :: st) h Q := wp_lmul (show (lcode 149)[5]? = some (.lmul) by decide +kernel)
theorem x149_6 : WP d 149 6 [l0, l1] st h Q ↔ WP d 149 7 [l0, l1] (vL 12345 :: st) h Q := wp_lconst (show (lcode 149)[6]? = some (.jsr_w 12345) by decide +kernel)
theorem x149_7 : WP d 149 7 [l0, l1] (vL y :: vL x :: st) h Q ↔ WP d 149 8 [l0, l1] (vL (x + y) :: st) h Q := wp_ladd (show (lcode 149)[7]? = some (.ladd) by decide +kernel)
theorem x149_8 : WP d 149 8 [l0, l1] st h Q ↔ WP d 149 9 [l0, l1] (vL 2147483648 :: st) h Q := wp_lconst (show (lcode 149)[8]? = some (.jsr_w 2147483648) by decide +kernel)
theorem x149_9 : WP d 149 9 [l0, l1] (vL y :: vL x :: st) h Q ↔ (¬ wl y = 0 ∧ WP d 149 10 [l0, l1] (vL (zlrem x y) :: st) h Q) := wp_lrem (show (lcode 149)[9]? = some (.lrem) by decide +kernel)
theorem x149_10 : WP d 149 10 [l0, l1] (vL x :: st) h Q ↔ WP d 149 11 [l0, l1] (vI x :: st) h Q := wp_l2i (show (lcode 149)[10]? = some (.l2i) by decide +kernel)
theorem x149_11 : WP d 149 11 [l0, l1] (vI x :: .ref a :: st) h Q ↔ pF (hRd h a) 11 7 (vI x) (fun c => WP d 149 12 [l0, l1] st (hWr h a c) Q) := wp_putfield (show (lcode 149)[11]? = some (.putfield 711) by decide +kernel)
theorem x149_12 : WP d 149 12 [some (Value.ref a), l1] st h Q ↔ WP d 149 13 [some (Value.ref a), l1] (Value.ref a :: st) h Q := wp_aload (show (lcode 149)[12]? = some (.aload 0) by decide +kernel) rfl
theorem x149_13 : WP d 149 13 [l0, l1] (.ref a :: st) h Q ↔ gF (hRd h a) 11 7 (fun v => WP d 149 14 [l0, l1] (v :: st) h Q) := wp_getfield (show (lcode 149)[13]? = some (.getfield 711) by decide +kernel)
theorem x149_14 : WP d 149 14 [l0, l1] st h Q ↔ WP d 149 15 [l0, l1] (vI 65536 :: st) h Q := wp_iconst (show (lcode 149)[14]? = some (.iconst 65536) by decide +kernel)
theorem x149_15 : WP d 149 15 [l0, l1] (vI y :: vI x :: st) h Q ↔ (¬ wr y = 0 ∧ WP d 149 16 [l0, l1] (vI (zdiv x y) :: st) h Q) := wp_idiv (show (lcode 149)[15]? = some (.idiv) by decide +kernel)
theorem x149_16 : WP d 149 16 [l0, some (vI x)] st h Q ↔ WP d 149 17 [l0, some (vI x)] (vI x :: st) h Q := wp_iload (show (lcode 149)[16]? = some (.iload 1) by decide +kernel) rfl
theorem x149_17 : WP d 149 17 [l0, l1] (vI y :: vI x :: st) h Q ↔ (¬ wr y = 0 ∧ WP d 149 18 [l0, l1] (vI (zrem x y) :: st) h Q) := wp_irem (show (lcode 149)[17]? = some (.irem) by decide +kernel)
theorem x149_18 : WP d 149 18 [l0, l1] [vI x] h Q ↔ Q (some (vI x)) h := wp_ireturn (show (lcode 149)[18]? = some (.ireturn) by decide +kernel)
-- 150: WakeOrderModel.drift
theorem x150_0 : WP d 150 0 [l0, some (vI x), l2, l3] st h Q ↔ WP d 150 1 [l0, some (vI x), l2, l3] (vI x :: st) h Q := wp_iload (show (lcode 150)[0]? = some (.iload 1) by decide +kernel) rfl
theorem x150_1 : WP d 150 1 [l0, l1, l2, l3] (vI x :: st) h Q ↔ WP d 150 2 [l0, l1, l2, l3] (vL (wr x) :: st) h Q := wp_i2l (show (lcode 150)[1]? = some (.i2l) by decide +kernel)
theorem x150_2 : WP d 150 2 [l0, l1, l2, l3] st h Q ↔ WP d 150 3 [l0, l1, l2, l3] (vL 1 :: st) h Q := wp_lconst (show (lcode 150)[2]? = some (.jsr_w 1) by decide +kernel)
theorem x150_3 : WP d 150 3 [l0, l1, l2, l3] st h Q ↔ WP d 150 4 [l0, l1, l2, l3] (vL 40 :: st) h Q := wp_lconst (show (lcode 150)[3]? = some (.jsr_w 40) by decide +kernel)
theorem x150_4 : WP d 150 4 [l0, l1, l2, l3] (v2 :: v1 :: v :: st) h Q ↔ (sh st ∧ CALL d 110 [v, v1, v2] h (fun v h => WP d 150 5 [l0, l1, l2, l3] (v.toList ++ st) h Q)) := wp_call (n := 3) (show (lcode 150)[4]? = some (.invokestatic 110) by decide +kernel) (by decide +kernel) (by simp)
theorem x150_5 : WP d 150 5 [l0, l1, l2, l3] (vI x :: st) h Q ↔ ((¬ wr x = 0 → WP d 150 8 [l0, l1, l2, l3] st h Q) ∧ (¬ (¬ wr x = 0) → WP d 150 6 [l0, l1, l2, l3] st h Q)) := wp_if_ne (show (lcode 150)[5]? = some (.ifCond .ne 8) by decide +kernel)
theorem x150_6 : WP d 150 6 [l0, l1, l2, l3] st h Q ↔ WP d 150 7 [l0, l1, l2, l3] (vI (-1000000002) :: st) h Q := wp_iconst (show (lcode 150)[6]? = some (.iconst (-1000000002)) by decide +kernel)
theorem x150_7 : WP d 150 7 [l0, l1, l2, l3] [vI x] h Q ↔ Q (some (vI x)) h := wp_ireturn (show (lcode 150)[7]? = some (.ireturn) by decide +kernel)
theorem x150_8 : WP d 150 8 [some (Value.ref a), l1, l2, l3] st h Q ↔ WP d 150 9 [some (Value.ref a), l1, l2, l3] (Value.ref a :: st) h Q := wp_aload (show (lcode 150)[8]? = some (.aload 0) by decide +kernel) rfl
theorem x150_9 : WP d 150 9 [l0, l1, l2, l3] (.ref a :: st) h Q ↔ gF (hRd h a) 11 0 (fun v => WP d 150 10 [l0, l1, l2, l3] (v :: st) h Q) := wp_getfield (show (lcode 150)[9]? = some (.getfield 704) by decide +kernel)
theorem x150_10 : WP d 150 10 [l0, l1, l2, l3] (vI x :: st) h Q ↔ ((¬ wr x = 0 → WP d 150 13 [l0, l1, l2, l3] st h Q) ∧ (¬ (¬ wr x = 0) → WP d 150 11 [l0, l1, l2, l3] st h Q)) := wp_if_ne (show (lcode 150)[10]? = some (.ifCond .ne 13) by decide +kernel)
theorem x150_11 : WP d 150 11 [l0, l1, l2, l3] st h Q ↔ WP d 150 12 [l0, l1, l2, l3] (vI (-1000000003) :: st) h Q := wp_iconst (show (lcode 150)[11]? = some (.iconst (-1000000003)) by decide +kernel)
theorem x150_12 : WP d 150 12 [l0, l1, l2, l3] [vI x] h Q ↔ Q (some (vI x)) h := wp_ireturn (show (lcode 150)[12]? = some (.ireturn) by decide +kernel)
theorem x150_13 : WP d 150 13 [some (Value.ref a), l1, l2, l3] st h Q ↔ WP d 150 14 [some (Value.ref a), l1, l2, l3] (Value.ref a :: st) h Q := wp_aload (show (lcode 150)[13]? = some (.aload 0) by decide +kernel) rfl
theorem x150_14 : WP d 150 14 [l0, l1, l2, l3] (.ref a :: st) h Q ↔ gF (hRd h a) 11 6 (fun v => WP d 150 15 [l0, l1, l2, l3] (v :: st) h Q) := wp_getfield (show (lcode 150)[14]? = some (.getfield 710) by decide +kernel)
theorem x150_15 : WP d 150 15 [l0, l1, l2, l3] st h Q ↔ WP d 150 16 [l0, l1, l2, l3] (vI 23 :: st) h Q := wp_iconst (show (lcode 150)[15]? = some (.iconst 23) by decide +kernel)
theorem x150_16 : WP d 150 16 [l0, l1, l2, l3] (vI x :: .ref a :: st) h Q ↔ ldA (hRd h a) x (fun v => WP d 150 17 [l0, l1, l2, l3] (v :: st) h Q) := wp_iaload (show (lcode 150)[16]? = some (.iaload) by decide +kernel)
theorem x150_17 : WP d 150 17 [l0, l1, l2, l3] st h Q ↔ WP d 150 18 [l0, l1, l2, l3] (vI 9000 :: st) h Q := wp_iconst (show (lcode 150)[17]? = some (.iconst 9000) by decide +kernel)
theorem x150_18 : WP d 150 18 [l0, l1, l2, l3] (vI y :: vI x :: st) h Q ↔ ((wr x ≤ wr y → WP d 150 21 [l0, l1, l2, l3] st h Q) ∧ (¬ (wr x ≤ wr y) → WP d 150 19 [l0, l1, l2, l3] st h Q)) := wp_icmp_le (show (lcode 150)[18]? = some (.if_icmp .le 21) by decide +kernel)
theorem x150_19 : WP d 150 19 [l0, l1, l2, l3] st h Q ↔ WP d 150 20 [l0, l1, l2, l3] (vI (-1000000004) :: st) h Q := wp_iconst (show (lcode 150)[19]? = some (.iconst (-1000000004)) by decide +kernel)
theorem x150_20 : WP d 150 20 [l0, l1, l2, l3] [vI x] h Q ↔ Q (some (vI x)) h := wp_ireturn (show (lcode 150)[20]? = some (.ireturn) by decide +kernel)
theorem x150_21 : WP d 150 21 [some (Value.ref a), l1, l2, l3] st h Q ↔ WP d 150 22 [some (Value.ref a), l1, l2, l3] (Value.ref a :: st) h Q := wp_aload (show (lcode 150)[21]? = some (.aload 0) by decide +kernel) rfl
theorem x150_22 : WP d 150 22 [l0, l1, l2, l3] (v :: st) h Q ↔ (sh st ∧ CALL d 140 [v] h (fun v h => WP d 150 23 [l0, l1, l2, l3] (v.toList ++ st) h Q)) := wp_call (n := 1) (show (lcode 150)[22]? = some (.invokestatic 140) by decide +kernel) (by decide +kernel) (by simp)
theorem x150_23 : WP d 150 23 [l0, l1, l2, l3] st h Q ↔ WP d 150 24 [l0, l1, l2, l3] (vI 0 :: st) h Q := wp_iconst (show (lcode 150)[23]? = some (.iconst 0) by decide +kernel)
theorem x150_24 : WP d 150 24 [l0, l1, l2, l3] (vI x :: st) h Q ↔ (nl l1 ∧ WP d 150 25 [l0, l1, some (vI x), l3] st h Q) := wp_istore (show (lcode 150)[24]? = some (.istore 2) by decide +kernel) (Nat.le_of_ble_eq_true rfl)
theorem x150_25 : WP d 150 25 [l0, l1, l2, l3] st h Q ↔ WPC d 150 26 [l0, l1, l2, l3] st h Q := wp_nop (show (lcode 150)[25]? = some (.nop) by decide +kernel)
theorem x150_26 : WP d 150 26 [l0, l1, some (vI x), l3] st h Q ↔ WP d 150 27 [l0, l1, some (vI x), l3] (vI x :: st) h Q := wp_iload (show (lcode 150)[26]? = some (.iload 2) by decide +kernel) rfl
theorem x150_27 : WP d 150 27 [l0, some (vI x), l2, l3] st h Q ↔ WP d 150 28 [l0, some (vI x), l2, l3] (vI x :: st) h Q := wp_iload (show (lcode 150)[27]? = some (.iload 1) by decide +kernel) rfl
theorem x150_28 : WP d 150 28 [l0, l1, l2, l3] (vI y :: vI x :: st) h Q ↔ ((wr y ≤ wr x → WP d 150 58 [l0, l1, l2, l3] st h Q) ∧ (¬ (wr y ≤ wr x) → WP d 150 29 [l0, l1, l2, l3] st h Q)) := wp_icmp_ge (show (lcode 150)[28]? = some (.if_icmp .ge 58) by decide +kernel)
theorem x150_29 : WP d 150 29 [l0, l1, l2, l3] st h Q ↔ WP d 150 30 [l0, l1, l2, l3] (vI 0 :: st) h Q := wp_iconst (show (lcode 150)[29]? = some (.iconst 0) by decide +kernel)
theorem x150_30 : WP d 150 30 [l0, l1, l2, l3] (vI x :: st) h Q ↔ (nl l2 ∧ WP d 150 31 [l0, l1, l2, some (vI x)] st h Q) := wp_istore (show (lcode 150)[30]? = some (.istore 3) by decide +kernel) (Nat.le_of_ble_eq_true rfl)
theorem x150_31 : WP d 150 31 [l0, l1, l2, l3] st h Q ↔ WPC d 150 32 [l0, l1, l2, l3] st h Q := wp_nop (show (lcode 150)[31]? = some (.nop) by decide +kernel)
theorem x150_32 : WP d 150 32 [l0, l1, l2, some (vI x)] st h Q ↔ WP d 150 33 [l0, l1, l2, some (vI x)] (vI x :: st) h Q := wp_iload (show (lcode 150)[32]? = some (.iload 3) by decide +kernel) rfl
theorem x150_33 : WP d 150 33 [some (Value.ref a), l1, l2, l3] st h Q ↔ WP d 150 34 [some (Value.ref a), l1, l2, l3] (Value.ref a :: st) h Q := wp_aload (show (lcode 150)[33]? = some (.aload 0) by decide +kernel) rfl
theorem x150_34 : WP d 150 34 [l0, l1, l2, l3] (.ref a :: st) h Q ↔ gF (hRd h a) 11 1 (fun v => WP d 150 35 [l0, l1, l2, l3] (v :: st) h Q) := wp_getfield (show (lcode 150)[34]? = some (.getfield 705) by decide +kernel)
theorem x150_35 : WP d 150 35 [l0, l1, l2, l3] (vI y :: vI x :: st) h Q ↔ ((wr y ≤ wr x → WP d 150 48 [l0, l1, l2, l3] st h Q) ∧ (¬ (wr y ≤ wr x) → WP d 150 36 [l0, l1, l2, l3] st h Q)) := wp_icmp_ge (show (lcode 150)[35]? = some (.if_icmp .ge 48) by decide +kernel)
theorem x150_36 : WP d 150 36 [some (Value.ref a), l1, l2, l3] st h Q ↔ WP d 150 37 [some (Value.ref a), l1, l2, l3] (Value.ref a :: st) h Q := wp_aload (show (lcode 150)[36]? = some (.aload 0) by decide +kernel) rfl
theorem x150_37 : WP d 150 37 [l0, l1, l2, l3] (.ref a :: st) h Q ↔ gF (hRd h a) 11 6 (fun v => WP d 150 38 [l0, l1, l2, l3] (v :: st) h Q) := wp_getfield (show (lcode 150)[37]? = some (.getfield 710) by decide +kernel)
theorem x150_38 : WP d 150 38 [l0, l1, l2, l3] st h Q ↔ WP d 150 39 [l0, l1, l2, l3] (vI 17 :: st) h Q := wp_iconst (show (lcode 150)[38]? = some (.iconst 17) by decide +kernel)
theorem x150_39 : WP d 150 39 [l0, l1, l2, some (vI x)] st h Q ↔ WP d 150 40 [l0, l1, l2, some (vI x)] (vI x :: st) h Q := wp_iload (show (lcode 150)[39]? = some (.iload 3) by decide +kernel) rfl
theorem x150_40 : WP d 150 40 [l0, l1, l2, l3] (vI y :: vI x :: st) h Q ↔ WP d 150 41 [l0, l1, l2, l3] (vI (x + y) :: st) h Q := wp_iadd (show (lcode 150)[40]? = some (.iadd) by decide +kernel)
theorem x150_41 : WP d 150 41 [some (Value.ref a), l1, l2, l3] st h Q ↔ WP d 150 42 [some (Value.ref a), l1, l2, l3] (Value.ref a :: st) h Q := wp_aload (show (lcode 150)[41]? = some (.aload 0) by decide +kernel) rfl
theorem x150_42 : WP d 150 42 [some (Value.ref a), l1, l2, l3] st h Q ↔ WP d 150 43 [some (Value.ref a), l1, l2, l3] (Value.ref a :: st) h Q := wp_aload (show (lcode 150)[42]? = some (.aload 0) by decide +kernel) rfl
theorem x150_43 : WP d 150 43 [l0, l1, l2, l3] (.ref a :: st) h Q ↔ gF (hRd h a) 11 0 (fun v => WP d 150 44 [l0, l1, l2, l3] (v :: st) h Q) := wp_getfield (show (lcode 150)[43]? = some (.getfield 704) by decide +kernel)
theorem x150_44 : WP d 150 44 [l0, l1, l2, l3] (v1 :: v :: st) h Q ↔ (sh st ∧ CALL d 149 [v, v1] h (fun v h => WP d 150 45 [l0, l1, l2, l3] (v.toList ++ st) h Q)) := wp_call (n := 2) (show (lcode 150)[44]? = some (.invokestatic 149) by decide +kernel) (by decide +kernel) (by simp)
theorem x150_45 : WP d 150 45 [l0, l1, l2, l3] (vI y :: vI x :: .ref a :: st) h Q ↔ stA (hRd h a) a x (vI y) (fun c => WP d 150 46 [l0, l1, l2, l3] st (hWr h a c) Q) := wp_iastore (show (lcode 150)[45]? = some (.iastore) by decide +kernel)
theorem x150_46 : WP d 150 46 [l0, l1, l2, some (vI x)] st h Q ↔ (nl l2 ∧ WP d 150 47 [l0, l1, l2, some (vI (x + 1))] st h Q) := wp_iinc (show (lcode 150)[46]? = some (.iinc 3 1) by decide +kernel) rfl (Nat.le_of_ble_eq_true rfl)
theorem x150_47 : WP d 150 47 [l0, l1, l2, l3] st h Q ↔ WP d 150 31 [l0, l1, l2, l3] st h Q := wp_goto (show (lcode 150)[47]? = some (.goto 31) by decide +kernel)
theorem x150_48 : WP d 150 48 [some (Value.ref a), l1, l2, l3] st h Q ↔ WP d 150 49 [some (Value.ref a), l1, l2, l3] (Value.ref a :: st) h Q := wp_aload (show (lcode 150)[48]? = some (.aload 0) by decide +kernel) rfl
theorem x150_49 : WP d 150 49 [l0, l1, l2, l3] (.ref a :: st) h Q ↔ gF (hRd h a) 11 6 (fun v => WP d 150 50 [l0, l1, l2, l3] (v :: st) h Q) := wp_getfield (show (lcode 150)[49]? = some (.getfield 710) by decide +kernel)
theorem x150_50 : WP d 150 50 [l0, l1, l2, l3] st h Q ↔ WP d 150 51 [l0, l1, l2, l3] (vI 23 :: st) h Q := wp_iconst (show (lcode 150)[50]? = some (.iconst 23) by decide +kernel)
theorem x150_51 : WP d 150 51 [l0, l1, l2, l3] (v :: v1 :: st) h Q ↔ ((c1 v ∧ c1 v1) ∧ WP d 150 52 [l0, l1, l2, l3] (v :: v1 :: v :: v1 :: st) h Q) := wp_dup2 (show (lcode 150)[51]? = some (.dup2) by decide +kernel)
theorem x150_52 : WP d 150 52 [l0, l1, l2, l3] (vI x :: .ref a :: st) h Q ↔ ldA (hRd h a) x (fun v => WP d 150 53 [l0, l1, l2, l3] (v :: st) h Q) := wp_iaload (show (lcode 150)[52]? = some (.iaload) by decide +kernel)
theorem x150_53 : WP d 150 53 [l0, l1, l2, l3] st h Q ↔ WP d 150 54 [l0, l1, l2, l3] (vI 1 :: st) h Q := wp_iconst (show (lcode 150)[53]? = some (.iconst 1) by decide +kernel)
theorem x150_54 : WP d 150 54 [l0, l1, l2, l3] (vI y :: vI x :: st) h Q ↔ WP d 150 55 [l0, l1, l2, l3] (vI (x + y) :: st) h Q := wp_iadd (show (lcode 150)[54]? = some (.iadd) by decide +kernel)
theorem x150_55 : WP d 150 55 [l0, l1, l2, l3] (vI y :: vI x :: .ref a :: st) h Q ↔ stA (hRd h a) a x (vI y) (fun c => WP d 150 56 [l0, l1, l2, l3] st (hWr h a c) Q) := wp_iastore (show (lcode 150)[55]? = some (.iastore) by decide +kernel)
theorem x150_56 : WP d 150 56 [l0, l1, some (vI x), l3] st h Q ↔ (nl l1 ∧ WP d 150 57 [l0, l1, some (vI (x + 1)), l3] st h Q) := wp_iinc (show (lcode 150)[56]? = some (.iinc 2 1) by decide +kernel) rfl (Nat.le_of_ble_eq_true rfl)
theorem x150_57 : WP d 150 57 [l0, l1, l2, l3] st h Q ↔ WP d 150 25 [l0, l1, l2, l3] st h Q := wp_goto (show (lcode 150)[57]? = some (.goto 25) by decide +kernel)
theorem x150_58 : WP d 150 58 [some (Value.ref a), l1, l2, l3] st h Q ↔ WP d 150 59 [some (Value.ref a), l1, l2, l3] (Value.ref a :: st) h Q := wp_aload (show (lcode 150)[58]? = some (.aload 0) by decide +kernel) rfl
theorem x150_59 : WP d 150 59 [l0, l1, l2, l3] (.ref a :: st) h Q ↔ gF (hRd h a) 11 6 (fun v => WP d 150 60 [l0, l1, l2, l3] (v :: st) h Q) := wp_getfield (show (lcode 150)[59]? = some (.getfield 710) by decide +kernel)
theorem x150_60 : WP d 150 60 [l0, l1, l2, l3] st h Q ↔ WP d 150 61 [l0, l1, l2, l3] (vI 23 :: st) h Q := wp_iconst (show (lcode 150)[60]? = some (.iconst 23) by decide +kernel)
theorem x150_61 : WP d 150 61 [l0, l1, l2, l3] (vI x :: .ref a :: st) h Q ↔ ldA (hRd h a) x (fun v => WP d 150 62 [l0, l1, l2, l3] (v :: st) h Q) := wp_iaload (show (lcode 150)[61]? = some (.iaload) by decide +kernel)
theorem x150_62 : WP d 150 62 [l0, l1, l2, l3] [vI x] h Q ↔ Q (some (vI x)) h := wp_ireturn (show (lcode 150)[62]? = some (.ireturn) by decide +kernel)
-- 151: WakeOrderModel.undo
theorem x151_0 : WP d 151 0 [some (Value.ref a), l1] st h Q ↔ WP d 151 1 [some (Value.ref a), l1] (Value.ref a :: st) h Q := wp_aload (show (lcode 151)[0]? = some (.aload 0) by decide +kernel) rfl
theorem x151_1 : WP d 151 1 [l0, l1] (.ref a :: st) h Q ↔ gF (hRd h a) 11 24 (fun v => WP d 151 2 [l0, l1] (v :: st) h Q) := wp_getfield (show (lcode 151)[1]? = some (.getfield 728) by decide +kernel)
theorem x151_2 : WP d 151 2 [l0, l1] (vI x :: st) h Q ↔ ((¬ wr x = 0 → WP d 151 5 [l0, l1] st h Q) ∧ (¬ (¬ wr x = 0) → WP d 151 3 [l0, l1] st h Q)) := wp_if_ne (show (lcode 151)[2]? = some (.ifCond .ne 5) by decide +kernel)
theorem x151_3 : WP d 151 3 [l0, l1] st h Q ↔ WP d 151 4 [l0, l1] (vI (-1000000003) :: st) h Q := wp_iconst (show (lcode 151)[3]? = some (.iconst (-1000000003)) by decide +kernel)
theorem x151_4 : WP d 151 4 [l0, l1] [vI x] h Q ↔ Q (some (vI x)) h := wp_ireturn (show (lcode 151)[4]? = some (.ireturn) by decide +kernel)
theorem x151_5 : WP d 151 5 [some (Value.ref a), l1] st h Q ↔ WP d 151 6 [some (Value.ref a), l1] (Value.ref a :: st) h Q := wp_aload (show (lcode 151)[5]? = some (.aload 0) by decide +kernel) rfl
theorem x151_6 : WP d 151 6 [l0, l1] (v :: st) h Q ↔ (c1 v ∧ WP d 151 7 [l0, l1] (v :: v :: st) h Q) := wp_dup (show (lcode 151)[6]? = some (.dup) by decide +kernel)
theorem x151_7 : WP d 151 7 [l0, l1] (.ref a :: st) h Q ↔ gF (hRd h a) 11 24 (fun v => WP d 151 8 [l0, l1] (v :: st) h Q) := wp_getfield (show (lcode 151)[7]? = some (.getfield 728) by decide +kernel)
theorem x151_8 : WP d 151 8 [l0, l1] st h Q ↔ WP d 151 9 [l0, l1] (vI 1 :: st) h Q := wp_iconst (show (lcode 151)[8]? = some (.iconst 1) by decide +kernel)
theorem x151_9 : WP d 151 9 [l0, l1] (vI y :: vI x :: st) h Q ↔ WP d 151 10 [l0, l1] (vI (x - y) :: st) h Q := wp_isub (show (lcode 151)[9]? = some (.isub) by decide +kernel)
theorem x151_10 : WP d 151 10 [l0, l1] (vI x :: .ref a :: st) h Q ↔ pF (hRd h a) 11 24 (vI x) (fun c => WP d 151 11 [l0, l1] st (hWr h a c) Q) := wp_putfield (show (lcode 151)[10]? = some (.putfield 728) by decide +kernel)
theorem x151_11 : WP d 151 11 [l0, l1] st h Q ↔ WP d 151 12 [l0, l1] (vI 0 :: st) h Q := wp_iconst (show (lcode 151)[11]? = some (.iconst 0) by decide +kernel)
theorem x151_12 : WP d 151 12 [l0, l1] (vI x :: st) h Q ↔ (nl l0 ∧ WP d 151 13 [l0, some (vI x)] st h Q) := wp_istore (show (lcode 151)[12]? = some (.istore 1) by decide +kernel) (Nat.le_of_ble_eq_true rfl)
theorem x151_13 : WP d 151 13 [l0, l1] st h Q ↔ WPC d 151 14 [l0, l1] st h Q := wp_nop (show (lcode 151)[13]? = some (.nop) by decide +kernel)
theorem x151_14 : WP d 151 14 [l0, some (vI x)] st h Q ↔ WP d 151 15 [l0, some (vI x)] (vI x :: st) h Q := wp_iload (show (lcode 151)[14]? = some (.iload 1) by decide +kernel) rfl
theorem x151_15 : WP d 151 15 [l0, l1] st h Q ↔ WP d 151 16 [l0, l1] (vI 24 :: st) h Q := wp_iconst (show (lcode 151)[15]? = some (.iconst 24) by decide +kernel)
theorem x151_16 : WP d 151 16 [l0, l1] (vI y :: vI x :: st) h Q ↔ ((wr y ≤ wr x → WP d 151 32 [l0, l1] st h Q) ∧ (¬ (wr y ≤ wr x) → WP d 151 17 [l0, l1] st h Q)) := wp_icmp_ge (show (lcode 151)[16]? = some (.if_icmp .ge 32) by decide +kernel)
theorem x151_17 : WP d 151 17 [some (Value.ref a), l1] st h Q ↔ WP d 151 18 [some (Value.ref a), l1] (Value.ref a :: st) h Q := wp_aload (show (lcode 151)[17]? = some (.aload 0) by decide +kernel) rfl
theorem x151_18 : WP d 151 18 [l0, l1] (.ref a :: st) h Q ↔ gF (hRd h a) 11 6 (fun v => WP d 151 19 [l0, l1] (v :: st) h Q) := wp_getfield (show (lcode 151)[18]? = some (.getfield 710) by decide +kernel)
theorem x151_19 : WP d 151 19 [l0, some (vI x)] st h Q ↔ WP d 151 20 [l0, some (vI x)] (vI x :: st) h Q := wp_iload (show (lcode 151)[19]? = some (.iload 1) by decide +kernel) rfl
theorem x151_20 : WP d 151 20 [some (Value.ref a), l1] st h Q ↔ WP d 151 21 [some (Value.ref a), l1] (Value.ref a :: st) h Q := wp_aload (show (lcode 151)[20]? = some (.aload 0) by decide +kernel) rfl
theorem x151_21 : WP d 151 21 [l0, l1] (.ref a :: st) h Q ↔ gF (hRd h a) 11 25 (fun v => WP d 151 22 [l0, l1] (v :: st) h Q) := wp_getfield (show (lcode 151)[21]? = some (.getfield 729) by decide +kernel)
theorem x151_22 : WP d 151 22 [l0, l1] st h Q ↔ WP d 151 23 [l0, l1] (vI 24 :: st) h Q := wp_iconst (show (lcode 151)[22]? = some (.iconst 24) by decide +kernel)
theorem x151_23 : WP d 151 23 [some (Value.ref a), l1] st h Q ↔ WP d 151 24 [some (Value.ref a), l1] (Value.ref a :: st) h Q := wp_aload (show (lcode 151)[23]? = some (.aload 0) by decide +kernel) rfl
theorem x151_24 : WP d 151 24 [l0, l1] (.ref a :: st) h Q ↔ gF (hRd h a) 11 24 (fun v => WP d 151 25 [l0, l1] (v :: st) h Q) := wp_getfield (show (lcode 151)[24]? = some (.getfield 728) by decide +kernel)
theorem x151_25 : WP d 151 25 [l0, l1] (vI y :: vI x :: st) h Q ↔ WP d 151 26 [l0, l1] (vI (x * y) :: st) h Q := wp_imul (show (lcode 151)[25]? = some (.imul) by decide +kernel)
theorem x151_26 : WP d 151 26 [l0, some (vI x)] st h Q ↔ WP d 151 27 [l0, some (vI x)] (vI x :: st) h Q := wp_iload (show (lcode 151)[26]? = some (.iload 1) by decide +kernel) rfl
theorem x151_27 : WP d 151 27 [l0, l1] (vI y :: vI x :: st) h Q ↔ WP d 151 28 [l0, l1] (vI (x + y) :: st) h Q := wp_iadd (show (lcode 151)[27]? = some (.iadd) by decide +kernel)
theorem x151_28 : WP d 151 28 [l0, l1] (vI x :: .ref a :: st) h Q ↔ ldA (hRd h a) x (fun v => WP d 151 29 [l0, l1] (v :: st) h Q) := wp_iaload (show (lcode 151)[28]? = some (.iaload) by decide +kernel)
theorem x151_29 : WP d 151 29 [l0, l1] (vI y :: vI x :: .ref a :: st) h Q ↔ stA (hRd h a) a x (vI y) (fun c => WP d 151 30 [l0, l1] st (hWr h a c) Q) := wp_iastore (show (lcode 151)[29]? = some (.iastore) by decide +kernel)
theorem x151_30 : WP d 151 30 [l0, some (vI x)] st h Q ↔ (nl l0 ∧ WP d 151 31 [l0, some (vI (x + 1))] st h Q) := wp_iinc (show (lcode 151)[30]? = some (.iinc 1 1) by decide +kernel) rfl (Nat.le_of_ble_eq_true rfl)
theorem x151_31 : WP d 151 31 [l0, l1] st h Q ↔ WP d 151 13 [l0, l1] st h Q := wp_goto (show (lcode 151)[31]? = some (.goto 13) by decide +kernel)
theorem x151_32 : WP d 151 32 [some (Value.ref a), l1] st h Q ↔ WP d 151 33 [some (Value.ref a), l1] (Value.ref a :: st) h Q := wp_aload (show (lcode 151)[32]? = some (.aload 0) by decide +kernel) rfl
theorem x151_33 : WP d 151 33 [l0, l1] (.ref a :: st) h Q ↔ gF (hRd h a) 11 24 (fun v => WP d 151 34 [l0, l1] (v :: st) h Q) := wp_getfield (show (lcode 151)[33]? = some (.getfield 728) by decide +kernel)
theorem x151_34 : WP d 151 34 [l0, l1] [vI x] h Q ↔ Q (some (vI x)) h := wp_ireturn (show (lcode 151)[34]? = some (.ireturn) by decide +kernel)
-- 152: WakeOrderModel.save
theorem x152_0 : WP d 152 0 [l0, l1] st h Q ↔ WP d 152 1 [l0, l1] (vI 0 :: st) h Q := wp_iconst (show (lcode 152)[0]? = some (.iconst 0) by decide +kernel)
theorem x152_1 : WP d 152 1 [l0, l1] (vI x :: st) h Q ↔ (nl l0 ∧ WP d 152 2 [l0, some (vI x)] st h Q) := wp_istore (show (lcode 152)[1]? = some (.istore 1) by decide +kernel) (Nat.le_of_ble_eq_true rfl)
theorem x152_2 : WP d 152 2 [l0, l1] st h Q ↔ WPC d 152 3 [l0, l1] st h Q := wp_nop (show (lcode 152)[2]? = some (.nop) by decide +kernel)
theorem x152_3 : WP d 152 3 [l0, some (vI x)] st h Q ↔ WP d 152 4 [l0, some (vI x)] (vI x :: st) h Q := wp_iload (show (lcode 152)[3]? = some (.iload 1) by decide +kernel) rfl
theorem x152_4 : WP d 152 4 [l0, l1] st h Q ↔ WP d 152 5 [l0, l1] (vI 24 :: st) h Q := wp_iconst (show (lcode 152)[4]? = some (.iconst 24) by decide +kernel)
theorem x152_5 : WP d 152 5 [l0, l1] (vI y :: vI x :: st) h Q ↔ ((wr y ≤ wr x → WP d 152 16 [l0, l1] st h Q) ∧ (¬ (wr y ≤ wr x) → WP d 152 6 [l0, l1] st h Q)) := wp_icmp_ge (show (lcode 152)[5]? = some (.if_icmp .ge 16) by decide +kernel)
theorem x152_6 : WP d 152 6 [some (Value.ref a), l1] st h Q ↔ WP d 152 7 [some (Value.ref a), l1] (Value.ref a :: st) h Q := wp_aload (show (lcode 152)[6]? = some (.aload 0) by decide +kernel) rfl
theorem x152_7 : WP d 152 7 [l0, l1] (.ref a :: st) h Q ↔ gF (hRd h a) 11 26 (fun v => WP d 152 8 [l0, l1] (v :: st) h Q) := wp_getfield (show (lcode 152)[7]? = some (.getfield 730) by decide +kernel)
theorem x152_8 : WP d 152 8 [l0, some (vI x)] st h Q ↔ WP d 152 9 [l0, some (vI x)] (vI x :: st) h Q := wp_iload (show (lcode 152)[8]? = some (.iload 1) by decide +kernel) rfl
theorem x152_9 : WP d 152 9 [some (Value.ref a), l1] st h Q ↔ WP d 152 10 [some (Value.ref a), l1] (Value.ref a :: st) h Q := wp_aload (show (lcode 152)[9]? = some (.aload 0) by decide +kernel) rfl
theorem x152_10 : WP d 152 10 [l0, l1] (.ref a :: st) h Q ↔ gF (hRd h a) 11 6 (fun v => WP d 152 11 [l0, l1] (v :: st) h Q) := wp_getfield (show (lcode 152)[10]? = some (.getfield 710) by decide +kernel)
theorem x152_11 : WP d 152 11 [l0, some (vI x)] st h Q ↔ WP d 152 12 [l0, some (vI x)] (vI x :: st) h Q := wp_iload (show (lcode 152)[11]? = some (.iload 1) by decide +kernel) rfl
theorem x152_12 : WP d 152 12 [l0, l1] (vI x :: .ref a :: st) h Q ↔ ldA (hRd h a) x (fun v => WP d 152 13 [l0, l1] (v :: st) h Q) := wp_iaload (show (lcode 152)[12]? = some (.iaload) by decide +kernel)
theorem x152_13 : WP d 152 13 [l0, l1] (vI y :: vI x :: .ref a :: st) h Q ↔ stA (hRd h a) a x (vI y) (fun c => WP d 152 14 [l0, l1] st (hWr h a c) Q) := wp_iastore (show (lcode 152)[13]? = some (.iastore) by decide +kernel)
theorem x152_14 : WP d 152 14 [l0, some (vI x)] st h Q ↔ (nl l0 ∧ WP d 152 15 [l0, some (vI (x + 1))] st h Q) := wp_iinc (show (lcode 152)[14]? = some (.iinc 1 1) by decide +kernel) rfl (Nat.le_of_ble_eq_true rfl)
theorem x152_15 : WP d 152 15 [l0, l1] st h Q ↔ WP d 152 2 [l0, l1] st h Q := wp_goto (show (lcode 152)[15]? = some (.goto 2) by decide +kernel)
theorem x152_16 : WP d 152 16 [l0, l1] [] h Q ↔ Q none h := wp_return (show (lcode 152)[16]? = some (.return_) by decide +kernel)
-- 153: WakeOrderModel.putBack
theorem x153_0 : WP d 153 0 [l0, l1] st h Q ↔ WP d 153 1 [l0, l1] (vI 0 :: st) h Q := wp_iconst (show (lcode 153)[0]? = some (.iconst 0) by decide +kernel)
theorem x153_1 : WP d 153 1 [l0, l1] (vI x :: st) h Q ↔ (nl l0 ∧ WP d 153 2 [l0, some (vI x)] st h Q) := wp_istore (show (lcode 153)[1]? = some (.istore 1) by decide +kernel) (Nat.le_of_ble_eq_true rfl)
theorem x153_2 : WP d 153 2 [l0, l1] st h Q ↔ WPC d 153 3 [l0, l1] st h Q := wp_nop (show (lcode 153)[2]? = some (.nop) by decide +kernel)
theorem x153_3 : WP d 153 3 [l0, some (vI x)] st h Q ↔ WP d 153 4 [l0, some (vI x)] (vI x :: st) h Q := wp_iload (show (lcode 153)[3]? = some (.iload 1) by decide +kernel) rfl
theorem x153_4 : WP d 153 4 [l0, l1] st h Q ↔ WP d 153 5 [l0, l1] (vI 24 :: st) h Q := wp_iconst (show (lcode 153)[4]? = some (.iconst 24) by decide +kernel)
theorem x153_5 : WP d 153 5 [l0, l1] (vI y :: vI x :: st) h Q ↔ ((wr y ≤ wr x → WP d 153 16 [l0, l1] st h Q) ∧ (¬ (wr y ≤ wr x) → WP d 153 6 [l0, l1] st h Q)) := wp_icmp_ge (show (lcode 153)[5]? = some (.if_icmp .ge 16) by decide +kernel)
theorem x153_6 : WP d 153 6 [some (Value.ref a), l1] st h Q ↔ WP d 153 7 [some (Value.ref a), l1] (Value.ref a :: st) h Q := wp_aload (show (lcode 153)[6]? = some (.aload 0) by decide +kernel) rfl
theorem x153_7 : WP d 153 7 [l0, l1] (.ref a :: st) h Q ↔ gF (hRd h a) 11 6 (fun v => WP d 153 8 [l0, l1] (v :: st) h Q) := wp_getfield (show (lcode 153)[7]? = some (.getfield 710) by decide +kernel)
theorem x153_8 : WP d 153 8 [l0, some (vI x)] st h Q ↔ WP d 153 9 [l0, some (vI x)] (vI x :: st) h Q := wp_iload (show (lcode 153)[8]? = some (.iload 1) by decide +kernel) rfl
theorem x153_9 : WP d 153 9 [some (Value.ref a), l1] st h Q ↔ WP d 153 10 [some (Value.ref a), l1] (Value.ref a :: st) h Q := wp_aload (show (lcode 153)[9]? = some (.aload 0) by decide +kernel) rfl
theorem x153_10 : WP d 153 10 [l0, l1] (.ref a :: st) h Q ↔ gF (hRd h a) 11 26 (fun v => WP d 153 11 [l0, l1] (v :: st) h Q) := wp_getfield (show (lcode 153)[10]? = some (.getfield 730) by decide +kernel)
theorem x153_11 : WP d 153 11 [l0, some (vI x)] st h Q ↔ WP d 153 12 [l0, some (vI x)] (vI x :: st) h Q := wp_iload (show (lcode 153)[11]? = some (.iload 1) by decide +kernel) rfl
theorem x153_12 : WP d 153 12 [l0, l1] (vI x :: .ref a :: st) h Q ↔ ldA (hRd h a) x (fun v => WP d 153 13 [l0, l1] (v :: st) h Q) := wp_iaload (show (lcode 153)[12]? = some (.iaload) by decide +kernel)
theorem x153_13 : WP d 153 13 [l0, l1] (vI y :: vI x :: .ref a :: st) h Q ↔ stA (hRd h a) a x (vI y) (fun c => WP d 153 14 [l0, l1] st (hWr h a c) Q) := wp_iastore (show (lcode 153)[13]? = some (.iastore) by decide +kernel)
theorem x153_14 : WP d 153 14 [l0, some (vI x)] st h Q ↔ (nl l0 ∧ WP d 153 15 [l0, some (vI (x + 1))] st h Q) := wp_iinc (show (lcode 153)[14]? = some (.iinc 1 1) by decide +kernel) rfl (Nat.le_of_ble_eq_true rfl)
theorem x153_15 : WP d 153 15 [l0, l1] st h Q ↔ WP d 153 2 [l0, l1] st h Q := wp_goto (show (lcode 153)[15]? = some (.goto 2) by decide +kernel)
theorem x153_16 : WP d 153 16 [l0, l1] [] h Q ↔ Q none h := wp_return (show (lcode 153)[16]? = some (.return_) by decide +kernel)
-- 154: WakeOrderModel.firstOrder
theorem x154_0 : WP d 154 0 [l0, l1, l2] st h Q ↔ WP d 154 1 [l0, l1, l2] (vI 0 :: st) h Q := wp_iconst (show (lcode 154)[0]? = some (.iconst 0) by decide +kernel)
theorem x154_1 : WP d 154 1 [l0, l1, l2] (vI x :: st) h Q ↔ (nl l0 ∧ WP d 154 2 [l0, some (vI x), l2] st h Q) := wp_istore (show (lcode 154)[1]? = some (.istore 1) by decide +kernel) (Nat.le_of_ble_eq_true rfl)
theorem x154_2 : WP d 154 2 [l0, l1, l2] st h Q ↔ WP d 154 3 [l0, l1, l2] (vI 0 :: st) h Q := wp_iconst (show (lcode 154)[2]? = some (.iconst 0) by decide +kernel)
theorem x154_3 : WP d 154 3 [l0, l1, l2] (vI x :: st) h Q ↔ (nl l1 ∧ WP d 154 4 [l0, l1, some (vI x)] st h Q) := wp_istore (show (lcode 154)[3]? = some (.istore 2) by decide +kernel) (Nat.le_of_ble_eq_true rfl)
theorem x154_4 : WP d 154 4 [l0, l1, l2] st h Q ↔ WPC d 154 5 [l0, l1, l2] st h Q := wp_nop (show (lcode 154)[4]? = some (.nop) by decide +kernel)
theorem x154_5 : WP d 154 5 [l0, l1, some (vI x)] st h Q ↔ WP d 154 6 [l0, l1, some (vI x)] (vI x :: st) h Q := wp_iload (show (lcode 154)[5]? = some (.iload 2) by decide +kernel) rfl
theorem x154_6 : WP d 154 6 [some (Value.ref a), l1, l2] st h Q ↔ WP d 154 7 [some (Value.ref a), l1, l2] (Value.ref a :: st) h Q := wp_aload (show (lcode 154)[6]? = some (.aload 0) by decide +kernel) rfl
theorem x154_7 : WP d 154 7 [l0, l1, l2] (.ref a :: st) h Q ↔ gF (hRd h a) 11 1 (fun v => WP d 154 8 [l0, l1, l2] (v :: st) h Q) := wp_getfield (show (lcode 154)[7]? = some (.getfield 705) by decide +kernel)
theorem x154_8 : WP d 154 8 [l0, l1, l2] (vI y :: vI x :: st) h Q ↔ ((wr y ≤ wr x → WP d 154 24 [l0, l1, l2] st h Q) ∧ (¬ (wr y ≤ wr x) → WP d 154 9 [l0, l1, l2] st h Q)) := wp_icmp_ge (show (lcode 154)[8]? = some (.if_icmp .ge 24) by decide +kernel)
theorem x154_9 : WP d 154 9 [some (Value.ref a), l1, l2] st h Q ↔ WP d 154 10 [some (Value.ref a), l1, l2] (Value.ref a :: st) h Q := wp_aload (show (lcode 154)[9]? = some (.aload 0) by decide +kernel) rfl
theorem x154_10 : WP d 154 10 [l0, l1, l2] (.ref a :: st) h Q ↔ gF (hRd h a) 11 6 (fun v => WP d 154 11 [l0, l1, l2] (v :: st) h Q) := wp_getfield (show (lcode 154)[10]? = some (.getfield 710) by decide +kernel)
theorem x154_11 : WP d 154 11 [l0, l1, l2] st h Q ↔ WP d 154 12 [l0, l1, l2] (vI 8 :: st) h Q := wp_iconst (show (lcode 154)[11]? = some (.iconst 8) by decide +kernel)
theorem x154_12 : WP d 154 12 [l0, l1, l2] (vI x :: .ref a :: st) h Q ↔ ldA (hRd h a) x (fun v => WP d 154 13 [l0, l1, l2] (v :: st) h Q) := wp_iaload (show (lcode 154)[12]? = some (.iaload) by decide +kernel)
theorem x154_13 : WP d 154 13 [l0, l1, some (vI x)] st h Q ↔ WP d 154 14 [l0, l1, some (vI x)] (vI x :: st) h Q := wp_iload (show (lcode 154)[13]? = some (.iload 2) by decide +kernel) rfl
theorem x154_14 : WP d 154 14 [l0, l1, l2] (v1 :: v :: st) h Q ↔ (sh st ∧ CALL d 111 [v, v1] h (fun v h => WP d 154 15 [l0, l1, l2] (v.toList ++ st) h Q)) := wp_call (n := 2) (show (lcode 154)[14]? = some (.invokestatic 111) by decide +kernel) (by decide +kernel) (by simp)
theorem x154_15 : WP d 154 15 [l0, l1, l2] (vI x :: st) h Q ↔ ((¬ wr x = 0 → WP d 154 22 [l0, l1, l2] st h Q) ∧ (¬ (¬ wr x = 0) → WP d 154 16 [l0, l1, l2] st h Q)) := wp_if_ne (show (lcode 154)[15]? = some (.ifCond .ne 22) by decide +kernel)
theorem x154_16 : WP d 154 16 [some (Value.ref a), l1, l2] st h Q ↔ WP d 154 17 [some (Value.ref a), l1, l2] (Value.ref a :: st) h Q := wp_aload (show (lcode 154)[16]? = some (.aload 0) by decide +kernel) rfl
theorem x154_17 : WP d 154 17 [l0, l1, l2] (.ref a :: st) h Q ↔ gF (hRd h a) 11 6 (fun v => WP d 154 18 [l0, l1, l2] (v :: st) h Q) := wp_getfield (show (lcode 154)[17]? = some (.getfield 710) by decide +kernel)
theorem x154_18 : WP d 154 18 [l0, some (vI x), l2] st h Q ↔ WP d 154 19 [l0, some (vI x), l2] (vI x :: st) h Q := wp_iload (show (lcode 154)[18]? = some (.iload 1) by decide +kernel) rfl
theorem x154_19 : WP d 154 19 [l0, l1, some (vI x)] st h Q ↔ WP d 154 20 [l0, l1, some (vI x)] (vI x :: st) h Q := wp_iload (show (lcode 154)[19]? = some (.iload 2) by decide +kernel) rfl
theorem x154_20 : WP d 154 20 [l0, l1, l2] (vI y :: vI x :: .ref a :: st) h Q ↔ stA (hRd h a) a x (vI y) (fun c => WP d 154 21 [l0, l1, l2] st (hWr h a c) Q) := wp_iastore (show (lcode 154)[20]? = some (.iastore) by decide +kernel)
theorem x154_21 : WP d 154 21 [l0, some (vI x), l2] st h Q ↔ (nl l0 ∧ WP d 154 22 [l0, some (vI (x + 1)), l2] st h Q) := wp_iinc (show (lcode 154)[21]? = some (.iinc 1 1) by decide +kernel) rfl (Nat.le_of_ble_eq_true rfl)
theorem x154_22 : WP d 154 22 [l0, l1, some (vI x)] st h Q ↔ (nl l1 ∧ WP d 154 23 [l0, l1, some (vI (x + 1))] st h Q) := wp_iinc (show (lcode 154)[22]? = some (.iinc 2 1) by decide +kernel) rfl (Nat.le_of_ble_eq_true rfl)
theorem x154_23 : WP d 154 23 [l0, l1, l2] st h Q ↔ WP d 154 4 [l0, l1, l2] st h Q := wp_goto (show (lcode 154)[23]? = some (.goto 4) by decide +kernel)
theorem x154_24 : WP d 154 24 [l0, l1, l2] [] h Q ↔ Q none h := wp_return (show (lcode 154)[24]? = some (.return_) by decide +kernel)
-- 155: WakeOrderModel.swap
theorem x155_0 : WP d 155 0 [some (Value.ref a), l1, l2, l3] st h Q ↔ WP d 155 1 [some (Value.ref a), l1, l2, l3] (Value.ref a :: st) h Q := wp_aload (show (lcode 155)[0]? = some (.aload 0) by decide +kernel) rfl
theorem x155_1 : WP d 155 1 [l0, l1, l2, l3] (.ref a :: st) h Q ↔ gF (hRd h a) 11 6 (fun v => WP d 155 2 [l0, l1, l2, l3] (v :: st) h Q) := wp_getfield (show (lcode 155)[1]? = some (.getfield 710) by decide +kernel)
theorem x155_2 : WP d 155 2 [l0, some (vI x), l2, l3] st h Q ↔ WP d 155 3 [l0, some (vI x), l2, l3] (vI x :: st) h Q := wp_iload (show (lcode 155)[2]? = some (.iload 1) by decide +kernel) rfl
theorem x155_3 : WP d 155 3 [l0, l1, l2, l3] (vI x :: .ref a :: st) h Q ↔ ldA (hRd h a) x (fun v => WP d 155 4 [l0, l1, l2, l3] (v :: st) h Q) := wp_iaload (show (lcode 155)[3]? = some (.iaload) by decide +kernel)
theorem x155_4 : WP d 155 4 [l0, l1, l2, l3] (vI x :: st) h Q ↔ (nl l2 ∧ WP d 155 5 [l0, l1, l2, some (vI x)] st h Q) := wp_istore (show (lcode 155)[4]? = some (.istore 3) by decide +kernel) (Nat.le_of_ble_eq_true rfl)
theorem x155_5 : WP d 155 5 [some (Value.ref a), l1, l2, l3] st h Q ↔ WP d 155 6 [some (Value.ref a), l1, l2, l3] (Value.ref a :: st) h Q := wp_aload (show (lcode 155)[5]? = some (.aload 0) by decide +kernel) rfl
theorem x155_6 : WP d 155 6 [l0, l1, l2, l3] (.ref a :: st) h Q ↔ gF (hRd h a) 11 6 (fun v => WP d 155 7 [l0, l1, l2, l3] (v :: st) h Q) := wp_getfield (show (lcode 155)[6]? = some (.getfield 710) by decide +kernel)
theorem x155_7 : WP d 155 7 [l0, some (vI x), l2, l3] st h Q ↔ WP d 155 8 [l0, some (vI x), l2, l3] (vI x :: st) h Q := wp_iload (show (lcode 155)[7]? = some (.iload 1) by decide +kernel) rfl
theorem x155_8 : WP d 155 8 [some (Value.ref a), l1, l2, l3] st h Q ↔ WP d 155 9 [some (Value.ref a), l1, l2, l3] (Value.ref a :: st) h Q := wp_aload (show (lcode 155)[8]? = some (.aload 0) by decide +kernel) rfl
theorem x155_9 : WP d 155 9 [l0, l1, l2, l3] (.ref a :: st) h Q ↔ gF (hRd h a) 11 6 (fun v => WP d 155 10 [l0, l1, l2, l3] (v :: st) h Q) := wp_getfield (show (lcode 155)[9]? = some (.getfield 710) by decide +kernel)
theorem x155_10 : WP d 155 10 [l0, l1, some (vI x), l3] st h Q ↔ WP d 155 11 [l0, l1, some (vI x), l3] (vI x :: st) h Q := wp_iload (show (lcode 155)[10]? = some (.iload 2) by decide +kernel) rfl
theorem x155_11 : WP d 155 11 [l0, l1, l2, l3] (vI x :: .ref a :: st) h Q ↔ ldA (hRd h a) x (fun v => WP d 155 12 [l0, l1, l2, l3] (v :: st) h Q) := wp_iaload (show (lcode 155)[11]? = some (.iaload) by decide +kernel)
theorem x155_12 : WP d 155 12 [l0, l1, l2, l3] (vI y :: vI x :: .ref a :: st) h Q ↔ stA (hRd h a) a x (vI y) (fun c => WP d 155 13 [l0, l1, l2, l3] st (hWr h a c) Q) := wp_iastore (show (lcode 155)[12]? = some (.iastore) by decide +kernel)
theorem x155_13 : WP d 155 13 [some (Value.ref a), l1, l2, l3] st h Q ↔ WP d 155 14 [some (Value.ref a), l1, l2, l3] (Value.ref a :: st) h Q := wp_aload (show (lcode 155)[13]? = some (.aload 0) by decide +kernel) rfl
theorem x155_14 : WP d 155 14 [l0, l1, l2, l3] (.ref a :: st) h Q ↔ gF (hRd h a) 11 6 (fun v => WP d 155 15 [l0, l1, l2, l3] (v :: st) h Q) := wp_getfield (show (lcode 155)[14]? = some (.getfield 710) by decide +kernel)
theorem x155_15 : WP d 155 15 [l0, l1, some (vI x), l3] st h Q ↔ WP d 155 16 [l0, l1, some (vI x), l3] (vI x :: st) h Q := wp_iload (show (lcode 155)[15]? = some (.iload 2) by decide +kernel) rfl
theorem x155_16 : WP d 155 16 [l0, l1, l2, some (vI x)] st h Q ↔ WP d 155 17 [l0, l1, l2, some (vI x)] (vI x :: st) h Q := wp_iload (show (lcode 155)[16]? = some (.iload 3) by decide +kernel) rfl
theorem x155_17 : WP d 155 17 [l0, l1, l2, l3] (vI y :: vI x :: .ref a :: st) h Q ↔ stA (hRd h a) a x (vI y) (fun c => WP d 155 18 [l0, l1, l2, l3] st (hWr h a c) Q) := wp_iastore (show (lcode 155)[17]? = some (.iastore) by decide +kernel)
theorem x155_18 : WP d 155 18 [l0, l1, l2, l3] [] h Q ↔ Q none h := wp_return (show (lcode 155)[18]? = some (.return_) by decide +kernel)
end

/-! ROWS OF THE ABSTRACT MACHINE: one an instruction -/
section AROWS
variable {α : Type} {G : aG} {y : MethodName} {cc : ByteArray} {nL : Nat} {ret : Option FieldType} {ws : List Cond} {d : Nat} {mk : α → Option Value} {o A B : Option (α × aSt)} {pc : Nat} {L : List (Option Value)} {st : List Value} {S : aSt}
theorem x_iadd {x y1 : Int32} (hd : decode cc pc = .ok (.iadd, 1)) (k : aX G y cc nL ret ws d mk o (pc + 1) L (.int (x + y1) :: st) S) : aX G y cc nL ret ws d mk o pc L (.int y1 :: .int x :: st) S := by
  intro post hp p e s m args below meth c H locs ls hs hP hS hL
  exact lv_iadd hs.1 hs.2.1 hd (k post hp p e s m args below meth c H locs ls hs hP hS hL)
theorem x_isub {x y1 : Int32} (hd : decode cc pc = .ok (.isub, 1)) (k : aX G y cc nL ret ws d mk o (pc + 1) L (.int (x - y1) :: st) S) : aX G y cc nL ret ws d mk o pc L (.int y1 :: .int x :: st) S := by
  intro post hp p e s m args below meth c H locs ls hs hP hS hL
  exact lv_isub hs.1 hs.2.1 hd (k post hp p e s m args below meth c H locs ls hs hP hS hL)
theorem x_imul {x y1 : Int32} (hd : decode cc pc = .ok (.imul, 1)) (k : aX G y cc nL ret ws d mk o (pc + 1) L (.int (x * y1) :: st) S) : aX G y cc nL ret ws d mk o pc L (.int y1 :: .int x :: st) S := by
  intro post hp p e s m args below meth c H locs ls hs hP hS hL
  exact lv_imul hs.1 hs.2.1 hd (k post hp p e s m args below meth c H locs ls hs hP hS hL)
theorem x_iand {x y1 : Int32} (hd : decode cc pc = .ok (.iand, 1)) (k : aX G y cc nL ret ws d mk o (pc + 1) L (.int (x &&& y1) :: st) S) : aX G y cc nL ret ws d mk o pc L (.int y1 :: .int x :: st) S := by
  intro post hp p e s m args below meth c H locs ls hs hP hS hL
  exact lv_iand hs.1 hs.2.1 hd (k post hp p e s m args below meth c H locs ls hs hP hS hL)
theorem x_ior {x y1 : Int32} (hd : decode cc pc = .ok (.ior, 1)) (k : aX G y cc nL ret ws d mk o (pc + 1) L (.int (x ||| y1) :: st) S) : aX G y cc nL ret ws d mk o pc L (.int y1 :: .int x :: st) S := by
  intro post hp p e s m args below meth c H locs ls hs hP hS hL
  exact lv_ior hs.1 hs.2.1 hd (k post hp p e s m args below meth c H locs ls hs hP hS hL)
theorem x_ixor {x y1 : Int32} (hd : decode cc pc = .ok (.ixor, 1)) (k : aX G y cc nL ret ws d mk o (pc + 1) L (.int (x ^^^ y1) :: st) S) : aX G y cc nL ret ws d mk o pc L (.int y1 :: .int x :: st) S := by
  intro post hp p e s m args below meth c H locs ls hs hP hS hL
  exact lv_ixor hs.1 hs.2.1 hd (k post hp p e s m args below meth c H locs ls hs hP hS hL)
theorem x_ishl {x y1 : Int32} (hd : decode cc pc = .ok (.ishl, 1)) (k : aX G y cc nL ret ws d mk o (pc + 1) L (.int (x <<< (y1 &&& 31)) :: st) S) : aX G y cc nL ret ws d mk o pc L (.int y1 :: .int x :: st) S := by
  intro post hp p e s m args below meth c H locs ls hs hP hS hL
  exact lv_ishl hs.1 hs.2.1 hd (k post hp p e s m args below meth c H locs ls hs hP hS hL)
theorem x_ishr {x y1 : Int32} (hd : decode cc pc = .ok (.ishr, 1)) (k : aX G y cc nL ret ws d mk o (pc + 1) L (.int (x >>> (y1 &&& 31)) :: st) S) : aX G y cc nL ret ws d mk o pc L (.int y1 :: .int x :: st) S := by
  intro post hp p e s m args below meth c H locs ls hs hP hS hL
  exact lv_ishr hs.1 hs.2.1 hd (k post hp p e s m args below meth c H locs ls hs hP hS hL)
theorem x_ladd {x y1 : Int64} (hd : decode cc pc = .ok (.ladd, 1)) (k : aX G y cc nL ret ws d mk o (pc + 1) L (.long (x + y1) :: st) S) : aX G y cc nL ret ws d mk o pc L (.long y1 :: .long x :: st) S := by
  intro post hp p e s m args below meth c H locs ls hs hP hS hL
  exact lv_ladd hs.1 hs.2.1 hd (k post hp p e s m args below meth c H locs ls hs hP hS hL)
theorem x_lsub {x y1 : Int64} (hd : decode cc pc = .ok (.lsub, 1)) (k : aX G y cc nL ret ws d mk o (pc + 1) L (.long (x - y1) :: st) S) : aX G y cc nL ret ws d mk o pc L (.long y1 :: .long x :: st) S := by
  intro post hp p e s m args below meth c H locs ls hs hP hS hL
  exact lv_lsub hs.1 hs.2.1 hd (k post hp p e s m args below meth c H locs ls hs hP hS hL)
theorem x_land {x y1 : Int64} (hd : decode cc pc = .ok (.land, 1)) (k : aX G y cc nL ret ws d mk o (pc + 1) L (.long (x &&& y1) :: st) S) : aX G y cc nL ret ws d mk o pc L (.long y1 :: .long x :: st) S := by
  intro post hp p e s m args below meth c H locs ls hs hP hS hL
  exact lv_land hs.1 hs.2.1 hd (k post hp p e s m args below meth c H locs ls hs hP hS hL)
theorem x_lor {x y1 : Int64} (hd : decode cc pc = .ok (.lor, 1)) (k : aX G y cc nL ret ws d mk o (pc + 1) L (.long (x ||| y1) :: st) S) : aX G y cc nL ret ws d mk o pc L (.long y1 :: .long x :: st) S := by
  intro post hp p e s m args below meth c H locs ls hs hP hS hL
  exact lv_lor hs.1 hs.2.1 hd (k post hp p e s m args below meth c H locs ls hs hP hS hL)
theorem x_lxor {x y1 : Int64} (hd : decode cc pc = .ok (.lxor, 1)) (k : aX G y cc nL ret ws d mk o (pc + 1) L (.long (x ^^^ y1) :: st) S) : aX G y cc nL ret ws d mk o pc L (.long y1 :: .long x :: st) S := by
  intro post hp p e s m args below meth c H locs ls hs hP hS hL
  exact lv_lxor hs.1 hs.2.1 hd (k post hp p e s m args below meth c H locs ls hs hP hS hL)
theorem x_ineg {x : Int32} (hd : decode cc pc = .ok (.ineg, 1)) (k : aX G y cc nL ret ws d mk o (pc + 1) L (.int (-x) :: st) S) : aX G y cc nL ret ws d mk o pc L (.int x :: st) S := by
  intro post hp p e s m args below meth c H locs ls hs hP hS hL
  exact lv_ineg hs.1 hs.2.1 hd (k post hp p e s m args below meth c H locs ls hs hP hS hL)
theorem x_iushr {x y1 : Int32} (hd : decode cc pc = .ok (.iushr, 1)) (k : aX G y cc nL ret ws d mk o (pc + 1) L (.int ((x.toUInt32 >>> (y1.toUInt32 &&& Int32.toUInt32 31)).toInt32) :: st) S) : aX G y cc nL ret ws d mk o pc L (.int y1 :: .int x :: st) S := by
  intro post hp p e s m args below meth c H locs ls hs hP hS hL
  exact lv_iushr hs.1 hs.2.1 hd rfl (k post hp p e s m args below meth c H locs ls hs hP hS hL)
theorem x_lushr {x : Int64} {y1 : Int32} (hd : decode cc pc = .ok (.lushr, 1)) (k : aX G y cc nL ret ws d mk o (pc + 1) L (.long ((x.toUInt64 >>> (y1.toInt64.toUInt64 &&& Int64.toUInt64 63)).toInt64) :: st) S) : aX G y cc nL ret ws d mk o pc L (.int y1 :: .long x :: st) S := by
  intro post hp p e s m args below meth c H locs ls hs hP hS hL
  exact lv_lushr hs.1 hs.2.1 hd rfl (k post hp p e s m args below meth c H locs ls hs hP hS hL)
theorem x_lshl {x : Int64} {y1 : Int32} (hd : decode cc pc = .ok (.lshl, 1)) (k : aX G y cc nL ret ws d mk o (pc + 1) L (.long (x <<< (y1.toInt64 &&& 63)) :: st) S) : aX G y cc nL ret ws d mk o pc L (.int y1 :: .long x :: st) S := by
  intro post hp p e s m args below meth c H locs ls hs hP hS hL
  exact lv_lshl hs.1 hs.2.1 hd rfl (k post hp p e s m args below meth c H locs ls hs hP hS hL)
theorem x_lshr {x : Int64} {y1 : Int32} (hd : decode cc pc = .ok (.lshr, 1)) (k : aX G y cc nL ret ws d mk o (pc + 1) L (.long (x >>> (y1.toInt64 &&& 63)) :: st) S) : aX G y cc nL ret ws d mk o pc L (.int y1 :: .long x :: st) S := by
  intro post hp p e s m args below meth c H locs ls hs hP hS hL
  exact lv_lshr hs.1 hs.2.1 hd rfl (k post hp p e s m args below meth c H locs ls hs hP hS hL)
theorem x_i2l {x : Int32} (hd : decode cc pc = .ok (.i2l, 1)) (k : aX G y cc nL ret ws d mk o (pc + 1) L (.long x.toInt64 :: st) S) : aX G y cc nL ret ws d mk o pc L (.int x :: st) S := by
  intro post hp p e s m args below meth c H locs ls hs hP hS hL
  exact lv_i2l hs.1 hs.2.1 hd rfl (k post hp p e s m args below meth c H locs ls hs hP hS hL)
theorem x_l2i {x : Int64} (hd : decode cc pc = .ok (.l2i, 1)) (k : aX G y cc nL ret ws d mk o (pc + 1) L (.int x.toInt32 :: st) S) : aX G y cc nL ret ws d mk o pc L (.long x :: st) S := by
  intro post hp p e s m args below meth c H locs ls hs hP hS hL
  exact lv_l2i hs.1 hs.2.1 hd rfl (k post hp p e s m args below meth c H locs ls hs hP hS hL)
theorem x_i2b {x : Int32} (hd : decode cc pc = .ok (.i2b, 1)) (k : aX G y cc nL ret ws d mk o (pc + 1) L (.int x.toInt8.toInt32 :: st) S) : aX G y cc nL ret ws d mk o pc L (.int x :: st) S := by
  intro post hp p e s m args below meth c H locs ls hs hP hS hL
  exact lv_i2b hs.1 hs.2.1 hd rfl (k post hp p e s m args below meth c H locs ls hs hP hS hL)
theorem x_i2c {x : Int32} (hd : decode cc pc = .ok (.i2c, 1)) (k : aX G y cc nL ret ws d mk o (pc + 1) L (.int (x.toUInt32 % 65536).toInt32 :: st) S) : aX G y cc nL ret ws d mk o pc L (.int x :: st) S := by
  intro post hp p e s m args below meth c H locs ls hs hP hS hL
  exact lv_i2c hs.1 hs.2.1 hd rfl (k post hp p e s m args below meth c H locs ls hs hP hS hL)
theorem x_lcmp {x y1 : Int64} (hd : decode cc pc = .ok (.lcmp, 1)) (k : aX G y cc nL ret ws d mk o (pc + 1) L (.int (lg_cmp x y1) :: st) S) : aX G y cc nL ret ws d mk o pc L (.long y1 :: .long x :: st) S := by
  intro post hp p e s m args below meth c H locs ls hs hP hS hL
  exact W.lcmp hs.1 hs.2.1 hd (k post hp p e s m args below meth c H locs ls hs hP hS hL)
theorem x_iconst {n : Int} (v : Int32) (hd : decode cc pc = .ok (.iconst n, 1)) (hv : Int32.ofInt n = v) (k : aX G y cc nL ret ws d mk o (pc + 1) L (.int v :: st) S) : aX G y cc nL ret ws d mk o pc L st S := by
  intro post hp p e s m args below meth c H locs ls hs hP hS hL
  exact lv_iconst hs.1 hs.2.1 hd hv (k post hp p e s m args below meth c H locs ls hs hP hS hL)
theorem x_bipush {n : Int} (v : Int32) (hd : decode cc pc = .ok (.bipush n, 2)) (hv : (Int8.ofInt n).toInt32 = v) (k : aX G y cc nL ret ws d mk o (pc + 2) L (.int v :: st) S) : aX G y cc nL ret ws d mk o pc L st S := by
  intro post hp p e s m args below meth c H locs ls hs hP hS hL
  exact lv_bipush hs.1 hs.2.1 hd hv (k post hp p e s m args below meth c H locs ls hs hP hS hL)
theorem x_sipush {n : Int} (v : Int32) (hd : decode cc pc = .ok (.sipush n, 3)) (hv : (Int16.ofInt n).toInt32 = v) (k : aX G y cc nL ret ws d mk o (pc + 3) L (.int v :: st) S) : aX G y cc nL ret ws d mk o pc L st S := by
  intro post hp p e s m args below meth c H locs ls hs hP hS hL
  exact lv_sipush hs.1 hs.2.1 hd hv (k post hp p e s m args below meth c H locs ls hs hP hS hL)
theorem x_lconst {n : Fin 2} (v : Int64) (hd : decode cc pc = .ok (.lconst n, 1)) (hv : Int64.ofNat (n : Nat) = v) (k : aX G y cc nL ret ws d mk o (pc + 1) L (.long v :: st) S) : aX G y cc nL ret ws d mk o pc L st S := by
  intro post hp p e s m args below meth c H locs ls hs hP hS hL
  exact lv_lconst hs.1 hs.2.1 hd hv (k post hp p e s m args below meth c H locs ls hs hP hS hL)
theorem x_null  (hd : decode cc pc = .ok (.aconst_null, 1)) (k : aX G y cc nL ret ws d mk o (pc + 1) L (.null :: st) S) : aX G y cc nL ret ws d mk o pc L st S := by
  intro post hp p e s m args below meth c H locs ls hs hP hS hL
  exact lv_null hs.1 hs.2.1 hd (k post hp p e s m args below meth c H locs ls hs hP hS hL)
theorem x_ldc {idx : Nat} {v : Int32} (hd : decode cc pc = .ok (.ldc idx, 2)) (hw : Cond.constant y.cls idx v ∈ ws) (k : aX G y cc nL ret ws d mk o (pc + 2) L (.int v :: st) S) : aX G y cc nL ret ws d mk o pc L st S := by
  intro post hp p e s m args below meth c H locs ls hs hP hS hL
  exact lv_ldc hs.1 hs.2.1 hs.2.2.2.2.1 (hs.2.2.2.2.2.1 _ hw) hd (k post hp p e s m args below meth c H locs ls hs hP hS hL)
theorem x_ldcw {idx : Nat} {v : Int32} (hd : decode cc pc = .ok (.ldc_w idx, 3)) (hw : Cond.constant y.cls idx v ∈ ws) (k : aX G y cc nL ret ws d mk o (pc + 3) L (.int v :: st) S) : aX G y cc nL ret ws d mk o pc L st S := by
  intro post hp p e s m args below meth c H locs ls hs hP hS hL
  exact lv_ldcw hs.1 hs.2.1 hs.2.2.2.2.1 (hs.2.2.2.2.2.1 _ hw) hd (k post hp p e s m args below meth c H locs ls hs hP hS hL)
theorem x_ldc2 {idx : Nat} {v : Int64} (hd : decode cc pc = .ok (.ldc2_w idx, 3)) (hw : Cond.constantLong y.cls idx v ∈ ws) (k : aX G y cc nL ret ws d mk o (pc + 3) L (.long v :: st) S) : aX G y cc nL ret ws d mk o pc L st S := by
  intro post hp p e s m args below meth c H locs ls hs hP hS hL
  exact lv_ldc2 hs.1 hs.2.1 hs.2.2.2.2.1 (hs.2.2.2.2.2.1 _ hw) hd (k post hp p e s m args below meth c H locs ls hs hP hS hL)
theorem x_ldcS {idx i : Nat} {tx : String} (hd : decode cc pc = .ok (.ldc idx, 2)) (hq : (y.cls, idx, tx, i) ∈ a_strR) (k : aX G y cc nL ret ws d mk o (pc + 2) L (.ref (1000 + i) :: st) S) : aX G y cc nL ret ws d mk o pc L st S := by
  intro post hp p e s m args below meth c H locs ls hs hP hS hL
  exact va_ldcS hs.1 hs.2.1 hs.2.2.2.2.1 (hs.2.2.2.2.2.2.2.2.2.2.1 _ hq) hd (k post hp p e s m args below meth c H locs ls hs hP hS hL)
theorem x_dup {v : Value} (hd : decode cc pc = .ok (.dup, 1)) (hc : v.category = 1) (k : aX G y cc nL ret ws d mk o (pc + 1) L (v :: v :: st) S) : aX G y cc nL ret ws d mk o pc L (v :: st) S := by
  intro post hp p e s m args below meth c H locs ls hs hP hS hL
  exact lv_dup hs.1 hs.2.1 hd ((a_v_cat _ _).trans hc) (k post hp p e s m args below meth c H locs ls hs hP hS hL)
theorem x_pop {v : Value} (hd : decode cc pc = .ok (.pop, 1)) (hc : v.category = 1) (k : aX G y cc nL ret ws d mk o (pc + 1) L st S) : aX G y cc nL ret ws d mk o pc L (v :: st) S := by
  intro post hp p e s m args below meth c H locs ls hs hP hS hL
  exact lv_pop hs.1 hs.2.1 hd ((a_v_cat _ _).trans hc) (k post hp p e s m args below meth c H locs ls hs hP hS hL)
theorem x_dup2 {v w : Value} (hd : decode cc pc = .ok (.dup2, 1)) (hc : v.category = 1) (hc2 : w.category = 1) (k : aX G y cc nL ret ws d mk o (pc + 1) L (v :: w :: v :: w :: st) S) : aX G y cc nL ret ws d mk o pc L (v :: w :: st) S := by
  intro post hp p e s m args below meth c H locs ls hs hP hS hL
  exact lv_dup2_11 hs.1 hs.2.1 hd ((a_v_cat _ _).trans hc) ((a_v_cat _ _).trans hc2) (k post hp p e s m args below meth c H locs ls hs hP hS hL)
theorem x_iload_n {k4 : Fin 4} {i : Nat} {x : Int32} (hd : decode cc pc = .ok (.iload_n k4, 1)) (hi : (k4 : Nat) = i) (hl : L[i]? = some (some (.int x))) (k : aX G y cc nL ret ws d mk o (pc + 1) L (.int x :: st) S) : aX G y cc nL ret ws d mk o pc L st S := by
  intro post hp p e s m args below meth c H locs ls hs hP hS hL
  exact lv_iload_n hs.1 hs.2.1 hd hi (hL.2.2 _ _ hl) (k post hp p e s m args below meth c H locs ls hs hP hS hL)
theorem x_iload {i : Nat} {x : Int32} (hd : decode cc pc = .ok (.iload i, 2)) (hl : L[i]? = some (some (.int x))) (k : aX G y cc nL ret ws d mk o (pc + 2) L (.int x :: st) S) : aX G y cc nL ret ws d mk o pc L st S := by
  intro post hp p e s m args below meth c H locs ls hs hP hS hL
  exact lv_iload hs.1 hs.2.1 hd (hL.2.2 _ _ hl) (k post hp p e s m args below meth c H locs ls hs hP hS hL)
theorem x_lload_n {k4 : Fin 4} {i : Nat} {x : Int64} (hd : decode cc pc = .ok (.lload_n k4, 1)) (hi : (k4 : Nat) = i) (hl : L[i]? = some (some (.long x))) (k : aX G y cc nL ret ws d mk o (pc + 1) L (.long x :: st) S) : aX G y cc nL ret ws d mk o pc L st S := by
  intro post hp p e s m args below meth c H locs ls hs hP hS hL
  exact lv_lload_n hs.1 hs.2.1 hd hi (hL.2.2 _ _ hl) (k post hp p e s m args below meth c H locs ls hs hP hS hL)
theorem x_lload {i : Nat} {x : Int64} (hd : decode cc pc = .ok (.lload i, 2)) (hl : L[i]? = some (some (.long x))) (k : aX G y cc nL ret ws d mk o (pc + 2) L (.long x :: st) S) : aX G y cc nL ret ws d mk o pc L st S := by
  intro post hp p e s m args below meth c H locs ls hs hP hS hL
  exact lv_lload hs.1 hs.2.1 hd (hL.2.2 _ _ hl) (k post hp p e s m args below meth c H locs ls hs hP hS hL)
theorem x_aload_n {k4 : Fin 4} {i : Nat} {x : Nat} (hd : decode cc pc = .ok (.aload_n k4, 1)) (hi : (k4 : Nat) = i) (hl : L[i]? = some (some (.ref x))) (k : aX G y cc nL ret ws d mk o (pc + 1) L (.ref x :: st) S) : aX G y cc nL ret ws d mk o pc L st S := by
  intro post hp p e s m args below meth c H locs ls hs hP hS hL
  exact lv_aload_n hs.1 hs.2.1 hd hi (hL.2.2 _ _ hl) (k post hp p e s m args below meth c H locs ls hs hP hS hL)
theorem x_aload {i : Nat} {x : Nat} (hd : decode cc pc = .ok (.aload i, 2)) (hl : L[i]? = some (some (.ref x))) (k : aX G y cc nL ret ws d mk o (pc + 2) L (.ref x :: st) S) : aX G y cc nL ret ws d mk o pc L st S := by
  intro post hp p e s m args below meth c H locs ls hs hP hS hL
  exact lv_aload hs.1 hs.2.1 hd (hL.2.2 _ _ hl) (k post hp p e s m args below meth c H locs ls hs hP hS hL)
theorem x_istore_n {k4 : Fin 4} {i : Nat} {x : Int32} (hd : decode cc pc = .ok (.istore_n k4, 1)) (hi : (k4 : Nat) = i) (hn : i < nL) (hok : aOk1 L i = true) (k : aX G y cc nL ret ws d mk o (pc + 1) (L.set i (some (.int x))) st S) : aX G y cc nL ret ws d mk o pc L (.int x :: st) S := by
  intro post hp p e s m args below meth c H locs ls hs hP hS hL
  exact lv_istore_n hs.1 hs.2.1 hd hi (a_L_has hL) hn rfl (fun ls' hl' => k post hp p e s m args below meth c H locs ls' hs hP hS (a_L_set1 (v := .int x) hok hl'))
theorem x_istore {i : Nat} {x : Int32} (hd : decode cc pc = .ok (.istore i, 2)) (hn : i < nL) (hok : aOk1 L i = true) (k : aX G y cc nL ret ws d mk o (pc + 2) (L.set i (some (.int x))) st S) : aX G y cc nL ret ws d mk o pc L (.int x :: st) S := by
  intro post hp p e s m args below meth c H locs ls hs hP hS hL
  exact lv_istore hs.1 hs.2.1 hd (a_L_has hL) hn rfl (fun ls' hl' => k post hp p e s m args below meth c H locs ls' hs hP hS (a_L_set1 (v := .int x) hok hl'))
theorem x_lstore_n {k4 : Fin 4} {i : Nat} {x : Int64} (hd : decode cc pc = .ok (.lstore_n k4, 1)) (hi : (k4 : Nat) = i) (hn : i + 1 < nL) (hok : aOk1 L i = true) (k : aX G y cc nL ret ws d mk o (pc + 1) ((L.set i (some (.long x))).set (i + 1) none) st S) : aX G y cc nL ret ws d mk o pc L (.long x :: st) S := by
  intro post hp p e s m args below meth c H locs ls hs hP hS hL
  exact lv_lstore_n hs.1 hs.2.1 hd hi (a_L_has hL) hn rfl (fun ls' hl' => k post hp p e s m args below meth c H locs ls' hs hP hS (a_L_set2 (v := .long x) hok hl'))
theorem x_lstore {i : Nat} {x : Int64} (hd : decode cc pc = .ok (.lstore i, 2)) (hn : i + 1 < nL) (hok : aOk1 L i = true) (k : aX G y cc nL ret ws d mk o (pc + 2) ((L.set i (some (.long x))).set (i + 1) none) st S) : aX G y cc nL ret ws d mk o pc L (.long x :: st) S := by
  intro post hp p e s m args below meth c H locs ls hs hP hS hL
  exact lv_lstore hs.1 hs.2.1 hd (a_L_has hL) hn rfl (fun ls' hl' => k post hp p e s m args below meth c H locs ls' hs hP hS (a_L_set2 (v := .long x) hok hl'))
theorem x_astore_n {k4 : Fin 4} {i : Nat} {x : Nat} (hd : decode cc pc = .ok (.astore_n k4, 1)) (hi : (k4 : Nat) = i) (hn : i < nL) (hok : aOk1 L i = true) (k : aX G y cc nL ret ws d mk o (pc + 1) (L.set i (some (.ref x))) st S) : aX G y cc nL ret ws d mk o pc L (.ref x :: st) S := by
  intro post hp p e s m args below meth c H locs ls hs hP hS hL
  exact lv_astore_n hs.1 hs.2.1 hd hi (a_L_has hL) hn rfl (fun ls' hl' => k post hp p e s m args below meth c H locs ls' hs hP hS (a_L_set1 (v := .ref x) hok hl'))
theorem x_astore {i : Nat} {x : Nat} (hd : decode cc pc = .ok (.astore i, 2)) (hn : i < nL) (hok : aOk1 L i = true) (k : aX G y cc nL ret ws d mk o (pc + 2) (L.set i (some (.ref x))) st S) : aX G y cc nL ret ws d mk o pc L (.ref x :: st) S := by
  intro post hp p e s m args below meth c H locs ls hs hP hS hL
  exact lv_astore hs.1 hs.2.1 hd (a_L_has hL) hn rfl (fun ls' hl' => k post hp p e s m args below meth c H locs ls' hs hP hS (a_L_set1 (v := .ref x) hok hl'))
theorem x_iinc {i : Nat} {n : Int} {x w : Int32} (hd : decode cc pc = .ok (.iinc i n, 3)) (hl : L[i]? = some (some (.int x))) (hw : Int32.ofInt n = w) (hn : i < nL) (hok : aOk1 L i = true) (k : aX G y cc nL ret ws d mk o (pc + 3) (L.set i (some (.int (x + w)))) st S) : aX G y cc nL ret ws d mk o pc L st S := by
  intro post hp p e s m args below meth c H locs ls hs hP hS hL
  obtain ⟨q, hq⟩ := List.getElem?_of_mem (a_al_in (ρ := G.2.2.2.1) hl)
  subst hw
  exact lv_iinc hs.1 hs.2.1 hd (a_L_has hL) (k := q) (x := x) hq rfl hn rfl (fun ls' hl' => k post hp p e s m args below meth c H locs ls' hs hP hS (a_L_set1 (v := .int (x + Int32.ofInt n)) hok hl'))
theorem x_if_eq {x : Int32} {off : Int} {tgt : Nat} (hd : decode cc pc = .ok (.ifCond .eq off, 3)) (ht : (pc : Int) + off = (tgt : Int)) (kt : aX G y cc nL ret ws d mk A tgt L st S) (kf : aX G y cc nL ret ws d mk B (pc + 3) L st S) : aX G y cc nL ret ws d mk (if x = 0 then A else B) pc L (.int x :: st) S := by
  intro post hp p e s m args below meth c H locs ls hs hP hS hL
  exact lv_if_eq hs.1 hs.2.1 hd ht (fun hc => kt post (by rw [if_pos hc] at hp; exact hp) p e s m args below meth c H locs ls hs hP hS hL) (fun hc => kf post (by rw [if_neg hc] at hp; exact hp) p e s m args below meth c H locs ls hs hP hS hL)
theorem x_icmp_eq {x y1 : Int32} {off : Int} {tgt : Nat} (hd : decode cc pc = .ok (.if_icmp .eq off, 3)) (ht : (pc : Int) + off = (tgt : Int)) (kt : aX G y cc nL ret ws d mk A tgt L st S) (kf : aX G y cc nL ret ws d mk B (pc + 3) L st S) : aX G y cc nL ret ws d mk (if x = y1 then A else B) pc L (.int y1 :: .int x :: st) S := by
  intro post hp p e s m args below meth c H locs ls hs hP hS hL
  exact lv_icmp_eq hs.1 hs.2.1 hd ht (fun hc => kt post (by rw [if_pos hc] at hp; exact hp) p e s m args below meth c H locs ls hs hP hS hL) (fun hc => kf post (by rw [if_neg hc] at hp; exact hp) p e s m args below meth c H locs ls hs hP hS hL)
theorem x_if_ne {x : Int32} {off : Int} {tgt : Nat} (hd : decode cc pc = .ok (.ifCond .ne off, 3)) (ht : (pc : Int) + off = (tgt : Int)) (kt : aX G y cc nL ret ws d mk A tgt L st S) (kf : aX G y cc nL ret ws d mk B (pc + 3) L st S) : aX G y cc nL ret ws d mk (if x = 0 then B else A) pc L (.int x :: st) S := by
  intro post hp p e s m args below meth c H locs ls hs hP hS hL
  exact lv_if_ne hs.1 hs.2.1 hd ht (fun hc => kt post (by rw [if_neg hc] at hp; exact hp) p e s m args below meth c H locs ls hs hP hS hL) (fun hc => kf post (by rw [if_pos hc] at hp; exact hp) p e s m args below meth c H locs ls hs hP hS hL)
theorem x_icmp_ne {x y1 : Int32} {off : Int} {tgt : Nat} (hd : decode cc pc = .ok (.if_icmp .ne off, 3)) (ht : (pc : Int) + off = (tgt : Int)) (kt : aX G y cc nL ret ws d mk A tgt L st S) (kf : aX G y cc nL ret ws d mk B (pc + 3) L st S) : aX G y cc nL ret ws d mk (if x = y1 then B else A) pc L (.int y1 :: .int x :: st) S := by
  intro post hp p e s m args below meth c H locs ls hs hP hS hL
  exact lv_icmp_ne hs.1 hs.2.1 hd ht (fun hc => kt post (by rw [if_neg hc] at hp; exact hp) p e s m args below meth c H locs ls hs hP hS hL) (fun hc => kf post (by rw [if_pos hc] at hp; exact hp) p e s m args below meth c H locs ls hs hP hS hL)
theorem x_if_lt {x : Int32} {off : Int} {tgt : Nat} (hd : decode cc pc = .ok (.ifCond .lt off, 3)) (ht : (pc : Int) + off = (tgt : Int)) (kt : aX G y cc nL ret ws d mk A tgt L st S) (kf : aX G y cc nL ret ws d mk B (pc + 3) L st S) : aX G y cc nL ret ws d mk (if x < 0 then A else B) pc L (.int x :: st) S := by
  intro post hp p e s m args below meth c H locs ls hs hP hS hL
  exact lv_if_lt hs.1 hs.2.1 hd ht (fun hc => kt post (by rw [if_pos hc] at hp; exact hp) p e s m args below meth c H locs ls hs hP hS hL) (fun hc => kf post (by rw [if_neg hc] at hp; exact hp) p e s m args below meth c H locs ls hs hP hS hL)
theorem x_icmp_lt {x y1 : Int32} {off : Int} {tgt : Nat} (hd : decode cc pc = .ok (.if_icmp .lt off, 3)) (ht : (pc : Int) + off = (tgt : Int)) (kt : aX G y cc nL ret ws d mk A tgt L st S) (kf : aX G y cc nL ret ws d mk B (pc + 3) L st S) : aX G y cc nL ret ws d mk (if x < y1 then A else B) pc L (.int y1 :: .int x :: st) S := by
  intro post hp p e s m args below meth c H locs ls hs hP hS hL
  exact lv_icmp_lt hs.1 hs.2.1 hd ht (fun hc => kt post (by rw [if_pos hc] at hp; exact hp) p e s m args below meth c H locs ls hs hP hS hL) (fun hc => kf post (by rw [if_neg hc] at hp; exact hp) p e s m args below meth c H locs ls hs hP hS hL)
theorem x_if_ge {x : Int32} {off : Int} {tgt : Nat} (hd : decode cc pc = .ok (.ifCond .ge off, 3)) (ht : (pc : Int) + off = (tgt : Int)) (kt : aX G y cc nL ret ws d mk A tgt L st S) (kf : aX G y cc nL ret ws d mk B (pc + 3) L st S) : aX G y cc nL ret ws d mk (if 0 ≤ x then A else B) pc L (.int x :: st) S := by
  intro post hp p e s m args below meth c H locs ls hs hP hS hL
  exact lv_if_ge hs.1 hs.2.1 hd ht (fun hc => kt post (by rw [if_pos hc] at hp; exact hp) p e s m args below meth c H locs ls hs hP hS hL) (fun hc => kf post (by rw [if_neg hc] at hp; exact hp) p e s m args below meth c H locs ls hs hP hS hL)
theorem x_icmp_ge {x y1 : Int32} {off : Int} {tgt : Nat} (hd : decode cc pc = .ok (.if_icmp .ge off, 3)) (ht : (pc : Int) + off = (tgt : Int)) (kt : aX G y cc nL ret ws d mk A tgt L st S) (kf : aX G y cc nL ret ws d mk B (pc + 3) L st S) : aX G y cc nL ret ws d mk (if y1 ≤ x then A else B) pc L (.int y1 :: .int x :: st) S := by
  intro post hp p e s m args below meth c H locs ls hs hP hS hL
  exact lv_icmp_ge hs.1 hs.2.1 hd ht (fun hc => kt post (by rw [if_pos hc] at hp; exact hp) p e s m args below meth c H locs ls hs hP hS hL) (fun hc => kf post (by rw [if_neg hc] at hp; exact hp) p e s m args below meth c H locs ls hs hP hS hL)
theorem x_if_gt {x : Int32} {off : Int} {tgt : Nat} (hd : decode cc pc = .ok (.ifCond .gt off, 3)) (ht : (pc : Int) + off = (tgt : Int)) (kt : aX G y cc nL ret ws d mk A tgt L st S) (kf : aX G y cc nL ret ws d mk B (pc + 3) L st S) : aX G y cc nL ret ws d mk (if 0 < x then A else B) pc L (.int x :: st) S := by
  intro post hp p e s m args below meth c H locs ls hs hP hS hL
  exact lv_if_gt hs.1 hs.2.1 hd ht (fun hc => kt post (by rw [if_pos hc] at hp; exact hp) p e s m args below meth c H locs ls hs hP hS hL) (fun hc => kf post (by rw [if_neg hc] at hp; exact hp) p e s m args below meth c H locs ls hs hP hS hL)
theorem x_icmp_gt {x y1 : Int32} {off : Int} {tgt : Nat} (hd : decode cc pc = .ok (.if_icmp .gt off, 3)) (ht : (pc : Int) + off = (tgt : Int)) (kt : aX G y cc nL ret ws d mk A tgt L st S) (kf : aX G y cc nL ret ws d mk B (pc + 3) L st S) : aX G y cc nL ret ws d mk (if y1 < x then A else B) pc L (.int y1 :: .int x :: st) S := by
  intro post hp p e s m args below meth c H locs ls hs hP hS hL
  exact lv_icmp_gt hs.1 hs.2.1 hd ht (fun hc => kt post (by rw [if_pos hc] at hp; exact hp) p e s m args below meth c H locs ls hs hP hS hL) (fun hc => kf post (by rw [if_neg hc] at hp; exact hp) p e s m args below meth c H locs ls hs hP hS hL)
theorem x_if_le {x : Int32} {off : Int} {tgt : Nat} (hd : decode cc pc = .ok (.ifCond .le off, 3)) (ht : (pc : Int) + off = (tgt : Int)) (kt : aX G y cc nL ret ws d mk A tgt L st S) (kf : aX G y cc nL ret ws d mk B (pc + 3) L st S) : aX G y cc nL ret ws d mk (if x ≤ 0 then A else B) pc L (.int x :: st) S := by
  intro post hp p e s m args below meth c H locs ls hs hP hS hL
  exact lv_if_le hs.1 hs.2.1 hd ht (fun hc => kt post (by rw [if_pos hc] at hp; exact hp) p e s m args below meth c H locs ls hs hP hS hL) (fun hc => kf post (by rw [if_neg hc] at hp; exact hp) p e s m args below meth c H locs ls hs hP hS hL)
theorem x_icmp_le {x y1 : Int32} {off : Int} {tgt : Nat} (hd : decode cc pc = .ok (.if_icmp .le off, 3)) (ht : (pc : Int) + off = (tgt : Int)) (kt : aX G y cc nL ret ws d mk A tgt L st S) (kf : aX G y cc nL ret ws d mk B (pc + 3) L st S) : aX G y cc nL ret ws d mk (if x ≤ y1 then A else B) pc L (.int y1 :: .int x :: st) S := by
  intro post hp p e s m args below meth c H locs ls hs hP hS hL
  exact lv_icmp_le hs.1 hs.2.1 hd ht (fun hc => kt post (by rw [if_pos hc] at hp; exact hp) p e s m args below meth c H locs ls hs hP hS hL) (fun hc => kf post (by rw [if_neg hc] at hp; exact hp) p e s m args below meth c H locs ls hs hP hS hL)
theorem x_goto {off : Int} {tgt : Nat} (hd : decode cc pc = .ok (.goto off, 3)) (ht : (pc : Int) + off = (tgt : Int)) (k : aX G y cc nL ret ws d mk o tgt L st S) : aX G y cc nL ret ws d mk o pc L st S := by
  intro post hp p e s m args below meth c H locs ls hs hP hS hL
  exact lv_goto hs.1 hs.2.1 hd ht (k post hp p e s m args below meth c H locs ls hs hP hS hL)
theorem x_ifnonnull {off : Int} {tgt : Nat} {x : Nat} (hd : decode cc pc = .ok (.ifnonnull off, 3)) (ht : (pc : Int) + off = (tgt : Int)) (k : aX G y cc nL ret ws d mk o tgt L st S) : aX G y cc nL ret ws d mk o pc L (.ref x :: st) S := by
  intro post hp p e s m args below meth c H locs ls hs hP hS hL
  exact lv_ifnonnull hs.1 hs.2.1 hd ht (k post hp p e s m args below meth c H locs ls hs hP hS hL)
theorem x_ifnull {off : Int} {x : Nat} (hd : decode cc pc = .ok (.ifnull off, 3)) (k : aX G y cc nL ret ws d mk o (pc + 3) L st S) : aX G y cc nL ret ws d mk o pc L (.ref x :: st) S := by
  intro post hp p e s m args below meth c H locs ls hs hP hS hL
  exact lv_ifnull hs.1 hs.2.1 hd (k post hp p e s m args below meth c H locs ls hs hP hS hL)
theorem x_ifnullN {off : Int} {tgt : Nat} (hd : decode cc pc = .ok (.ifnull off, 3)) (ht : (pc : Int) + off = (tgt : Int)) (k : aX G y cc nL ret ws d mk o tgt L st S) : aX G y cc nL ret ws d mk o pc L (.null :: st) S := by
  intro post hp p e s m args below meth c H locs ls hs hP hS hL
  exact lv_ifnullN hs.1 hs.2.1 hd ht (k post hp p e s m args below meth c H locs ls hs hP hS hL)
theorem x_ifnonnullN {off : Int} (hd : decode cc pc = .ok (.ifnonnull off, 3)) (k : aX G y cc nL ret ws d mk o (pc + 3) L st S) : aX G y cc nL ret ws d mk o pc L (.null :: st) S := by
  intro post hp p e s m args below meth c H locs ls hs hP hS hL
  exact lv_ifnonnullN hs.1 hs.2.1 hd (k post hp p e s m args below meth c H locs ls hs hP hS hL)
theorem x_idiv {x y1 : Int32} (hd : decode cc pc = .ok (.idiv, 1)) (k : aX G y cc nL ret ws d mk o (pc + 1) L (.int (x / y1) :: st) S) : aX G y cc nL ret ws d mk (if y1 = 0 then none else o) pc L (.int y1 :: .int x :: st) S := by
  intro post hp p e s m args below meth c H locs ls hs hP hS hL
  by_cases hz : y1 = 0
  · rw [if_pos hz] at hp
    obtain ⟨r, S', h, -⟩ := hp
    cases h
  · rw [if_neg hz] at hp
    exact lv_idiv hs.1 hs.2.1 hd hz (k post hp p e s m args below meth c H locs ls hs hP hS hL)
theorem x_idivc {x y1 : Int32} (hd : decode cc pc = .ok (.idiv, 1)) (hz : ¬ y1 = 0) (k : aX G y cc nL ret ws d mk o (pc + 1) L (.int (x / y1) :: st) S) : aX G y cc nL ret ws d mk o pc L (.int y1 :: .int x :: st) S := by
  intro post hp p e s m args below meth c H locs ls hs hP hS hL
  exact lv_idiv hs.1 hs.2.1 hd hz (k post hp p e s m args below meth c H locs ls hs hP hS hL)
theorem x_irem {x y1 : Int32} (hd : decode cc pc = .ok (.irem, 1)) (k : aX G y cc nL ret ws d mk o (pc + 1) L (.int (x - x / y1 * y1) :: st) S) : aX G y cc nL ret ws d mk (if y1 = 0 then none else o) pc L (.int y1 :: .int x :: st) S := by
  intro post hp p e s m args below meth c H locs ls hs hP hS hL
  by_cases hz : y1 = 0
  · rw [if_pos hz] at hp
    obtain ⟨r, S', h, -⟩ := hp
    cases h
  · rw [if_neg hz] at hp
    exact lv_irem hs.1 hs.2.1 hd hz (k post hp p e s m args below meth c H locs ls hs hP hS hL)
theorem x_iremc {x y1 : Int32} (hd : decode cc pc = .ok (.irem, 1)) (hz : ¬ y1 = 0) (k : aX G y cc nL ret ws d mk o (pc + 1) L (.int (x - x / y1 * y1) :: st) S) : aX G y cc nL ret ws d mk o pc L (.int y1 :: .int x :: st) S := by
  intro post hp p e s m args below meth c H locs ls hs hP hS hL
  exact lv_irem hs.1 hs.2.1 hd hz (k post hp p e s m args below meth c H locs ls hs hP hS hL)
theorem x_iret {v : Int32} (hd : decode cc pc = .ok (.ireturn, 1)) (hr : ret = some .int) : aX G y cc nL ret ws d mk_i (some (v, S)) pc L [.int v] S := by
  intro post hp p e s m args below meth c H locs ls hs hP hS hL
  obtain ⟨r, S', h, hp⟩ := hp
  cases h
  exact W.iret (v := v) hs.1 hs.2.1 (hs.2.2.1.trans hr) (fun t ht hW => ⟨⟨_, _, rfl, hp, by rw [ht]; exact hP⟩, hS.F ht⟩) hS.2.2 hd hs.2.2.2.2.2.2.1
theorem x_lret {v : Int64} (hd : decode cc pc = .ok (.lreturn, 1)) (hr : ret = some .long) : aX G y cc nL ret ws d mk_l (some (v, S)) pc L [.long v] S := by
  intro post hp p e s m args below meth c H locs ls hs hP hS hL
  obtain ⟨r, S', h, hp⟩ := hp
  cases h
  exact W.lret (v := v) hs.1 hs.2.1 (hs.2.2.1.trans hr) (fun t ht hW => ⟨⟨_, _, rfl, hp, by rw [ht]; exact hP⟩, hS.F ht⟩) hS.2.2 hd hs.2.2.2.2.2.2.1
theorem x_vret  (hd : decode cc pc = .ok (.return_, 1)) (hr : ret = none) : aX G y cc nL ret ws d mk_v (some ((), S)) pc L [] S := by
  intro post hp p e s m args below meth c H locs ls hs hP hS hL
  obtain ⟨r, S', h, hp⟩ := hp
  cases h
  exact W.vret hs.1 hs.2.1 (hs.2.2.1.trans hr) (fun t ht hW => ⟨⟨_, _, rfl, hp, by rw [ht]; exact hP⟩, hS.F ht⟩) hS.2.2 hd hs.2.2.2.2.2.2.1
theorem x_zret {v : Int32} {ty : FieldType} (hd : decode cc pc = .ok (.ireturn, 1)) (hr : ret = some ty) (hn : narrow ty (.int v) = .int v) : aX G y cc nL ret ws d mk_i (some (v, S)) pc L [.int v] S := by
  intro post hp p e s m args below meth c H locs ls hs hP hS hL
  obtain ⟨r, S', h, hp⟩ := hp
  cases h
  exact W.zret (v := v) hs.1 hs.2.1 (hs.2.2.1.trans hr) hn (fun t ht hW => ⟨⟨_, _, rfl, hp, by rw [ht]; exact hP⟩, hS.F ht⟩) hS.2.2 hd hs.2.2.2.2.2.2.1
theorem x_aret {a : Nat} {rt : FieldType} (hd : decode cc pc = .ok (.areturn, 1)) (hr : ret = some rt) (hrt : (∃ n, rt = .object n) ∨ ∃ t, rt = .array t) : aX G y cc nL ret ws d mk_r (some (some a, S)) pc L [.ref a] S := by
  intro post hp p e s m args below meth c H locs ls hs hP hS hL
  obtain ⟨r, S', h, hp⟩ := hp
  cases h
  exact W.aret (v := .ref (G.2.2.2.1 a)) hs.1 hs.2.1 (hs.2.2.1.trans hr) hrt (Or.inr ⟨_, rfl⟩) (fun t ht hW => ⟨⟨_, _, rfl, hp, by rw [ht]; exact hP⟩, hS.F ht⟩) hS.2.2 hd hs.2.2.2.2.2.2.1
theorem x_aretN {rt : FieldType} (hd : decode cc pc = .ok (.areturn, 1)) (hr : ret = some rt) (hrt : (∃ n, rt = .object n) ∨ ∃ t, rt = .array t) : aX G y cc nL ret ws d mk_r (some (none, S)) pc L [.null] S := by
  intro post hp p e s m args below meth c H locs ls hs hP hS hL
  obtain ⟨r, S', h, hp⟩ := hp
  cases h
  exact W.aret (v := .null) hs.1 hs.2.1 (hs.2.2.1.trans hr) hrt (Or.inl rfl) (fun t ht hW => ⟨⟨_, _, rfl, hp, by rw [ht]; exact hP⟩, hS.F ht⟩) hS.2.2 hd hs.2.2.2.2.2.2.1
theorem a_z01 {v : Int32} (h : v = 0 ∨ v = 1) : narrow .boolean (.int v) = .int v := by
  rcases h with h | h <;> subst h <;> rfl
theorem x_zretc {v : Int32} (hd : decode cc pc = .ok (.ireturn, 1)) (hr : ret = some .boolean) : aX G y cc nL ret ws d mk_i (if v = 0 ∨ v = 1 then some (v, S) else none) pc L [.int v] S := by
  intro post hp
  by_cases h : v = 0 ∨ v = 1
  · rw [if_pos h] at hp
    exact x_zret hd hr (a_z01 h) post hp
  · rw [if_neg h] at hp
    obtain ⟨r, S', h, -⟩ := hp
    cases h
theorem x_none : aX G y cc nL ret ws d mk none pc L st S := by
  intro post hp
  obtain ⟨r, S', h, -⟩ := hp
  cases h
theorem x_le {L' : List (Option Value)} (k : aX G y cc nL ret ws d mk o pc L' st S) (hle : aLe L' L) : aX G y cc nL ret ws d mk o pc L st S := by
  intro post hp p e s m args below meth c H locs ls hs hP hS hL
  exact k post hp p e s m args below meth c H locs ls hs hP hS (a_L_le hle hL)
theorem x_eq {o' : Option (α × aSt)} (h : o = o') (k : aX G y cc nL ret ws d mk o' pc L st S) : aX G y cc nL ret ws d mk o pc L st S := h ▸ k
theorem x_if {C : Prop} [Decidable C] (kt : C → aX G y cc nL ret ws d mk A pc L st S) (kf : ¬ C → aX G y cc nL ret ws d mk B pc L st S) : aX G y cc nL ret ws d mk (if C then A else B) pc L st S := by
  by_cases h : C
  · rw [if_pos h]; exact kt h
  · rw [if_neg h]; exact kf h
/-- a switch: one value apart -/
theorem x_sw {x : Int32} (v : Int32) (kt : aX G y cc nL ret ws d mk A pc L (.int v :: st) S) (kf : ¬ x = v → aX G y cc nL ret ws d mk B pc L (.int x :: st) S) : aX G y cc nL ret ws d mk (if x = v then A else B) pc L (.int x :: st) S :=
  x_if (fun h => by rw [h]; exact kt) kf
theorem x_tabIn {dflt lo hi : Int} {offs : Array Int} {len : Nat} {x : Int32} {off : Int} {tgt : Nat} (hd : decode cc pc = .ok (.tableswitch dflt lo hi offs, len)) (h1 : ¬ x.toInt < lo) (h2 : ¬ hi < x.toInt) (ho : offs[(x.toInt - lo).toNat]? = some off) (ht : (pc : Int) + off = (tgt : Int)) (k : aX G y cc nL ret ws d mk o tgt L st S) : aX G y cc nL ret ws d mk o pc L (.int x :: st) S := by
  intro post hp p e s m args below meth c H locs ls hs hP hS hL
  exact lv_tableIn hs.1 hs.2.1 hd h1 h2 ho ht (k post hp p e s m args below meth c H locs ls hs hP hS hL)
theorem a_out {x : Int32} {lo hi : Int} (n : Nat) (vs : List Int32) (hn : lo + n = hi + 1) (hv : (List.range n).all (fun j => vs.any (fun v => v.toInt == lo + (j : Int))) = true) (hx : ∀ v ∈ vs, ¬ x = v) : x.toInt < lo ∨ hi < x.toInt := by
  by_cases h1 : x.toInt < lo
  · exact Or.inl h1
  · by_cases h2 : hi < x.toInt
    · exact Or.inr h2
    · exfalso
      have hj := List.all_eq_true.mp hv (x.toInt - lo).toNat (List.mem_range.mpr (by omega))
      obtain ⟨v, hv1, hv2⟩ := List.any_eq_true.mp hj
      have e : v.toInt = x.toInt := by
        have := eq_of_beq hv2
        rw [this]
        omega
      exact hx v hv1 (Int32.toInt_inj.mp e.symm)
theorem x_tabOut {dflt lo hi : Int} {offs : Array Int} {len : Nat} {x : Int32} {tgt : Nat} (hd : decode cc pc = .ok (.tableswitch dflt lo hi offs, len)) (h : x.toInt < lo ∨ hi < x.toInt) (ht : (pc : Int) + dflt = (tgt : Int)) (k : aX G y cc nL ret ws d mk o tgt L st S) : aX G y cc nL ret ws d mk o pc L (.int x :: st) S := by
  intro post hp p e s m args below meth c H locs ls hs hP hS hL
  exact lv_tableOut hs.1 hs.2.1 hd h ht (k post hp p e s m args below meth c H locs ls hs hP hS hL)
theorem x_look {dflt : Int} {ps : Array (Int × Int)} {len : Nat} {x : Int32} {off : Int} {tgt : Nat} (hd : decode cc pc = .ok (.lookupswitch dflt ps, len)) (hp0 : (ps.toList.zip (ps.toList.drop 1)).all (fun (a, next) => a.1 < next.1) = true) (ho : Op.lookupswitch.offset ps.toList dflt x.toInt = off) (ht : (pc : Int) + off = (tgt : Int)) (k : aX G y cc nL ret ws d mk o tgt L st S) : aX G y cc nL ret ws d mk o pc L (.int x :: st) S := by
  intro post hp p e s m args below meth c H locs ls hs hP hS hL
  exact lv_lookup hs.1 hs.2.1 hd hp0 ho ht (k post hp p e s m args below meth c H locs ls hs hP hS hL)
end AROWS

/-! written by program: what the bytecode does, and the walk -/
theorem dd_J13_bitCount_95d88 : yJ13_bitCount_95d88.cls ≠ "java/lang/invoke/MethodHandle" ∧ yJ13_bitCount_95d88.cls ≠ "java/lang/invoke/VarHandle" ∧ (parseMethodDescriptor yJ13_bitCount_95d88.desc).map (fun d => d.parameters.length) = some 1 := by decide +kernel
theorem w_X6_things_f12 : Cond.fieldLink yX6_things.cls 12 (TX6 0).1 (TX6 0).2.1 (TX6 0).2.2.1 ∈ uX6_things := List.mem_cons_of_mem _ (wU_r1 _ (List.mem_of_getElem? (i := 16) rfl))
theorem w_X6_things_f49 : Cond.fieldLink yX6_things.cls 49 (TX2 0).1 (TX2 0).2.1 (TX2 0).2.2.1 ∈ uX6_things := List.mem_cons_of_mem _ (wU_r5 _ (List.mem_of_getElem? (i := 3) rfl))
theorem g_X6_things_53 : GoodIn uX6_things (va_wsS yX6_things.cls 53 yJ13_bitCount_95d88 uJ13_bitCount_95d88) := gU_S (wU_r5 _ (List.mem_of_getElem? (i := 4) rfl)) (wU_r5 _ (List.mem_of_getElem? (i := 5) rfl)) (wU_r5 _ (List.mem_of_getElem? (i := 6) rfl)) (wU_r5 _ (List.mem_of_getElem? (i := 7) rfl))
def f_X6_things (p1 : Int64) (S : aSt) : Option (Int32 × aSt) := (aB (f_J13_bitCount_95d88 (S.2 (1) 0) S) (fun r1_ S1 => (aLt (aUl S1 (1) 0 p1) (fun S2 => (some (r1_, S2))))))
set_option maxRecDepth 20000 in
set_option maxHeartbeats 4000000 in
theorem m_X6_things {G : aG} {K : Option Nat} (hF : aFt G K) (p1 : Int64) (S : aSt) : aMet G yX6_things uX6_things 3 mk_i (f_X6_things p1 S) [.ref (0), .long p1] S := by
  refine x_met (cc := cX6_things) (nL := 4) (ret := (some .int)) (L := [some (.ref (0)), some (.long p1), none, none]) (by decide +kernel) rfl (And.intro rfl (And.intro rfl trivial)) (Nat.le_of_ble_eq_true rfl) ?_
  unfold f_X6_things
  refine x_aload_n dX6_things_0 rfl rfl ?_
  refine x_getR (r := 1) (k := 0) (j := 0) dX6_things_1 hF.1 rfl rfl (Nat.le_of_ble_eq_true rfl) (fun w h => List.mem_cons_of_mem _ (inlX6 w h)) w_X6_things_f12 ?_
  refine x_getJ (k := 1) (j := 0) dX6_things_4 hF.2.1.1 rfl rfl (Nat.le_of_ble_eq_true rfl) (fun w h => List.mem_cons_of_mem _ (inlX2 w h)) w_X6_things_f49 ?_
  refine x_b (fun r1_ S1 e1 => ?_)
  refine x_callSi (As := [.long (S.2 (1) 0)]) dX6_things_7 (aMet_of e1 (m_J13_bitCount_95d88 (S.2 (1) 0) S)) g_X6_things_53 rfl dd_J13_bitCount_95d88 rfl rfl (Nat.le_of_ble_eq_true rfl) (Nat.le_of_ble_eq_true rfl) (Nat.le_of_ble_eq_true rfl) ?_
  refine x_istore_n dX6_things_10 rfl (Nat.le_of_ble_eq_true rfl) rfl ?_
  refine x_aload_n dX6_things_11 rfl rfl ?_
  refine x_getR (r := 1) (k := 0) (j := 0) dX6_things_12 hF.1 rfl rfl (Nat.le_of_ble_eq_true rfl) (fun w h => List.mem_cons_of_mem _ (inlX6 w h)) w_X6_things_f12 ?_
  refine x_lload_n dX6_things_15 rfl rfl ?_
  refine x_putJ (k := 1) (j := 0) dX6_things_16 hF.2.1.1 rfl rfl (Nat.le_of_ble_eq_true rfl) (fun w h => List.mem_cons_of_mem _ (inlX2 w h)) w_X6_things_f49 tyX2 tyX2_ok nmX2 rfl (by decide +kernel) ?_
  refine x_ltS (fun S2 => ?_)
  refine x_iload_n dX6_things_19 rfl rfl ?_
  exact x_iret dX6_things_20 rfl
theorem g_X6_feed_57 : GoodIn uX6_feed (va_wsS yX6_feed.cls 57 yX6_outside uX6_outside) := gU_S (wU_r5 _ (List.mem_of_getElem? (i := 21) rfl)) (wU_r5 _ (List.mem_of_getElem? (i := 22) rfl)) (wU_r1 _ (List.mem_of_getElem? (i := 2) rfl)) (wU_r5 _ (List.mem_of_getElem? (i := 23) rfl))
theorem w_X6_feed_f12 : Cond.fieldLink yX6_feed.cls 12 (TX6 0).1 (TX6 0).2.1 (TX6 0).2.2.1 ∈ uX6_feed := List.mem_cons_of_mem _ (wU_r1 _ (List.mem_of_getElem? (i := 16) rfl))
theorem w_X6_feed_f61 : Cond.fieldLink yX6_feed.cls 61 (TX2 2).1 (TX2 2).2.1 (TX2 2).2.2.1 ∈ uX6_feed := List.mem_cons_of_mem _ (wU_r5 _ (List.mem_of_getElem? (i := 19) rfl))
theorem w_X6_feed_f65 : Cond.fieldLink yX6_feed.cls 65 (TX2 6).1 (TX2 6).2.1 (TX2 6).2.2.1 ∈ uX6_feed := List.mem_cons_of_mem _ (wU_r5 _ (List.mem_of_getElem? (i := 20) rfl))
def f_X6_feed (p1 : Int32) (S : aSt) : Option (Int32 × aSt) := (aB (f_X6_outside p1 (127 : Int32) S) (fun r1_ S1 => (if r1_ = 0 then (if (S1.1 (1) 2) < (100 : Int32) then (if (S1.1 (1) 2) < 0 ∨ 100 ≤ ((S1.1 (1) 2)).toNatClampNeg then none else (aLt (aUi S1 (1 + 1) ((S1.1 (1) 2)).toNatClampNeg (vp_nar .byte (p1).toInt8.toInt32)) (fun S2 => (aLt (aUi S2 (1) 2 ((S2.1 (1) 2) + (1 : Int32))) (fun S3 => (some ((S3.1 (1) 2), S3))))))) else (some ((-4 : Int32), S1))) else (some ((-2 : Int32), S1)))))
set_option maxRecDepth 20000 in
set_option maxHeartbeats 4000000 in
theorem m_X6_feed {G : aG} {K : Option Nat} (hF : aFt G K) (p1 : Int32) (S : aSt) : aMet G yX6_feed uX6_feed 3 mk_i (f_X6_feed p1 S) [.ref (0), .int p1] S := by
  refine x_met (cc := cX6_feed) (nL := 2) (ret := (some .int)) (L := [some (.ref (0)), some (.int p1)]) (by decide +kernel) rfl (And.intro rfl (And.intro rfl trivial)) (Nat.le_of_ble_eq_true rfl) ?_
  unfold f_X6_feed
  refine x_iload_n dX6_feed_0 rfl rfl ?_
  refine x_bipush (127 : Int32) dX6_feed_1 (by decide) ?_
  refine x_b (fun r1_ S1 e1 => ?_)
  refine x_callSi (As := [.int p1, .int (127 : Int32)]) dX6_feed_3 (aMet_of e1 (m_X6_outside p1 (127 : Int32) S)) g_X6_feed_57 rfl dd_X6_outside rfl rfl (Nat.le_of_ble_eq_true rfl) (Nat.le_of_ble_eq_true rfl) (Nat.le_of_ble_eq_true rfl) ?_
  refine x_if_eq (tgt := 12) dX6_feed_6 (by decide) ?_ ?_
  · refine x_aload_n dX6_feed_12 rfl rfl ?_
    refine x_getR (r := 1) (k := 0) (j := 0) dX6_feed_13 hF.1 rfl rfl (Nat.le_of_ble_eq_true rfl) (fun w h => List.mem_cons_of_mem _ (inlX6 w h)) w_X6_feed_f12 ?_
    refine x_getI (k := 1) (j := 2) dX6_feed_16 hF.2.1.1 rfl rfl (Nat.le_of_ble_eq_true rfl) (fun w h => List.mem_cons_of_mem _ (inlX2 w h)) w_X6_feed_f61 ?_
    refine x_bipush (100 : Int32) dX6_feed_19 (by decide) ?_
    refine x_icmp_lt (tgt := 27) dX6_feed_21 (by decide) ?_ ?_
    · refine x_aload_n dX6_feed_27 rfl rfl ?_
      refine x_getR (r := 1) (k := 0) (j := 0) dX6_feed_28 hF.1 rfl rfl (Nat.le_of_ble_eq_true rfl) (fun w h => List.mem_cons_of_mem _ (inlX6 w h)) w_X6_feed_f12 ?_
      refine x_getR (r := 1 + 1) (k := 1) (j := 6) dX6_feed_31 hF.2.1.1 rfl rfl (Nat.le_of_ble_eq_true rfl) (fun w h => List.mem_cons_of_mem _ (inlX2 w h)) w_X6_feed_f65 ?_
      refine x_aload_n dX6_feed_34 rfl rfl ?_
      refine x_getR (r := 1) (k := 0) (j := 0) dX6_feed_35 hF.1 rfl rfl (Nat.le_of_ble_eq_true rfl) (fun w h => List.mem_cons_of_mem _ (inlX6 w h)) w_X6_feed_f12 ?_
      refine x_getI (k := 1) (j := 2) dX6_feed_38 hF.2.1.1 rfl rfl (Nat.le_of_ble_eq_true rfl) (fun w h => List.mem_cons_of_mem _ (inlX2 w h)) w_X6_feed_f61 ?_
      refine x_iload_n dX6_feed_41 rfl rfl ?_
      refine x_i2b dX6_feed_42 ?_
      refine x_bast dX6_feed_43 hF.2.1.2.1 ?_
      refine x_ltS (fun S2 => ?_)
      refine x_aload_n dX6_feed_44 rfl rfl ?_
      refine x_getR (r := 1) (k := 0) (j := 0) dX6_feed_45 hF.1 rfl rfl (Nat.le_of_ble_eq_true rfl) (fun w h => List.mem_cons_of_mem _ (inlX6 w h)) w_X6_feed_f12 ?_
      refine x_dup dX6_feed_48 rfl ?_
      refine x_getI (k := 1) (j := 2) dX6_feed_49 hF.2.1.1 rfl rfl (Nat.le_of_ble_eq_true rfl) (fun w h => List.mem_cons_of_mem _ (inlX2 w h)) w_X6_feed_f61 ?_
      refine x_iconst (1 : Int32) dX6_feed_52 (by decide) ?_
      refine x_iadd dX6_feed_53 ?_
      refine x_putI (k := 1) (j := 2) dX6_feed_54 hF.2.1.1 rfl rfl (Nat.le_of_ble_eq_true rfl) (fun w h => List.mem_cons_of_mem _ (inlX2 w h)) w_X6_feed_f61 tyX2 tyX2_ok nmX2 rfl (by decide +kernel) ?_
      refine x_ltS (fun S3 => ?_)
      refine x_aload_n dX6_feed_57 rfl rfl ?_
      refine x_getR (r := 1) (k := 0) (j := 0) dX6_feed_58 hF.1 rfl rfl (Nat.le_of_ble_eq_true rfl) (fun w h => List.mem_cons_of_mem _ (inlX6 w h)) w_X6_feed_f12 ?_
      refine x_getI (k := 1) (j := 2) dX6_feed_61 hF.2.1.1 rfl rfl (Nat.le_of_ble_eq_true rfl) (fun w h => List.mem_cons_of_mem _ (inlX2 w h)) w_X6_feed_f61 ?_
      exact x_iret dX6_feed_64 rfl
    · refine x_bipush (-4 : Int32) dX6_feed_24 (by decide) ?_
      exact x_iret dX6_feed_26 rfl
  · refine x_bipush (-2 : Int32) dX6_feed_9 (by decide) ?_
    exact x_iret dX6_feed_11 rfl
theorem dd_X3_reads : yX3_reads.cls = RX3 ∧ yX3_reads.cls ≠ "java/lang/invoke/MethodHandle" ∧ yX3_reads.cls ≠ "java/lang/invoke/VarHandle" ∧ (parseMethodDescriptor yX3_reads.desc).map (fun d => d.parameters.length) = some 2 := by decide +kernel
theorem w_X6_wood_f12 : Cond.fieldLink yX6_wood.cls 12 (TX6 0).1 (TX6 0).2.1 (TX6 0).2.2.1 ∈ uX6_wood := List.mem_cons_of_mem _ (wU_r1 _ (List.mem_of_getElem? (i := 16) rfl))
theorem w_X6_wood_f69 : Cond.fieldLink yX6_wood.cls 69 (TX2 3).1 (TX2 3).2.1 (TX2 3).2.2.1 ∈ uX6_wood := List.mem_cons_of_mem _ (wU_r6 _ (List.mem_of_getElem? (i := 11) rfl))
theorem w_X6_wood_f21 : Cond.fieldLink yX6_wood.cls 21 (TX6 1).1 (TX6 1).2.1 (TX6 1).2.2.1 ∈ uX6_wood := List.mem_cons_of_mem _ (wU_r1 _ (List.mem_of_getElem? (i := 20) rfl))
theorem w_X6_wood_f65 : Cond.fieldLink yX6_wood.cls 65 (TX2 6).1 (TX2 6).2.1 (TX2 6).2.2.1 ∈ uX6_wood := List.mem_cons_of_mem _ (wU_r5 _ (List.mem_of_getElem? (i := 20) rfl))
theorem w_X6_wood_f61 : Cond.fieldLink yX6_wood.cls 61 (TX2 2).1 (TX2 2).2.1 (TX2 2).2.2.1 ∈ uX6_wood := List.mem_cons_of_mem _ (wU_r5 _ (List.mem_of_getElem? (i := 19) rfl))
theorem g_X6_wood_72 : GoodIn uX6_wood (wsV yX6_wood.cls 72 RX3 yX3_reads uX3_reads) := gU_V (wU_r6 _ (List.mem_of_getElem? (i := 15) rfl)) (wU_r6 _ (List.mem_of_getElem? (i := 16) rfl)) (wU_r6 _ (List.mem_of_getElem? (i := 17) rfl)) (wU_r1 _ (List.mem_of_getElem? (i := 19) rfl)) (wU_r6 _ (List.mem_of_getElem? (i := 18) rfl))
theorem w_X6_wood_f79 : Cond.fieldLink yX6_wood.cls 79 (TX2 8).1 (TX2 8).2.1 (TX2 8).2.2.1 ∈ uX6_wood := List.mem_cons_of_mem _ (wU_r6 _ (List.mem_of_getElem? (i := 13) rfl))
theorem w_X6_wood_f83 : Cond.fieldLink yX6_wood.cls 83 (TX3 0).1 (TX3 0).2.1 (TX3 0).2.2.1 ∈ uX6_wood := List.mem_cons_of_mem _ (wU_r6 _ (List.mem_of_getElem? (i := 14) rfl))
theorem g_X6_wood_86 : GoodIn uX6_wood (wsV yX6_wood.cls 86 RX5 yX5_copyFrom uX5_copyFrom) := gU_V (wU_r13 _ (List.mem_of_getElem? (i := 22) rfl)) (wU_r13 _ (List.mem_of_getElem? (i := 23) rfl)) (wU_r14 _ (List.mem_of_getElem? (i := 0) rfl)) (wU_r2 _ (List.mem_of_getElem? (i := 20) rfl)) (wU_r14 _ (List.mem_of_getElem? (i := 1) rfl))
theorem w_X6_wood_f76 : Cond.fieldLink yX6_wood.cls 76 (TX3 3).1 (TX3 3).2.1 (TX3 3).2.2.1 ∈ uX6_wood := List.mem_cons_of_mem _ (wU_r6 _ (List.mem_of_getElem? (i := 12) rfl))
def f_X6_wood  (S : aSt) : Option (Int32 × aSt) := (if (S.1 (1) 3) < (5 : Int32) then (aB (f_X3_reads (1 + 1) (S.1 (1) 2) S) (fun r1_ S1 => (aLt (aUi S1 (1) 2 (0 : Int32)) (fun S2 => (if r1_ = 0 then (some (((-10 : Int32) - (S2.1 (22) 3)), S2)) else (aB (f_X5_copyFrom (1 + 3) (23) S2) (fun r3_ S3 => (aLt (aUi S3 (1) 3 ((S3.1 (1) 3) + (1 : Int32))) (fun S4 => (some (((S4.1 (1) 3) - (1 : Int32)), S4))))))))))) else (some ((-4 : Int32), S)))
set_option maxRecDepth 20000 in
set_option maxHeartbeats 4000000 in
theorem m_X6_wood {G : aG} {K : Option Nat} (hF : aFt G K)  (S : aSt) : aMet G yX6_wood uX6_wood 32 mk_i (f_X6_wood S) [.ref (0)] S := by
  refine x_met (cc := cX6_wood) (nL := 2) (ret := (some .int)) (L := [some (.ref (0)), none]) (by decide +kernel) rfl (And.intro rfl trivial) (Nat.le_of_ble_eq_true rfl) ?_
  unfold f_X6_wood
  refine x_aload_n dX6_wood_0 rfl rfl ?_
  refine x_getR (r := 1) (k := 0) (j := 0) dX6_wood_1 hF.1 rfl rfl (Nat.le_of_ble_eq_true rfl) (fun w h => List.mem_cons_of_mem _ (inlX6 w h)) w_X6_wood_f12 ?_
  refine x_getI (k := 1) (j := 3) dX6_wood_4 hF.2.1.1 rfl rfl (Nat.le_of_ble_eq_true rfl) (fun w h => List.mem_cons_of_mem _ (inlX2 w h)) w_X6_wood_f69 ?_
  refine x_iconst (5 : Int32) dX6_wood_7 (by decide) ?_
  refine x_icmp_lt (tgt := 14) dX6_wood_8 (by decide) ?_ ?_
  · refine x_aload_n dX6_wood_14 rfl rfl ?_
    refine x_getR (r := 22) (k := 0) (j := 1) dX6_wood_15 hF.1 rfl rfl (Nat.le_of_ble_eq_true rfl) (fun w h => List.mem_cons_of_mem _ (inlX6 w h)) w_X6_wood_f21 ?_
    refine x_aload_n dX6_wood_18 rfl rfl ?_
    refine x_getR (r := 1) (k := 0) (j := 0) dX6_wood_19 hF.1 rfl rfl (Nat.le_of_ble_eq_true rfl) (fun w h => List.mem_cons_of_mem _ (inlX6 w h)) w_X6_wood_f12 ?_
    refine x_getR (r := 1 + 1) (k := 1) (j := 6) dX6_wood_22 hF.2.1.1 rfl rfl (Nat.le_of_ble_eq_true rfl) (fun w h => List.mem_cons_of_mem _ (inlX2 w h)) w_X6_wood_f65 ?_
    refine x_aload_n dX6_wood_25 rfl rfl ?_
    refine x_getR (r := 1) (k := 0) (j := 0) dX6_wood_26 hF.1 rfl rfl (Nat.le_of_ble_eq_true rfl) (fun w h => List.mem_cons_of_mem _ (inlX6 w h)) w_X6_wood_f12 ?_
    refine x_getI (k := 1) (j := 2) dX6_wood_29 hF.2.1.1 rfl rfl (Nat.le_of_ble_eq_true rfl) (fun w h => List.mem_cons_of_mem _ (inlX2 w h)) w_X6_wood_f61 ?_
    refine x_b (fun r1_ S1 e1 => ?_)
    refine x_callVi (As := [.ref (1 + 1), .int (S.1 (1) 2)]) dX6_wood_32 (aMet_of e1 (m_X3_reads hF.2.2.1 (1 + 1) hF.2.1.2.1 (S.1 (1) 2) S)) g_X6_wood_72 rfl hF.2.2.1.1 rfl dd_X3_reads rfl rfl (Nat.le_of_ble_eq_true rfl) (Nat.le_of_ble_eq_true rfl) (Nat.le_of_ble_eq_true rfl) ?_
    refine x_istore_n dX6_wood_35 rfl (Nat.le_of_ble_eq_true rfl) rfl ?_
    refine x_aload_n dX6_wood_36 rfl rfl ?_
    refine x_getR (r := 1) (k := 0) (j := 0) dX6_wood_37 hF.1 rfl rfl (Nat.le_of_ble_eq_true rfl) (fun w h => List.mem_cons_of_mem _ (inlX6 w h)) w_X6_wood_f12 ?_
    refine x_iconst (0 : Int32) dX6_wood_40 (by decide) ?_
    refine x_putI (k := 1) (j := 2) dX6_wood_41 hF.2.1.1 rfl rfl (Nat.le_of_ble_eq_true rfl) (fun w h => List.mem_cons_of_mem _ (inlX2 w h)) w_X6_wood_f61 tyX2 tyX2_ok nmX2 rfl (by decide +kernel) ?_
    refine x_ltS (fun S2 => ?_)
    refine x_iload_n dX6_wood_44 rfl rfl ?_
    refine x_if_ne (tgt := 59) dX6_wood_45 (by decide) ?_ ?_
    · refine x_aload_n dX6_wood_59 rfl rfl ?_
      refine x_getR (r := 1) (k := 0) (j := 0) dX6_wood_60 hF.1 rfl rfl (Nat.le_of_ble_eq_true rfl) (fun w h => List.mem_cons_of_mem _ (inlX6 w h)) w_X6_wood_f12 ?_
      refine x_getR (r := 1 + 3) (k := 1) (j := 8) dX6_wood_63 hF.2.1.1 rfl rfl (Nat.le_of_ble_eq_true rfl) (fun w h => List.mem_cons_of_mem _ (inlX2 w h)) w_X6_wood_f79 ?_
      refine x_aload_n dX6_wood_66 rfl rfl ?_
      refine x_getR (r := 22) (k := 0) (j := 1) dX6_wood_67 hF.1 rfl rfl (Nat.le_of_ble_eq_true rfl) (fun w h => List.mem_cons_of_mem _ (inlX6 w h)) w_X6_wood_f21 ?_
      refine x_getR (r := 23) (k := 22) (j := 0) dX6_wood_70 hF.2.2.1.1 rfl rfl (Nat.le_of_ble_eq_true rfl) (fun w h => List.mem_cons_of_mem _ (inlX3 w h)) w_X6_wood_f83 ?_
      refine x_b (fun r3_ S3 e3 => ?_)
      refine x_callVv (As := [.ref (23)]) dX6_wood_73 (aMet_of e3 (m_X5_copyFrom (1 + 3) hF.2.1.2.2.2.1 (23) hF.2.2.1.2.1 S2)) g_X6_wood_86 rfl hF.2.1.2.2.2.1.1 rfl dd_X5_copyFrom rfl rfl (Nat.le_of_ble_eq_true rfl) (Nat.le_of_ble_eq_true rfl) (Nat.le_of_ble_eq_true rfl) ?_
      refine x_aload_n dX6_wood_76 rfl rfl ?_
      refine x_getR (r := 1) (k := 0) (j := 0) dX6_wood_77 hF.1 rfl rfl (Nat.le_of_ble_eq_true rfl) (fun w h => List.mem_cons_of_mem _ (inlX6 w h)) w_X6_wood_f12 ?_
      refine x_dup dX6_wood_80 rfl ?_
      refine x_getI (k := 1) (j := 3) dX6_wood_81 hF.2.1.1 rfl rfl (Nat.le_of_ble_eq_true rfl) (fun w h => List.mem_cons_of_mem _ (inlX2 w h)) w_X6_wood_f69 ?_
      refine x_iconst (1 : Int32) dX6_wood_84 (by decide) ?_
      refine x_iadd dX6_wood_85 ?_
      refine x_putI (k := 1) (j := 3) dX6_wood_86 hF.2.1.1 rfl rfl (Nat.le_of_ble_eq_true rfl) (fun w h => List.mem_cons_of_mem _ (inlX2 w h)) w_X6_wood_f69 tyX2 tyX2_ok nmX2 rfl (by decide +kernel) ?_
      refine x_ltS (fun S4 => ?_)
      refine x_aload_n dX6_wood_89 rfl rfl ?_
      refine x_getR (r := 1) (k := 0) (j := 0) dX6_wood_90 hF.1 rfl rfl (Nat.le_of_ble_eq_true rfl) (fun w h => List.mem_cons_of_mem _ (inlX6 w h)) w_X6_wood_f12 ?_
      refine x_getI (k := 1) (j := 3) dX6_wood_93 hF.2.1.1 rfl rfl (Nat.le_of_ble_eq_true rfl) (fun w h => List.mem_cons_of_mem _ (inlX2 w h)) w_X6_wood_f69 ?_
      refine x_iconst (1 : Int32) dX6_wood_96 (by decide) ?_
      refine x_isub dX6_wood_97 ?_
      exact x_iret dX6_wood_98 rfl
    · refine x_bipush (-10 : Int32) dX6_wood_48 (by decide) ?_
      refine x_aload_n dX6_wood_50 rfl rfl ?_
      refine x_getR (r := 22) (k := 0) (j := 1) dX6_wood_51 hF.1 rfl rfl (Nat.le_of_ble_eq_true rfl) (fun w h => List.mem_cons_of_mem _ (inlX6 w h)) w_X6_wood_f21 ?_
      refine x_getI (k := 22) (j := 3) dX6_wood_54 hF.2.2.1.1 rfl rfl (Nat.le_of_ble_eq_true rfl) (fun w h => List.mem_cons_of_mem _ (inlX3 w h)) w_X6_wood_f76 ?_
      refine x_isub dX6_wood_57 ?_
      exact x_iret dX6_wood_58 rfl
  · refine x_bipush (-4 : Int32) dX6_wood_11 (by decide) ?_
    exact x_iret dX6_wood_13 rfl
theorem w_X6_told_f12 : Cond.fieldLink yX6_told.cls 12 (TX6 0).1 (TX6 0).2.1 (TX6 0).2.2.1 ∈ uX6_told := List.mem_cons_of_mem _ (wU_r1 _ (List.mem_of_getElem? (i := 16) rfl))
theorem w_X6_told_f98 : Cond.fieldLink yX6_told.cls 98 (TX2 1).1 (TX2 1).2.1 (TX2 1).2.2.1 ∈ uX6_told := List.mem_cons_of_mem _ (wU_r16 _ (List.mem_of_getElem? (i := 20) rfl))
theorem w_X6_told_f79 : Cond.fieldLink yX6_told.cls 79 (TX2 8).1 (TX2 8).2.1 (TX2 8).2.2.1 ∈ uX6_told := List.mem_cons_of_mem _ (wU_r6 _ (List.mem_of_getElem? (i := 13) rfl))
theorem w_X6_told_f95 : Cond.fieldLink yX6_told.cls 95 (TX5 3).1 (TX5 3).2.1 (TX5 3).2.2.1 ∈ uX6_told := List.mem_cons_of_mem _ (wU_r16 _ (List.mem_of_getElem? (i := 19) rfl))
theorem w_X6_told_f92 : Cond.fieldLink yX6_told.cls 92 (TX5 2).1 (TX5 2).2.1 (TX5 2).2.2.1 ∈ uX6_told := List.mem_cons_of_mem _ (wU_r16 _ (List.mem_of_getElem? (i := 18) rfl))
def f_X6_told (p1 : Int32) (S : aSt) : Option (Int32 × aSt) := (if p1 = (0 : Int32) then (some ((S.1 (1 + 3) 2), S)) else (if p1 = (1 : Int32) then (some ((S.1 (1 + 3) 3), S)) else (if p1 = (2 : Int32) then (some ((S.1 (1) 1), S)) else (some ((-1 : Int32), S)))))
set_option maxRecDepth 20000 in
set_option maxHeartbeats 4000000 in
theorem m_X6_told {G : aG} {K : Option Nat} (hF : aFt G K) (p1 : Int32) (S : aSt) : aMet G yX6_told uX6_told 2 mk_i (f_X6_told p1 S) [.ref (0), .int p1] S := by
  refine x_met (cc := cX6_told) (nL := 2) (ret := (some .int)) (L := [some (.ref (0)), some (.int p1)]) (by decide +kernel) rfl (And.intro rfl (And.intro rfl trivial)) (Nat.le_of_ble_eq_true rfl) ?_
  unfold f_X6_told
  refine x_iload_n dX6_told_0 rfl rfl ?_
  refine x_sw (0 : Int32) ?_ (fun hv0 => ?_)
  · refine x_tabIn (off := 27) (tgt := 28) dX6_told_1 (by decide) (by decide) (by decide) (by decide) ?_
    refine x_aload_n dX6_told_28 rfl rfl ?_
    refine x_getR (r := 1) (k := 0) (j := 0) dX6_told_29 hF.1 rfl rfl (Nat.le_of_ble_eq_true rfl) (fun w h => List.mem_cons_of_mem _ (inlX6 w h)) w_X6_told_f12 ?_
    refine x_getR (r := 1 + 3) (k := 1) (j := 8) dX6_told_32 hF.2.1.1 rfl rfl (Nat.le_of_ble_eq_true rfl) (fun w h => List.mem_cons_of_mem _ (inlX2 w h)) w_X6_told_f79 ?_
    refine x_getI (k := 1 + 3) (j := 2) dX6_told_35 hF.2.1.2.2.2.1.1 rfl rfl (Nat.le_of_ble_eq_true rfl) (fun w h => List.mem_cons_of_mem _ (inlX5 w h)) w_X6_told_f92 ?_
    exact x_iret dX6_told_38 rfl
  · refine x_sw (1 : Int32) ?_ (fun hv1 => ?_)
    · refine x_tabIn (off := 38) (tgt := 39) dX6_told_1 (by decide) (by decide) (by decide) (by decide) ?_
      refine x_aload_n dX6_told_39 rfl rfl ?_
      refine x_getR (r := 1) (k := 0) (j := 0) dX6_told_40 hF.1 rfl rfl (Nat.le_of_ble_eq_true rfl) (fun w h => List.mem_cons_of_mem _ (inlX6 w h)) w_X6_told_f12 ?_
      refine x_getR (r := 1 + 3) (k := 1) (j := 8) dX6_told_43 hF.2.1.1 rfl rfl (Nat.le_of_ble_eq_true rfl) (fun w h => List.mem_cons_of_mem _ (inlX2 w h)) w_X6_told_f79 ?_
      refine x_getI (k := 1 + 3) (j := 3) dX6_told_46 hF.2.1.2.2.2.1.1 rfl rfl (Nat.le_of_ble_eq_true rfl) (fun w h => List.mem_cons_of_mem _ (inlX5 w h)) w_X6_told_f95 ?_
      exact x_iret dX6_told_49 rfl
    · refine x_sw (2 : Int32) ?_ (fun hv2 => ?_)
      · refine x_tabIn (off := 49) (tgt := 50) dX6_told_1 (by decide) (by decide) (by decide) (by decide) ?_
        refine x_aload_n dX6_told_50 rfl rfl ?_
        refine x_getR (r := 1) (k := 0) (j := 0) dX6_told_51 hF.1 rfl rfl (Nat.le_of_ble_eq_true rfl) (fun w h => List.mem_cons_of_mem _ (inlX6 w h)) w_X6_told_f12 ?_
        refine x_getI (k := 1) (j := 1) dX6_told_54 hF.2.1.1 rfl rfl (Nat.le_of_ble_eq_true rfl) (fun w h => List.mem_cons_of_mem _ (inlX2 w h)) w_X6_told_f98 ?_
        exact x_iret dX6_told_57 rfl
      · refine x_tabOut (tgt := 58) dX6_told_1 (a_out 3 [(0 : Int32), (1 : Int32), (2 : Int32)] (by decide) (by decide +kernel) (List.forall_mem_cons.mpr ⟨hv0, (List.forall_mem_cons.mpr ⟨hv1, (List.forall_mem_cons.mpr ⟨hv2, (fun _ h => absurd h List.not_mem_nil)⟩)⟩)⟩)) (by decide) ?_
        refine x_iconst (-1 : Int32) dX6_told_58 (by decide) ?_
        exact x_iret dX6_told_59 rfl
theorem dd_X2_isTaken : yX2_isTaken.cls = RX2 ∧ yX2_isTaken.cls ≠ "java/lang/invoke/MethodHandle" ∧ yX2_isTaken.cls ≠ "java/lang/invoke/VarHandle" ∧ (parseMethodDescriptor yX2_isTaken.desc).map (fun d => d.parameters.length) = some 1 := by decide +kernel
theorem g_X6_tree_57 : GoodIn uX6_tree (va_wsS yX6_tree.cls 57 yX6_outside uX6_outside) := gU_S (wU_r5 _ (List.mem_of_getElem? (i := 21) rfl)) (wU_r5 _ (List.mem_of_getElem? (i := 22) rfl)) (wU_r1 _ (List.mem_of_getElem? (i := 2) rfl)) (wU_r5 _ (List.mem_of_getElem? (i := 23) rfl))
theorem w_X6_tree_f12 : Cond.fieldLink yX6_tree.cls 12 (TX6 0).1 (TX6 0).2.1 (TX6 0).2.2.1 ∈ uX6_tree := List.mem_cons_of_mem _ (wU_r1 _ (List.mem_of_getElem? (i := 16) rfl))
theorem g_X6_tree_101 : GoodIn uX6_tree (wsV yX6_tree.cls 101 RX2 yX2_isTaken uX2_isTaken) := gU_V (wU_r17 _ (List.mem_of_getElem? (i := 11) rfl)) (wU_r17 _ (List.mem_of_getElem? (i := 12) rfl)) (wU_r17 _ (List.mem_of_getElem? (i := 13) rfl)) (wU_r1 _ (List.mem_of_getElem? (i := 15) rfl)) (wU_r17 _ (List.mem_of_getElem? (i := 14) rfl))
theorem w_X6_tree_f105 : Cond.fieldLink yX6_tree.cls 105 (TX2 4).1 (TX2 4).2.1 (TX2 4).2.2.1 ∈ uX6_tree := List.mem_cons_of_mem _ (wU_r17 _ (List.mem_of_getElem? (i := 9) rfl))
theorem w_X6_tree_f108 : Cond.fieldLink yX6_tree.cls 108 (TX2 9).1 (TX2 9).2.1 (TX2 9).2.2.1 ∈ uX6_tree := List.mem_cons_of_mem _ (wU_r17 _ (List.mem_of_getElem? (i := 10) rfl))
theorem g_X6_tree_112 : GoodIn uX6_tree (wsV yX6_tree.cls 112 RX4 yX4_begin uX4_begin) := gU_V (wU_r17 _ (List.mem_of_getElem? (i := 17) rfl)) (wU_r17 _ (List.mem_of_getElem? (i := 18) rfl)) (wU_r17 _ (List.mem_of_getElem? (i := 19) rfl)) (wU_r2 _ (List.mem_of_getElem? (i := 7) rfl)) (wU_r17 _ (List.mem_of_getElem? (i := 20) rfl))
def f_X6_tree (p1 : Int32) (p2 : Int32) (p3 : Int32) (p4 : Int32) (S : aSt) : Option (Int32 × aSt) := (aB (f_X6_outside p1 (6 : Int32) S) (fun r1_ S1 => (if r1_ = 0 then (aB (f_X6_outside p3 (63 : Int32) S1) (fun r2_ S2 => (if r2_ = 0 then (aB (f_X6_outside p2 (9 : Int32) S2) (fun r3_ S3 => (if r3_ = 0 then (if p4 < (1 : Int32) then (some ((-2 : Int32), S3)) else (if p4 ≤ (7 : Int32) then (aB (f_X2_isTaken (1) p3 S3) (fun r4_ S4 => (if r4_ = 0 then (if (S4.1 (1) 4) < (6 : Int32) then (aLt (S4.1 (1) 4) (fun x5 => (if x5 < 0 ∨ 6 ≤ (x5).toNatClampNeg then none else (aB (f_X4_begin (1 + 9 + 2 * (x5).toNatClampNeg) x5 p1 p2 p3 p4 S4) (fun r7_ S7 => (aLt (aUi S7 (1) 4 ((S7.1 (1) 4) + (1 : Int32))) (fun S8 => (some (x5, S8))))))))) else (some ((-4 : Int32), S4))) else (some ((-3 : Int32), S4))))) else (some ((-2 : Int32), S3)))) else (some ((-2 : Int32), S3))))) else (some ((-1 : Int32), S2))))) else (some ((-1 : Int32), S1)))))
set_option maxRecDepth 20000 in
set_option maxHeartbeats 4000000 in
theorem m_X6_tree {G : aG} {K : Option Nat} (hF : aFt G K) (p1 : Int32) (p2 : Int32) (p3 : Int32) (p4 : Int32) (S : aSt) : aMet G yX6_tree uX6_tree 3 mk_i (f_X6_tree p1 p2 p3 p4 S) [.ref (0), .int p1, .int p2, .int p3, .int p4] S := by
  refine x_met (cc := cX6_tree) (nL := 6) (ret := (some .int)) (L := [some (.ref (0)), some (.int p1), some (.int p2), some (.int p3), some (.int p4), none]) (by decide +kernel) rfl (And.intro rfl (And.intro rfl (And.intro rfl (And.intro rfl (And.intro rfl trivial))))) (Nat.le_of_ble_eq_true rfl) ?_
  unfold f_X6_tree
  refine x_iload_n dX6_tree_0 rfl rfl ?_
  refine x_bipush (6 : Int32) dX6_tree_1 (by decide) ?_
  refine x_b (fun r1_ S1 e1 => ?_)
  refine x_callSi (As := [.int p1, .int (6 : Int32)]) dX6_tree_3 (aMet_of e1 (m_X6_outside p1 (6 : Int32) S)) g_X6_tree_57 rfl dd_X6_outside rfl rfl (Nat.le_of_ble_eq_true rfl) (Nat.le_of_ble_eq_true rfl) (Nat.le_of_ble_eq_true rfl) ?_
  refine x_if_ne (tgt := 18) dX6_tree_6 (by decide) ?_ ?_
  · refine x_iconst (-1 : Int32) dX6_tree_18 (by decide) ?_
    exact x_iret dX6_tree_19 rfl
  · refine x_iload_n dX6_tree_9 rfl rfl ?_
    refine x_bipush (63 : Int32) dX6_tree_10 (by decide) ?_
    refine x_b (fun r2_ S2 e2 => ?_)
    refine x_callSi (As := [.int p3, .int (63 : Int32)]) dX6_tree_12 (aMet_of e2 (m_X6_outside p3 (63 : Int32) S1)) g_X6_tree_57 rfl dd_X6_outside rfl rfl (Nat.le_of_ble_eq_true rfl) (Nat.le_of_ble_eq_true rfl) (Nat.le_of_ble_eq_true rfl) ?_
    refine x_if_eq (tgt := 20) dX6_tree_15 (by decide) ?_ ?_
    · refine x_iload_n dX6_tree_20 rfl rfl ?_
      refine x_bipush (9 : Int32) dX6_tree_21 (by decide) ?_
      refine x_b (fun r3_ S3 e3 => ?_)
      refine x_callSi (As := [.int p2, .int (9 : Int32)]) dX6_tree_23 (aMet_of e3 (m_X6_outside p2 (9 : Int32) S2)) g_X6_tree_57 rfl dd_X6_outside rfl rfl (Nat.le_of_ble_eq_true rfl) (Nat.le_of_ble_eq_true rfl) (Nat.le_of_ble_eq_true rfl) ?_
      refine x_if_ne (tgt := 42) dX6_tree_26 (by decide) ?_ ?_
      · refine x_bipush (-2 : Int32) dX6_tree_42 (by decide) ?_
        exact x_iret dX6_tree_44 rfl
      · refine x_iload dX6_tree_29 rfl ?_
        refine x_iconst (1 : Int32) dX6_tree_31 (by decide) ?_
        refine x_icmp_lt (tgt := 42) dX6_tree_32 (by decide) ?_ ?_
        · refine x_bipush (-2 : Int32) dX6_tree_42 (by decide) ?_
          exact x_iret dX6_tree_44 rfl
        · refine x_iload dX6_tree_35 rfl ?_
          refine x_bipush (7 : Int32) dX6_tree_37 (by decide) ?_
          refine x_icmp_le (tgt := 45) dX6_tree_39 (by decide) ?_ ?_
          · refine x_aload_n dX6_tree_45 rfl rfl ?_
            refine x_getR (r := 1) (k := 0) (j := 0) dX6_tree_46 hF.1 rfl rfl (Nat.le_of_ble_eq_true rfl) (fun w h => List.mem_cons_of_mem _ (inlX6 w h)) w_X6_tree_f12 ?_
            refine x_iload_n dX6_tree_49 rfl rfl ?_
            refine x_b (fun r4_ S4 e4 => ?_)
            refine x_callVi (As := [.int p3]) dX6_tree_50 (aMet_of e4 (m_X2_isTaken (1) hF.2.1 p3 S3)) g_X6_tree_101 rfl hF.2.1.1 rfl dd_X2_isTaken rfl rfl (Nat.le_of_ble_eq_true rfl) (Nat.le_of_ble_eq_true rfl) (Nat.le_of_ble_eq_true rfl) ?_
            refine x_if_eq (tgt := 59) dX6_tree_53 (by decide) ?_ ?_
            · refine x_aload_n dX6_tree_59 rfl rfl ?_
              refine x_getR (r := 1) (k := 0) (j := 0) dX6_tree_60 hF.1 rfl rfl (Nat.le_of_ble_eq_true rfl) (fun w h => List.mem_cons_of_mem _ (inlX6 w h)) w_X6_tree_f12 ?_
              refine x_getI (k := 1) (j := 4) dX6_tree_63 hF.2.1.1 rfl rfl (Nat.le_of_ble_eq_true rfl) (fun w h => List.mem_cons_of_mem _ (inlX2 w h)) w_X6_tree_f105 ?_
              refine x_bipush (6 : Int32) dX6_tree_66 (by decide) ?_
              refine x_icmp_lt (tgt := 74) dX6_tree_68 (by decide) ?_ ?_
              · refine x_aload_n dX6_tree_74 rfl rfl ?_
                refine x_getR (r := 1) (k := 0) (j := 0) dX6_tree_75 hF.1 rfl rfl (Nat.le_of_ble_eq_true rfl) (fun w h => List.mem_cons_of_mem _ (inlX6 w h)) w_X6_tree_f12 ?_
                refine x_getI (k := 1) (j := 4) dX6_tree_78 hF.2.1.1 rfl rfl (Nat.le_of_ble_eq_true rfl) (fun w h => List.mem_cons_of_mem _ (inlX2 w h)) w_X6_tree_f105 ?_
                refine x_lti (fun x5 => ?_)
                refine x_istore dX6_tree_81 (Nat.le_of_ble_eq_true rfl) rfl ?_
                refine x_aload_n dX6_tree_83 rfl rfl ?_
                refine x_getR (r := 1) (k := 0) (j := 0) dX6_tree_84 hF.1 rfl rfl (Nat.le_of_ble_eq_true rfl) (fun w h => List.mem_cons_of_mem _ (inlX6 w h)) w_X6_tree_f12 ?_
                refine x_getR (r := 1 + 8) (k := 1) (j := 9) dX6_tree_87 hF.2.1.1 rfl rfl (Nat.le_of_ble_eq_true rfl) (fun w h => List.mem_cons_of_mem _ (inlX2 w h)) w_X6_tree_f108 ?_
                refine x_iload dX6_tree_90 rfl ?_
                refine x_aald (g := fun j => 1 + 9 + 2 * j) dX6_tree_92 hF.2.1.2.2.2.2.1 (fun _ => rfl) (fun h6 => ?_)
                refine x_iload dX6_tree_93 rfl ?_
                refine x_iload_n dX6_tree_95 rfl rfl ?_
                refine x_iload_n dX6_tree_96 rfl rfl ?_
                refine x_iload_n dX6_tree_97 rfl rfl ?_
                refine x_iload dX6_tree_98 rfl ?_
                refine x_b (fun r7_ S7 e7 => ?_)
                refine x_callVv (As := [.int x5, .int p1, .int p2, .int p3, .int p4]) dX6_tree_100 (aMet_of e7 (m_X4_begin (1 + 9 + 2 * (x5).toNatClampNeg) (hF.2.1.2.2.2.2.2 _ (a_lt h6)) x5 p1 p2 p3 p4 S4)) g_X6_tree_112 rfl (hF.2.1.2.2.2.2.2 _ (a_lt h6)).1 rfl dd_X4_begin rfl rfl (Nat.le_of_ble_eq_true rfl) (Nat.le_of_ble_eq_true rfl) (Nat.le_of_ble_eq_true rfl) ?_
                refine x_aload_n dX6_tree_103 rfl rfl ?_
                refine x_getR (r := 1) (k := 0) (j := 0) dX6_tree_104 hF.1 rfl rfl (Nat.le_of_ble_eq_true rfl) (fun w h => List.mem_cons_of_mem _ (inlX6 w h)) w_X6_tree_f12 ?_
                refine x_dup dX6_tree_107 rfl ?_
                refine x_getI (k := 1) (j := 4) dX6_tree_108 hF.2.1.1 rfl rfl (Nat.le_of_ble_eq_true rfl) (fun w h => List.mem_cons_of_mem _ (inlX2 w h)) w_X6_tree_f105 ?_
                refine x_iconst (1 : Int32) dX6_tree_111 (by decide) ?_
                refine x_iadd dX6_tree_112 ?_
                refine x_putI (k := 1) (j := 4) dX6_tree_113 hF.2.1.1 rfl rfl (Nat.le_of_ble_eq_true rfl) (fun w h => List.mem_cons_of_mem _ (inlX2 w h)) w_X6_tree_f105 tyX2 tyX2_ok nmX2 rfl (by decide +kernel) ?_
                refine x_ltS (fun S8 => ?_)
                refine x_iload dX6_tree_116 rfl ?_
                exact x_iret dX6_tree_118 rfl
              · refine x_bipush (-4 : Int32) dX6_tree_71 (by decide) ?_
                exact x_iret dX6_tree_73 rfl
            · refine x_bipush (-3 : Int32) dX6_tree_56 (by decide) ?_
              exact x_iret dX6_tree_58 rfl
          · refine x_bipush (-2 : Int32) dX6_tree_42 (by decide) ?_
            exact x_iret dX6_tree_44 rfl
    · refine x_iconst (-1 : Int32) dX6_tree_18 (by decide) ?_
      exact x_iret dX6_tree_19 rfl
theorem dd_X2_find : yX2_find.cls = RX2 ∧ yX2_find.cls ≠ "java/lang/invoke/MethodHandle" ∧ yX2_find.cls ≠ "java/lang/invoke/VarHandle" ∧ (parseMethodDescriptor yX2_find.desc).map (fun d => d.parameters.length) = some 1 := by decide +kernel
theorem w_X6_lean_f12 : Cond.fieldLink yX6_lean.cls 12 (TX6 0).1 (TX6 0).2.1 (TX6 0).2.2.1 ∈ uX6_lean := List.mem_cons_of_mem _ (wU_r1 _ (List.mem_of_getElem? (i := 16) rfl))
theorem g_X6_lean_116 : GoodIn uX6_lean (wsV yX6_lean.cls 116 RX2 yX2_find uX2_find) := gU_V (wU_r18 _ (List.mem_of_getElem? (i := 17) rfl)) (wU_r18 _ (List.mem_of_getElem? (i := 18) rfl)) (wU_r18 _ (List.mem_of_getElem? (i := 19) rfl)) (wU_r1 _ (List.mem_of_getElem? (i := 15) rfl)) (wU_r18 _ (List.mem_of_getElem? (i := 20) rfl))
theorem g_X6_lean_57 : GoodIn uX6_lean (va_wsS yX6_lean.cls 57 yX6_outside uX6_outside) := gU_S (wU_r5 _ (List.mem_of_getElem? (i := 21) rfl)) (wU_r5 _ (List.mem_of_getElem? (i := 22) rfl)) (wU_r1 _ (List.mem_of_getElem? (i := 2) rfl)) (wU_r5 _ (List.mem_of_getElem? (i := 23) rfl))
theorem w_X6_lean_f120 : Cond.fieldLink yX6_lean.cls 120 (TX4 5).1 (TX4 5).2.1 (TX4 5).2.2.1 ∈ uX6_lean := List.mem_cons_of_mem _ (wU_r18 _ (List.mem_of_getElem? (i := 14) rfl))
theorem w_X6_lean_f123 : Cond.fieldLink yX6_lean.cls 123 (TX4 6).1 (TX4 6).2.1 (TX4 6).2.2.1 ∈ uX6_lean := List.mem_cons_of_mem _ (wU_r18 _ (List.mem_of_getElem? (i := 15) rfl))
theorem w_X6_lean_f126 : Cond.fieldLink yX6_lean.cls 126 (TX4 7).1 (TX4 7).2.1 (TX4 7).2.2.1 ∈ uX6_lean := List.mem_cons_of_mem _ (wU_r18 _ (List.mem_of_getElem? (i := 16) rfl))
def f_X6_lean (p1 : Int32) (p2 : Int32) (p3 : Int32) (p4 : Int32) (S : aSt) : Option (Int32 × aSt) := (aB (f_X2_find (1) p1 S) (fun r1_ S1 => aO r1_ (some ((-1 : Int32), S1)) (fun a1_ => (aB (f_X6_outside p2 (7 : Int32) S1) (fun r2_ S2 => (if r2_ = 0 then (aB (f_X6_outside p3 (9 : Int32) S2) (fun r3_ S3 => (if r3_ = 0 then (aB (f_X6_outside p4 (9 : Int32) S3) (fun r4_ S4 => (if r4_ = 0 then (aLt (S4.1 (a1_) 5) (fun x5 => (aLt (aUi S4 (a1_) 6 p2) (fun S6 => (aLt (aUi S6 (a1_) 5 p3) (fun S7 => (aLt (aUi S7 (a1_) 7 p4) (fun S8 => (some (x5, S8)))))))))) else (some ((-2 : Int32), S4))))) else (some ((-2 : Int32), S3))))) else (some ((-1 : Int32), S2))))))))
set_option maxRecDepth 20000 in
set_option maxHeartbeats 4000000 in
theorem m_X6_lean {G : aG} {K : Option Nat} (hF : aFt G K) (p1 : Int32) (p2 : Int32) (p3 : Int32) (p4 : Int32) (S : aSt) : aMet G yX6_lean uX6_lean 4 mk_i (f_X6_lean p1 p2 p3 p4 S) [.ref (0), .int p1, .int p2, .int p3, .int p4] S := by
  refine x_met (cc := cX6_lean) (nL := 7) (ret := (some .int)) (L := [some (.ref (0)), some (.int p1), some (.int p2), some (.int p3), some (.int p4), none, none]) (by decide +kernel) rfl (And.intro rfl (And.intro rfl (And.intro rfl (And.intro rfl (And.intro rfl trivial))))) (Nat.le_of_ble_eq_true rfl) ?_
  unfold f_X6_lean
  refine x_aload_n dX6_lean_0 rfl rfl ?_
  refine x_getR (r := 1) (k := 0) (j := 0) dX6_lean_1 hF.1 rfl rfl (Nat.le_of_ble_eq_true rfl) (fun w h => List.mem_cons_of_mem _ (inlX6 w h)) w_X6_lean_f12 ?_
  refine x_iload_n dX6_lean_4 rfl rfl ?_
  refine x_b (fun r1_ S1 e1 => ?_)
  cases r1_ with
  | none =>
    refine x_oN ?_
    refine x_callVn (As := [.int p1]) dX6_lean_5 (aMet_of e1 (m_X2_find (1) hF.2.1 p1 S)) g_X6_lean_116 rfl hF.2.1.1 rfl dd_X2_find rfl rfl (Nat.le_of_ble_eq_true rfl) (Nat.le_of_ble_eq_true rfl) (Nat.le_of_ble_eq_true rfl) ?_
    refine x_astoreN dX6_lean_8 (Nat.le_of_ble_eq_true rfl) rfl ?_
    refine x_aloadN dX6_lean_10 rfl ?_
    refine x_ifnullN (tgt := 24) dX6_lean_12 (by decide) ?_
    refine x_iconst (-1 : Int32) dX6_lean_24 (by decide) ?_
    exact x_iret dX6_lean_25 rfl
  | some a1_ =>
    have h1_ := find_tr hF.2.1 e1
    refine x_oS ?_
    refine x_callVr (As := [.int p1]) dX6_lean_5 (aMet_of e1 (m_X2_find (1) hF.2.1 p1 S)) g_X6_lean_116 rfl hF.2.1.1 rfl dd_X2_find rfl rfl (Nat.le_of_ble_eq_true rfl) (Nat.le_of_ble_eq_true rfl) (Nat.le_of_ble_eq_true rfl) ?_
    refine x_astore dX6_lean_8 (Nat.le_of_ble_eq_true rfl) rfl ?_
    refine x_aload dX6_lean_10 rfl ?_
    refine x_ifnull dX6_lean_12 ?_
    refine x_iload_n dX6_lean_15 rfl rfl ?_
    refine x_bipush (7 : Int32) dX6_lean_16 (by decide) ?_
    refine x_b (fun r2_ S2 e2 => ?_)
    refine x_callSi (As := [.int p2, .int (7 : Int32)]) dX6_lean_18 (aMet_of e2 (m_X6_outside p2 (7 : Int32) S1)) g_X6_lean_57 rfl dd_X6_outside rfl rfl (Nat.le_of_ble_eq_true rfl) (Nat.le_of_ble_eq_true rfl) (Nat.le_of_ble_eq_true rfl) ?_
    refine x_if_eq (tgt := 26) dX6_lean_21 (by decide) ?_ ?_
    · refine x_iload_n dX6_lean_26 rfl rfl ?_
      refine x_bipush (9 : Int32) dX6_lean_27 (by decide) ?_
      refine x_b (fun r3_ S3 e3 => ?_)
      refine x_callSi (As := [.int p3, .int (9 : Int32)]) dX6_lean_29 (aMet_of e3 (m_X6_outside p3 (9 : Int32) S2)) g_X6_lean_57 rfl dd_X6_outside rfl rfl (Nat.le_of_ble_eq_true rfl) (Nat.le_of_ble_eq_true rfl) (Nat.le_of_ble_eq_true rfl) ?_
      refine x_if_ne (tgt := 45) dX6_lean_32 (by decide) ?_ ?_
      · refine x_bipush (-2 : Int32) dX6_lean_45 (by decide) ?_
        exact x_iret dX6_lean_47 rfl
      · refine x_iload dX6_lean_35 rfl ?_
        refine x_bipush (9 : Int32) dX6_lean_37 (by decide) ?_
        refine x_b (fun r4_ S4 e4 => ?_)
        refine x_callSi (As := [.int p4, .int (9 : Int32)]) dX6_lean_39 (aMet_of e4 (m_X6_outside p4 (9 : Int32) S3)) g_X6_lean_57 rfl dd_X6_outside rfl rfl (Nat.le_of_ble_eq_true rfl) (Nat.le_of_ble_eq_true rfl) (Nat.le_of_ble_eq_true rfl) ?_
        refine x_if_eq (tgt := 48) dX6_lean_42 (by decide) ?_ ?_
        · refine x_aload dX6_lean_48 rfl ?_
          refine x_getI (k := a1_) (j := 5) dX6_lean_50 h1_.1 rfl rfl (Nat.le_of_ble_eq_true rfl) (fun w h => List.mem_cons_of_mem _ (inlX4 w h)) w_X6_lean_f120 ?_
          refine x_lti (fun x5 => ?_)
          refine x_istore dX6_lean_53 (Nat.le_of_ble_eq_true rfl) rfl ?_
          refine x_aload dX6_lean_55 rfl ?_
          refine x_iload_n dX6_lean_57 rfl rfl ?_
          refine x_putI (k := a1_) (j := 6) dX6_lean_58 h1_.1 rfl rfl (Nat.le_of_ble_eq_true rfl) (fun w h => List.mem_cons_of_mem _ (inlX4 w h)) w_X6_lean_f123 tyX4 tyX4_ok nmX4 rfl (by decide +kernel) ?_
          refine x_ltS (fun S6 => ?_)
          refine x_aload dX6_lean_61 rfl ?_
          refine x_iload_n dX6_lean_63 rfl rfl ?_
          refine x_putI (k := a1_) (j := 5) dX6_lean_64 h1_.1 rfl rfl (Nat.le_of_ble_eq_true rfl) (fun w h => List.mem_cons_of_mem _ (inlX4 w h)) w_X6_lean_f120 tyX4 tyX4_ok nmX4 rfl (by decide +kernel) ?_
          refine x_ltS (fun S7 => ?_)
          refine x_aload dX6_lean_67 rfl ?_
          refine x_iload dX6_lean_69 rfl ?_
          refine x_putI (k := a1_) (j := 7) dX6_lean_71 h1_.1 rfl rfl (Nat.le_of_ble_eq_true rfl) (fun w h => List.mem_cons_of_mem _ (inlX4 w h)) w_X6_lean_f126 tyX4 tyX4_ok nmX4 rfl (by decide +kernel) ?_
          refine x_ltS (fun S8 => ?_)
          refine x_iload dX6_lean_74 rfl ?_
          exact x_iret dX6_lean_76 rfl
        · refine x_bipush (-2 : Int32) dX6_lean_45 (by decide) ?_
          exact x_iret dX6_lean_47 rfl
    · refine x_iconst (-1 : Int32) dX6_lean_24 (by decide) ?_
      exact x_iret dX6_lean_25 rfl
theorem w_X6_of_f12 : Cond.fieldLink yX6_of.cls 12 (TX6 0).1 (TX6 0).2.1 (TX6 0).2.2.1 ∈ uX6_of := List.mem_cons_of_mem _ (wU_r1 _ (List.mem_of_getElem? (i := 16) rfl))
theorem g_X6_of_116 : GoodIn uX6_of (wsV yX6_of.cls 116 RX2 yX2_find uX2_find) := gU_V (wU_r18 _ (List.mem_of_getElem? (i := 17) rfl)) (wU_r18 _ (List.mem_of_getElem? (i := 18) rfl)) (wU_r18 _ (List.mem_of_getElem? (i := 19) rfl)) (wU_r1 _ (List.mem_of_getElem? (i := 15) rfl)) (wU_r18 _ (List.mem_of_getElem? (i := 20) rfl))
theorem w_X6_of_f141 : Cond.fieldLink yX6_of.cls 141 (TX4 8).1 (TX4 8).2.1 (TX4 8).2.2.1 ∈ uX6_of := List.mem_cons_of_mem _ (wU_r19 _ (List.mem_of_getElem? (i := 16) rfl))
theorem w_X6_of_f126 : Cond.fieldLink yX6_of.cls 126 (TX4 7).1 (TX4 7).2.1 (TX4 7).2.2.1 ∈ uX6_of := List.mem_cons_of_mem _ (wU_r18 _ (List.mem_of_getElem? (i := 16) rfl))
theorem w_X6_of_f123 : Cond.fieldLink yX6_of.cls 123 (TX4 6).1 (TX4 6).2.1 (TX4 6).2.2.1 ∈ uX6_of := List.mem_cons_of_mem _ (wU_r18 _ (List.mem_of_getElem? (i := 15) rfl))
theorem w_X6_of_f120 : Cond.fieldLink yX6_of.cls 120 (TX4 5).1 (TX4 5).2.1 (TX4 5).2.2.1 ∈ uX6_of := List.mem_cons_of_mem _ (wU_r18 _ (List.mem_of_getElem? (i := 14) rfl))
theorem w_X6_of_f138 : Cond.fieldLink yX6_of.cls 138 (TX4 4).1 (TX4 4).2.1 (TX4 4).2.2.1 ∈ uX6_of := List.mem_cons_of_mem _ (wU_r19 _ (List.mem_of_getElem? (i := 15) rfl))
theorem w_X6_of_f135 : Cond.fieldLink yX6_of.cls 135 (TX4 3).1 (TX4 3).2.1 (TX4 3).2.2.1 ∈ uX6_of := List.mem_cons_of_mem _ (wU_r19 _ (List.mem_of_getElem? (i := 14) rfl))
theorem w_X6_of_f132 : Cond.fieldLink yX6_of.cls 132 (TX4 2).1 (TX4 2).2.1 (TX4 2).2.2.1 ∈ uX6_of := List.mem_cons_of_mem _ (wU_r19 _ (List.mem_of_getElem? (i := 13) rfl))
theorem w_X6_of_f129 : Cond.fieldLink yX6_of.cls 129 (TX4 1).1 (TX4 1).2.1 (TX4 1).2.2.1 ∈ uX6_of := List.mem_cons_of_mem _ (wU_r19 _ (List.mem_of_getElem? (i := 12) rfl))
def f_X6_of (p1 : Int32) (p2 : Int32) (S : aSt) : Option (Int32 × aSt) := (aB (f_X2_find (1) p1 S) (fun r1_ S1 => aO r1_ (some ((-1 : Int32), S1)) (fun a1_ => (if p2 = (0 : Int32) then (some ((S1.1 (a1_) 1), S1)) else (if p2 = (1 : Int32) then (some ((S1.1 (a1_) 2), S1)) else (if p2 = (2 : Int32) then (some ((S1.1 (a1_) 3), S1)) else (if p2 = (3 : Int32) then (some ((S1.1 (a1_) 4), S1)) else (if p2 = (4 : Int32) then (some ((S1.1 (a1_) 5), S1)) else (if p2 = (5 : Int32) then (some ((S1.1 (a1_) 6), S1)) else (if p2 = (6 : Int32) then (some ((S1.1 (a1_) 7), S1)) else (if p2 = (7 : Int32) then (if (S1.1 (a1_) 8) = 0 then (some ((0 : Int32), S1)) else (some ((1 : Int32), S1))) else (some ((-1 : Int32), S1)))))))))))))
set_option maxRecDepth 20000 in
set_option maxHeartbeats 4000000 in
theorem m_X6_of {G : aG} {K : Option Nat} (hF : aFt G K) (p1 : Int32) (p2 : Int32) (S : aSt) : aMet G yX6_of uX6_of 4 mk_i (f_X6_of p1 p2 S) [.ref (0), .int p1, .int p2] S := by
  refine x_met (cc := cX6_of) (nL := 4) (ret := (some .int)) (L := [some (.ref (0)), some (.int p1), some (.int p2), none]) (by decide +kernel) rfl (And.intro rfl (And.intro rfl (And.intro rfl trivial))) (Nat.le_of_ble_eq_true rfl) ?_
  unfold f_X6_of
  refine x_aload_n dX6_of_0 rfl rfl ?_
  refine x_getR (r := 1) (k := 0) (j := 0) dX6_of_1 hF.1 rfl rfl (Nat.le_of_ble_eq_true rfl) (fun w h => List.mem_cons_of_mem _ (inlX6 w h)) w_X6_of_f12 ?_
  refine x_iload_n dX6_of_4 rfl rfl ?_
  refine x_b (fun r1_ S1 e1 => ?_)
  cases r1_ with
  | none =>
    refine x_oN ?_
    refine x_callVn (As := [.int p1]) dX6_of_5 (aMet_of e1 (m_X2_find (1) hF.2.1 p1 S)) g_X6_of_116 rfl hF.2.1.1 rfl dd_X2_find rfl rfl (Nat.le_of_ble_eq_true rfl) (Nat.le_of_ble_eq_true rfl) (Nat.le_of_ble_eq_true rfl) ?_
    refine x_astore_nN dX6_of_8 rfl (Nat.le_of_ble_eq_true rfl) rfl ?_
    refine x_aload_nN dX6_of_9 rfl rfl ?_
    refine x_ifnonnullN dX6_of_10 ?_
    refine x_iconst (-1 : Int32) dX6_of_13 (by decide) ?_
    exact x_iret dX6_of_14 rfl
  | some a1_ =>
    have h1_ := find_tr hF.2.1 e1
    refine x_oS ?_
    refine x_callVr (As := [.int p1]) dX6_of_5 (aMet_of e1 (m_X2_find (1) hF.2.1 p1 S)) g_X6_of_116 rfl hF.2.1.1 rfl dd_X2_find rfl rfl (Nat.le_of_ble_eq_true rfl) (Nat.le_of_ble_eq_true rfl) (Nat.le_of_ble_eq_true rfl) ?_
    refine x_astore_n dX6_of_8 rfl (Nat.le_of_ble_eq_true rfl) rfl ?_
    refine x_aload_n dX6_of_9 rfl rfl ?_
    refine x_ifnonnull (tgt := 15) dX6_of_10 (by decide) ?_
    refine x_iload_n dX6_of_15 rfl rfl ?_
    refine x_sw (0 : Int32) ?_ (fun hv0 => ?_)
    · refine x_tabIn (off := 48) (tgt := 64) dX6_of_16 (by decide) (by decide) (by decide) (by decide) ?_
      refine x_aload_n dX6_of_64 rfl rfl ?_
      refine x_getI (k := a1_) (j := 1) dX6_of_65 h1_.1 rfl rfl (Nat.le_of_ble_eq_true rfl) (fun w h => List.mem_cons_of_mem _ (inlX4 w h)) w_X6_of_f129 ?_
      exact x_iret dX6_of_68 rfl
    · refine x_sw (1 : Int32) ?_ (fun hv1 => ?_)
      · refine x_tabIn (off := 53) (tgt := 69) dX6_of_16 (by decide) (by decide) (by decide) (by decide) ?_
        refine x_aload_n dX6_of_69 rfl rfl ?_
        refine x_getI (k := a1_) (j := 2) dX6_of_70 h1_.1 rfl rfl (Nat.le_of_ble_eq_true rfl) (fun w h => List.mem_cons_of_mem _ (inlX4 w h)) w_X6_of_f132 ?_
        exact x_iret dX6_of_73 rfl
      · refine x_sw (2 : Int32) ?_ (fun hv2 => ?_)
        · refine x_tabIn (off := 58) (tgt := 74) dX6_of_16 (by decide) (by decide) (by decide) (by decide) ?_
          refine x_aload_n dX6_of_74 rfl rfl ?_
          refine x_getI (k := a1_) (j := 3) dX6_of_75 h1_.1 rfl rfl (Nat.le_of_ble_eq_true rfl) (fun w h => List.mem_cons_of_mem _ (inlX4 w h)) w_X6_of_f135 ?_
          exact x_iret dX6_of_78 rfl
        · refine x_sw (3 : Int32) ?_ (fun hv3 => ?_)
          · refine x_tabIn (off := 63) (tgt := 79) dX6_of_16 (by decide) (by decide) (by decide) (by decide) ?_
            refine x_aload_n dX6_of_79 rfl rfl ?_
            refine x_getI (k := a1_) (j := 4) dX6_of_80 h1_.1 rfl rfl (Nat.le_of_ble_eq_true rfl) (fun w h => List.mem_cons_of_mem _ (inlX4 w h)) w_X6_of_f138 ?_
            exact x_iret dX6_of_83 rfl
          · refine x_sw (4 : Int32) ?_ (fun hv4 => ?_)
            · refine x_tabIn (off := 68) (tgt := 84) dX6_of_16 (by decide) (by decide) (by decide) (by decide) ?_
              refine x_aload_n dX6_of_84 rfl rfl ?_
              refine x_getI (k := a1_) (j := 5) dX6_of_85 h1_.1 rfl rfl (Nat.le_of_ble_eq_true rfl) (fun w h => List.mem_cons_of_mem _ (inlX4 w h)) w_X6_of_f120 ?_
              exact x_iret dX6_of_88 rfl
            · refine x_sw (5 : Int32) ?_ (fun hv5 => ?_)
              · refine x_tabIn (off := 73) (tgt := 89) dX6_of_16 (by decide) (by decide) (by decide) (by decide) ?_
                refine x_aload_n dX6_of_89 rfl rfl ?_
                refine x_getI (k := a1_) (j := 6) dX6_of_90 h1_.1 rfl rfl (Nat.le_of_ble_eq_true rfl) (fun w h => List.mem_cons_of_mem _ (inlX4 w h)) w_X6_of_f123 ?_
                exact x_iret dX6_of_93 rfl
              · refine x_sw (6 : Int32) ?_ (fun hv6 => ?_)
                · refine x_tabIn (off := 78) (tgt := 94) dX6_of_16 (by decide) (by decide) (by decide) (by decide) ?_
                  refine x_aload_n dX6_of_94 rfl rfl ?_
                  refine x_getI (k := a1_) (j := 7) dX6_of_95 h1_.1 rfl rfl (Nat.le_of_ble_eq_true rfl) (fun w h => List.mem_cons_of_mem _ (inlX4 w h)) w_X6_of_f126 ?_
                  exact x_iret dX6_of_98 rfl
                · refine x_sw (7 : Int32) ?_ (fun hv7 => ?_)
                  · refine x_tabIn (off := 83) (tgt := 99) dX6_of_16 (by decide) (by decide) (by decide) (by decide) ?_
                    refine x_aload_n dX6_of_99 rfl rfl ?_
                    refine x_getI (k := a1_) (j := 8) dX6_of_100 h1_.1 rfl rfl (Nat.le_of_ble_eq_true rfl) (fun w h => List.mem_cons_of_mem _ (inlX4 w h)) w_X6_of_f141 ?_
                    refine x_if_eq (tgt := 110) dX6_of_103 (by decide) ?_ ?_
                    · refine x_iconst (0 : Int32) dX6_of_110 (by decide) ?_
                      exact x_iret dX6_of_111 rfl
                    · refine x_iconst (1 : Int32) dX6_of_106 (by decide) ?_
                      refine x_goto (tgt := 111) dX6_of_107 (by decide) ?_
                      exact x_iret dX6_of_111 rfl
                  · refine x_tabOut (tgt := 112) dX6_of_16 (a_out 8 [(0 : Int32), (1 : Int32), (2 : Int32), (3 : Int32), (4 : Int32), (5 : Int32), (6 : Int32), (7 : Int32)] (by decide) (by decide +kernel) (List.forall_mem_cons.mpr ⟨hv0, (List.forall_mem_cons.mpr ⟨hv1, (List.forall_mem_cons.mpr ⟨hv2, (List.forall_mem_cons.mpr ⟨hv3, (List.forall_mem_cons.mpr ⟨hv4, (List.forall_mem_cons.mpr ⟨hv5, (List.forall_mem_cons.mpr ⟨hv6, (List.forall_mem_cons.mpr ⟨hv7, (fun _ h => absurd h List.not_mem_nil)⟩)⟩)⟩)⟩)⟩)⟩)⟩)⟩)) (by decide) ?_
                    refine x_iconst (-1 : Int32) dX6_of_112 (by decide) ?_
                    exact x_iret dX6_of_113 rfl
theorem w_X6_plan_f12 : Cond.fieldLink yX6_plan.cls 12 (TX6 0).1 (TX6 0).2.1 (TX6 0).2.2.1 ∈ uX6_plan := List.mem_cons_of_mem _ (wU_r1 _ (List.mem_of_getElem? (i := 16) rfl))
theorem g_X6_plan_116 : GoodIn uX6_plan (wsV yX6_plan.cls 116 RX2 yX2_find uX2_find) := gU_V (wU_r18 _ (List.mem_of_getElem? (i := 17) rfl)) (wU_r18 _ (List.mem_of_getElem? (i := 18) rfl)) (wU_r18 _ (List.mem_of_getElem? (i := 19) rfl)) (wU_r1 _ (List.mem_of_getElem? (i := 15) rfl)) (wU_r18 _ (List.mem_of_getElem? (i := 20) rfl))
theorem g_X6_plan_57 : GoodIn uX6_plan (va_wsS yX6_plan.cls 57 yX6_outside uX6_outside) := gU_S (wU_r5 _ (List.mem_of_getElem? (i := 21) rfl)) (wU_r5 _ (List.mem_of_getElem? (i := 22) rfl)) (wU_r1 _ (List.mem_of_getElem? (i := 2) rfl)) (wU_r5 _ (List.mem_of_getElem? (i := 23) rfl))
theorem w_X6_plan_f145 : Cond.fieldLink yX6_plan.cls 145 (TX4 9).1 (TX4 9).2.1 (TX4 9).2.2.1 ∈ uX6_plan := List.mem_cons_of_mem _ (wU_r20 _ (List.mem_of_getElem? (i := 1) rfl))
def f_X6_plan_54  (l2 : Int32) (l3 : Int32) (l4 : Nat) (s0 : Int32) (s1 : Int32) (S : aSt) : Option (Int32 × aSt) := (aB (f_X6_outside s1 s0 S) (fun r3_ S3 => (if r3_ = 0 then (if l2 < 0 ∨ 6 ≤ (l2).toNatClampNeg then none else (aLt (S3.1 (l4 + 1) (l2).toNatClampNeg) (fun x4 => (if l2 < 0 ∨ 6 ≤ (l2).toNatClampNeg then none else (aLt (aUi S3 (l4 + 1) (l2).toNatClampNeg l3) (fun S5 => (some (x4, S5)))))))) else (some ((-2 : Int32), S3)))))
set_option maxRecDepth 20000 in
set_option maxHeartbeats 4000000 in
theorem v_X6_plan_54 {G : aG} {K : Option Nat} (hF : aFt G K) (l2 : Int32) (l3 : Int32) (l4 : Nat) (ql4 : aTr G l4) (s0 : Int32) (s1 : Int32) (S : aSt) : aX G yX6_plan cX6_plan 7 (some .int) uX6_plan 4 mk_i (f_X6_plan_54 l2 l3 l4 s0 s1 S) 54 [none, none, some (.int l2), some (.int l3), some (.ref (l4)), none, none] [.int s0, .int s1] S := by
  unfold f_X6_plan_54
  refine x_b (fun r3_ S3 e3 => ?_)
  refine x_callSi (As := [.int s1, .int s0]) dX6_plan_54 (aMet_of e3 (m_X6_outside s1 s0 S)) g_X6_plan_57 rfl dd_X6_outside rfl rfl (Nat.le_of_ble_eq_true rfl) (Nat.le_of_ble_eq_true rfl) (Nat.le_of_ble_eq_true rfl) ?_
  refine x_if_eq (tgt := 63) dX6_plan_57 (by decide) ?_ ?_
  · refine x_aload dX6_plan_63 rfl ?_
    refine x_getR (r := l4 + 1) (k := l4) (j := 9) dX6_plan_65 ql4.1 rfl rfl (Nat.le_of_ble_eq_true rfl) (fun w h => List.mem_cons_of_mem _ (inlX4 w h)) w_X6_plan_f145 ?_
    refine x_iload_n dX6_plan_68 rfl rfl ?_
    refine x_iald dX6_plan_69 ql4.2 ?_
    refine x_lti (fun x4 => ?_)
    refine x_istore dX6_plan_70 (Nat.le_of_ble_eq_true rfl) rfl ?_
    refine x_aload dX6_plan_72 rfl ?_
    refine x_getR (r := l4 + 1) (k := l4) (j := 9) dX6_plan_74 ql4.1 rfl rfl (Nat.le_of_ble_eq_true rfl) (fun w h => List.mem_cons_of_mem _ (inlX4 w h)) w_X6_plan_f145 ?_
    refine x_iload_n dX6_plan_77 rfl rfl ?_
    refine x_iload_n dX6_plan_78 rfl rfl ?_
    refine x_iast dX6_plan_79 ql4.2 ?_
    refine x_ltS (fun S5 => ?_)
    refine x_iload dX6_plan_80 rfl ?_
    exact x_iret dX6_plan_82 rfl
  · refine x_bipush (-2 : Int32) dX6_plan_60 (by decide) ?_
    exact x_iret dX6_plan_62 rfl
def f_X6_plan_39  (l2 : Int32) (l3 : Int32) (l4 : Nat) (s0 : Int32) (S : aSt) : Option (Int32 × aSt) := (if s0 = 0 then (f_X6_plan_54 l2 l3 (l4) (9 : Int32) l3 S) else (f_X6_plan_54 l2 l3 (l4) (7 : Int32) l3 S))
set_option maxRecDepth 20000 in
set_option maxHeartbeats 4000000 in
theorem v_X6_plan_39 {G : aG} {K : Option Nat} (hF : aFt G K) (l2 : Int32) (l3 : Int32) (l4 : Nat) (ql4 : aTr G l4) (s0 : Int32) (S : aSt) : aX G yX6_plan cX6_plan 7 (some .int) uX6_plan 4 mk_i (f_X6_plan_39 l2 l3 l4 s0 S) 39 [none, none, some (.int l2), some (.int l3), some (.ref (l4)), none, none] [.int s0] S := by
  unfold f_X6_plan_39
  refine x_istore dX6_plan_39 (Nat.le_of_ble_eq_true rfl) rfl ?_
  refine x_iload_n dX6_plan_41 rfl rfl ?_
  refine x_iload dX6_plan_42 rfl ?_
  refine x_if_eq (tgt := 52) dX6_plan_44 (by decide) ?_ ?_
  · refine x_bipush (9 : Int32) dX6_plan_52 (by decide) ?_
    exact x_le (v_X6_plan_54 hF l2 l3 (l4) ql4 (9 : Int32) l3 S) (And.intro rfl (And.intro rfl (And.intro rfl trivial)))
  · refine x_bipush (7 : Int32) dX6_plan_47 (by decide) ?_
    refine x_goto (tgt := 54) dX6_plan_49 (by decide) ?_
    exact x_le (v_X6_plan_54 hF l2 l3 (l4) ql4 (7 : Int32) l3 S) (And.intro rfl (And.intro rfl (And.intro rfl trivial)))
def f_X6_plan_34  (l2 : Int32) (l3 : Int32) (l4 : Nat) (S : aSt) : Option (Int32 × aSt) := (f_X6_plan_39 l2 l3 (l4) (1 : Int32) S)
set_option maxRecDepth 20000 in
set_option maxHeartbeats 4000000 in
theorem v_X6_plan_34 {G : aG} {K : Option Nat} (hF : aFt G K) (l2 : Int32) (l3 : Int32) (l4 : Nat) (ql4 : aTr G l4) (S : aSt) : aX G yX6_plan cX6_plan 7 (some .int) uX6_plan 4 mk_i (f_X6_plan_34 l2 l3 l4 S) 34 [none, none, some (.int l2), some (.int l3), some (.ref (l4)), none, none] [] S := by
  unfold f_X6_plan_34
  refine x_iconst (1 : Int32) dX6_plan_34 (by decide) ?_
  refine x_goto (tgt := 39) dX6_plan_35 (by decide) ?_
  exact x_le (v_X6_plan_39 hF l2 l3 (l4) ql4 (1 : Int32) S) (And.intro rfl (And.intro rfl (And.intro rfl trivial)))
def f_X6_plan (p1 : Int32) (p2 : Int32) (p3 : Int32) (S : aSt) : Option (Int32 × aSt) := (aB (f_X2_find (1) p1 S) (fun r1_ S1 => aO r1_ (some ((-1 : Int32), S1)) (fun a1_ => (aB (f_X6_outside p2 (5 : Int32) S1) (fun r2_ S2 => (if r2_ = 0 then (if p2 = 0 then (f_X6_plan_34 p2 p3 (a1_) S2) else (if p2 = (4 : Int32) then (f_X6_plan_34 p2 p3 (a1_) S2) else (f_X6_plan_39 p2 p3 (a1_) (0 : Int32) S2))) else (some ((-1 : Int32), S2))))))))
set_option maxRecDepth 20000 in
set_option maxHeartbeats 4000000 in
theorem m_X6_plan {G : aG} {K : Option Nat} (hF : aFt G K) (p1 : Int32) (p2 : Int32) (p3 : Int32) (S : aSt) : aMet G yX6_plan uX6_plan 4 mk_i (f_X6_plan p1 p2 p3 S) [.ref (0), .int p1, .int p2, .int p3] S := by
  refine x_met (cc := cX6_plan) (nL := 7) (ret := (some .int)) (L := [some (.ref (0)), some (.int p1), some (.int p2), some (.int p3), none, none, none]) (by decide +kernel) rfl (And.intro rfl (And.intro rfl (And.intro rfl (And.intro rfl trivial)))) (Nat.le_of_ble_eq_true rfl) ?_
  unfold f_X6_plan
  refine x_aload_n dX6_plan_0 rfl rfl ?_
  refine x_getR (r := 1) (k := 0) (j := 0) dX6_plan_1 hF.1 rfl rfl (Nat.le_of_ble_eq_true rfl) (fun w h => List.mem_cons_of_mem _ (inlX6 w h)) w_X6_plan_f12 ?_
  refine x_iload_n dX6_plan_4 rfl rfl ?_
  refine x_b (fun r1_ S1 e1 => ?_)
  cases r1_ with
  | none =>
    refine x_oN ?_
    refine x_callVn (As := [.int p1]) dX6_plan_5 (aMet_of e1 (m_X2_find (1) hF.2.1 p1 S)) g_X6_plan_116 rfl hF.2.1.1 rfl dd_X2_find rfl rfl (Nat.le_of_ble_eq_true rfl) (Nat.le_of_ble_eq_true rfl) (Nat.le_of_ble_eq_true rfl) ?_
    refine x_astoreN dX6_plan_8 (Nat.le_of_ble_eq_true rfl) rfl ?_
    refine x_aloadN dX6_plan_10 rfl ?_
    refine x_ifnullN (tgt := 23) dX6_plan_12 (by decide) ?_
    refine x_iconst (-1 : Int32) dX6_plan_23 (by decide) ?_
    exact x_iret dX6_plan_24 rfl
  | some a1_ =>
    have h1_ := find_tr hF.2.1 e1
    refine x_oS ?_
    refine x_callVr (As := [.int p1]) dX6_plan_5 (aMet_of e1 (m_X2_find (1) hF.2.1 p1 S)) g_X6_plan_116 rfl hF.2.1.1 rfl dd_X2_find rfl rfl (Nat.le_of_ble_eq_true rfl) (Nat.le_of_ble_eq_true rfl) (Nat.le_of_ble_eq_true rfl) ?_
    refine x_astore dX6_plan_8 (Nat.le_of_ble_eq_true rfl) rfl ?_
    refine x_aload dX6_plan_10 rfl ?_
    refine x_ifnull dX6_plan_12 ?_
    refine x_iload_n dX6_plan_15 rfl rfl ?_
    refine x_iconst (5 : Int32) dX6_plan_16 (by decide) ?_
    refine x_b (fun r2_ S2 e2 => ?_)
    refine x_callSi (As := [.int p2, .int (5 : Int32)]) dX6_plan_17 (aMet_of e2 (m_X6_outside p2 (5 : Int32) S1)) g_X6_plan_57 rfl dd_X6_outside rfl rfl (Nat.le_of_ble_eq_true rfl) (Nat.le_of_ble_eq_true rfl) (Nat.le_of_ble_eq_true rfl) ?_
    refine x_if_eq (tgt := 25) dX6_plan_20 (by decide) ?_ ?_
    · refine x_iload_n dX6_plan_25 rfl rfl ?_
      refine x_if_eq (tgt := 34) dX6_plan_26 (by decide) ?_ ?_
      · exact x_le (v_X6_plan_34 hF p2 p3 (a1_) h1_ S2) (And.intro rfl (And.intro rfl (And.intro rfl trivial)))
      · refine x_iload_n dX6_plan_29 rfl rfl ?_
        refine x_iconst (4 : Int32) dX6_plan_30 (by decide) ?_
        refine x_icmp_ne (tgt := 38) dX6_plan_31 (by decide) ?_ ?_
        · refine x_iconst (0 : Int32) dX6_plan_38 (by decide) ?_
          exact x_le (v_X6_plan_39 hF p2 p3 (a1_) h1_ (0 : Int32) S2) (And.intro rfl (And.intro rfl (And.intro rfl trivial)))
        · exact x_le (v_X6_plan_34 hF p2 p3 (a1_) h1_ S2) (And.intro rfl (And.intro rfl (And.intro rfl trivial)))
    · refine x_iconst (-1 : Int32) dX6_plan_23 (by decide) ?_
      exact x_iret dX6_plan_24 rfl
theorem dd_X1_run : yX1_run.cls = RX1 ∧ yX1_run.cls ≠ "java/lang/invoke/MethodHandle" ∧ yX1_run.cls ≠ "java/lang/invoke/VarHandle" ∧ (parseMethodDescriptor yX1_run.desc).map (fun d => d.parameters.length) = some 3 := by decide +kernel
theorem w_X6_goes_f12 : Cond.fieldLink yX6_goes.cls 12 (TX6 0).1 (TX6 0).2.1 (TX6 0).2.2.1 ∈ uX6_goes := List.mem_cons_of_mem _ (wU_r1 _ (List.mem_of_getElem? (i := 16) rfl))
theorem g_X6_goes_116 : GoodIn uX6_goes (wsV yX6_goes.cls 116 RX2 yX2_find uX2_find) := gU_V (wU_r18 _ (List.mem_of_getElem? (i := 17) rfl)) (wU_r18 _ (List.mem_of_getElem? (i := 18) rfl)) (wU_r18 _ (List.mem_of_getElem? (i := 19) rfl)) (wU_r1 _ (List.mem_of_getElem? (i := 15) rfl)) (wU_r18 _ (List.mem_of_getElem? (i := 20) rfl))
theorem g_X6_goes_57 : GoodIn uX6_goes (va_wsS yX6_goes.cls 57 yX6_outside uX6_outside) := gU_S (wU_r5 _ (List.mem_of_getElem? (i := 21) rfl)) (wU_r5 _ (List.mem_of_getElem? (i := 22) rfl)) (wU_r1 _ (List.mem_of_getElem? (i := 2) rfl)) (wU_r5 _ (List.mem_of_getElem? (i := 23) rfl))
theorem w_X6_goes_f141 : Cond.fieldLink yX6_goes.cls 141 (TX4 8).1 (TX4 8).2.1 (TX4 8).2.2.1 ∈ uX6_goes := List.mem_cons_of_mem _ (wU_r19 _ (List.mem_of_getElem? (i := 16) rfl))
theorem w_X6_goes_f28 : Cond.fieldLink yX6_goes.cls 28 (TX6 2).1 (TX6 2).2.1 (TX6 2).2.2.1 ∈ uX6_goes := List.mem_cons_of_mem _ (wU_r2 _ (List.mem_of_getElem? (i := 0) rfl))
theorem g_X6_goes_149 : GoodIn uX6_goes (wsV yX6_goes.cls 149 RX1 yX1_run uX1_run) := gU_V (wU_r20 _ (List.mem_of_getElem? (i := 18) rfl)) (wU_r20 _ (List.mem_of_getElem? (i := 19) rfl)) (wU_r20 _ (List.mem_of_getElem? (i := 20) rfl)) (wU_r1 _ (List.mem_of_getElem? (i := 23) rfl)) (wU_r20 _ (List.mem_of_getElem? (i := 21) rfl))
theorem w_X6_goes_f174 : Cond.fieldLink yX6_goes.cls 174 (TX1 6).1 (TX1 6).2.1 (TX1 6).2.2.1 ∈ uX6_goes := List.mem_cons_of_mem _ (wU_r20 _ (List.mem_of_getElem? (i := 17) rfl))
theorem w_X6_goes_f171 : Cond.fieldLink yX6_goes.cls 171 (TX1 7).1 (TX1 7).2.1 (TX1 7).2.2.1 ∈ uX6_goes := List.mem_cons_of_mem _ (wU_r20 _ (List.mem_of_getElem? (i := 16) rfl))
theorem g_X6_goes_53 : GoodIn uX6_goes (va_wsS yX6_goes.cls 53 yJ13_bitCount_95d88 uJ13_bitCount_95d88) := gU_S (wU_r5 _ (List.mem_of_getElem? (i := 4) rfl)) (wU_r5 _ (List.mem_of_getElem? (i := 5) rfl)) (wU_r5 _ (List.mem_of_getElem? (i := 6) rfl)) (wU_r5 _ (List.mem_of_getElem? (i := 7) rfl))
theorem w_X6_goes_f168 : Cond.fieldLink yX6_goes.cls 168 (TX1 5).1 (TX1 5).2.1 (TX1 5).2.2.1 ∈ uX6_goes := List.mem_cons_of_mem _ (wU_r20 _ (List.mem_of_getElem? (i := 15) rfl))
theorem w_X6_goes_f165 : Cond.fieldLink yX6_goes.cls 165 (TX1 4).1 (TX1 4).2.1 (TX1 4).2.2.1 ∈ uX6_goes := List.mem_cons_of_mem _ (wU_r20 _ (List.mem_of_getElem? (i := 14) rfl))
theorem w_X6_goes_f162 : Cond.fieldLink yX6_goes.cls 162 (TX1 3).1 (TX1 3).2.1 (TX1 3).2.2.1 ∈ uX6_goes := List.mem_cons_of_mem _ (wU_r20 _ (List.mem_of_getElem? (i := 13) rfl))
theorem w_X6_goes_f159 : Cond.fieldLink yX6_goes.cls 159 (TX1 2).1 (TX1 2).2.1 (TX1 2).2.2.1 ∈ uX6_goes := List.mem_cons_of_mem _ (wU_r20 _ (List.mem_of_getElem? (i := 12) rfl))
theorem w_X6_goes_f156 : Cond.fieldLink yX6_goes.cls 156 (TX1 1).1 (TX1 1).2.1 (TX1 1).2.2.1 ∈ uX6_goes := List.mem_cons_of_mem _ (wU_r20 _ (List.mem_of_getElem? (i := 11) rfl))
theorem w_X6_goes_f153 : Cond.fieldLink yX6_goes.cls 153 (TX1 0).1 (TX1 0).2.1 (TX1 0).2.2.1 ∈ uX6_goes := List.mem_cons_of_mem _ (wU_r20 _ (List.mem_of_getElem? (i := 10) rfl))
def f_X6_goes (p1 : Int32) (p2 : Int32) (S : aSt) : Option (Int32 × aSt) := (aB (f_X2_find (1) p1 S) (fun r1_ S1 => aO r1_ (some ((-10001 : Int32), S1)) (fun a1_ => (aB (f_X6_outside p2 (7 : Int32) S1) (fun r2_ S2 => (if r2_ = 0 then (if (S2.1 (a1_) 8) = 0 then (some ((-10002 : Int32), S2)) else (aB (f_X1_run (1) (a1_) (-1 : Int32) S2) (fun r3_ S3 => (if p2 = (0 : Int32) then (some ((S3.1 (29) 0), S3)) else (if p2 = (1 : Int32) then (some ((S3.1 (29) 1), S3)) else (if p2 = (2 : Int32) then (some ((S3.1 (29) 2), S3)) else (if p2 = (3 : Int32) then (some ((S3.1 (29) 3), S3)) else (if p2 = (4 : Int32) then (some ((S3.1 (29) 4), S3)) else (if p2 = (5 : Int32) then (some ((S3.1 (29) 5), S3)) else (if p2 = (6 : Int32) then (aB (f_J13_bitCount_95d88 (S3.2 (29) 7) S3) (fun r4_ S4 => (some (r4_, S4)))) else (some ((S3.1 (29) 6), S3)))))))))))) else (some ((-10001 : Int32), S2))))))))
set_option maxRecDepth 20000 in
set_option maxHeartbeats 4000000 in
theorem m_X6_goes {G : aG} {K : Option Nat} (hF : aFt G K) (p1 : Int32) (p2 : Int32) (S : aSt) : aMet G yX6_goes uX6_goes 8 mk_i (f_X6_goes p1 p2 S) [.ref (0), .int p1, .int p2] S := by
  refine x_met (cc := cX6_goes) (nL := 4) (ret := (some .int)) (L := [some (.ref (0)), some (.int p1), some (.int p2), none]) (by decide +kernel) rfl (And.intro rfl (And.intro rfl (And.intro rfl trivial))) (Nat.le_of_ble_eq_true rfl) ?_
  unfold f_X6_goes
  refine x_aload_n dX6_goes_0 rfl rfl ?_
  refine x_getR (r := 1) (k := 0) (j := 0) dX6_goes_1 hF.1 rfl rfl (Nat.le_of_ble_eq_true rfl) (fun w h => List.mem_cons_of_mem _ (inlX6 w h)) w_X6_goes_f12 ?_
  refine x_iload_n dX6_goes_4 rfl rfl ?_
  refine x_b (fun r1_ S1 e1 => ?_)
  cases r1_ with
  | none =>
    refine x_oN ?_
    refine x_callVn (As := [.int p1]) dX6_goes_5 (aMet_of e1 (m_X2_find (1) hF.2.1 p1 S)) g_X6_goes_116 rfl hF.2.1.1 rfl dd_X2_find rfl rfl (Nat.le_of_ble_eq_true rfl) (Nat.le_of_ble_eq_true rfl) (Nat.le_of_ble_eq_true rfl) ?_
    refine x_astore_nN dX6_goes_8 rfl (Nat.le_of_ble_eq_true rfl) rfl ?_
    refine x_aload_nN dX6_goes_9 rfl rfl ?_
    refine x_ifnullN (tgt := 22) dX6_goes_10 (by decide) ?_
    refine x_sipush (-10001 : Int32) dX6_goes_22 (by decide) ?_
    exact x_iret dX6_goes_25 rfl
  | some a1_ =>
    have h1_ := find_tr hF.2.1 e1
    refine x_oS ?_
    refine x_callVr (As := [.int p1]) dX6_goes_5 (aMet_of e1 (m_X2_find (1) hF.2.1 p1 S)) g_X6_goes_116 rfl hF.2.1.1 rfl dd_X2_find rfl rfl (Nat.le_of_ble_eq_true rfl) (Nat.le_of_ble_eq_true rfl) (Nat.le_of_ble_eq_true rfl) ?_
    refine x_astore_n dX6_goes_8 rfl (Nat.le_of_ble_eq_true rfl) rfl ?_
    refine x_aload_n dX6_goes_9 rfl rfl ?_
    refine x_ifnull dX6_goes_10 ?_
    refine x_iload_n dX6_goes_13 rfl rfl ?_
    refine x_bipush (7 : Int32) dX6_goes_14 (by decide) ?_
    refine x_b (fun r2_ S2 e2 => ?_)
    refine x_callSi (As := [.int p2, .int (7 : Int32)]) dX6_goes_16 (aMet_of e2 (m_X6_outside p2 (7 : Int32) S1)) g_X6_goes_57 rfl dd_X6_outside rfl rfl (Nat.le_of_ble_eq_true rfl) (Nat.le_of_ble_eq_true rfl) (Nat.le_of_ble_eq_true rfl) ?_
    refine x_if_eq (tgt := 26) dX6_goes_19 (by decide) ?_ ?_
    · refine x_aload_n dX6_goes_26 rfl rfl ?_
      refine x_getI (k := a1_) (j := 8) dX6_goes_27 h1_.1 rfl rfl (Nat.le_of_ble_eq_true rfl) (fun w h => List.mem_cons_of_mem _ (inlX4 w h)) w_X6_goes_f141 ?_
      refine x_if_ne (tgt := 37) dX6_goes_30 (by decide) ?_ ?_
      · refine x_aload_n dX6_goes_37 rfl rfl ?_
        refine x_getR (r := 29) (k := 0) (j := 2) dX6_goes_38 hF.1 rfl rfl (Nat.le_of_ble_eq_true rfl) (fun w h => List.mem_cons_of_mem _ (inlX6 w h)) w_X6_goes_f28 ?_
        refine x_aload_n dX6_goes_41 rfl rfl ?_
        refine x_getR (r := 1) (k := 0) (j := 0) dX6_goes_42 hF.1 rfl rfl (Nat.le_of_ble_eq_true rfl) (fun w h => List.mem_cons_of_mem _ (inlX6 w h)) w_X6_goes_f12 ?_
        refine x_aload_n dX6_goes_45 rfl rfl ?_
        refine x_iconst (-1 : Int32) dX6_goes_46 (by decide) ?_
        refine x_b (fun r3_ S3 e3 => ?_)
        refine x_callVv (As := [.ref (1), .ref (a1_), .int (-1 : Int32)]) dX6_goes_47 (aMet_of e3 (m_X1_run hF.2.2.2.1 (1) hF.2.1 (a1_) h1_ (-1 : Int32) S2)) g_X6_goes_149 rfl hF.2.2.2.1 rfl dd_X1_run rfl rfl (Nat.le_of_ble_eq_true rfl) (Nat.le_of_ble_eq_true rfl) (Nat.le_of_ble_eq_true rfl) ?_
        refine x_iload_n dX6_goes_50 rfl rfl ?_
        refine x_sw (0 : Int32) ?_ (fun hv0 => ?_)
        · refine x_tabIn (off := 41) (tgt := 92) dX6_goes_51 (by decide) (by decide) (by decide) (by decide) ?_
          refine x_aload_n dX6_goes_92 rfl rfl ?_
          refine x_getR (r := 29) (k := 0) (j := 2) dX6_goes_93 hF.1 rfl rfl (Nat.le_of_ble_eq_true rfl) (fun w h => List.mem_cons_of_mem _ (inlX6 w h)) w_X6_goes_f28 ?_
          refine x_getI (k := 29) (j := 0) dX6_goes_96 hF.2.2.2.1 rfl rfl (Nat.le_of_ble_eq_true rfl) (fun w h => List.mem_cons_of_mem _ (inlX1 w h)) w_X6_goes_f153 ?_
          exact x_iret dX6_goes_99 rfl
        · refine x_sw (1 : Int32) ?_ (fun hv1 => ?_)
          · refine x_tabIn (off := 49) (tgt := 100) dX6_goes_51 (by decide) (by decide) (by decide) (by decide) ?_
            refine x_aload_n dX6_goes_100 rfl rfl ?_
            refine x_getR (r := 29) (k := 0) (j := 2) dX6_goes_101 hF.1 rfl rfl (Nat.le_of_ble_eq_true rfl) (fun w h => List.mem_cons_of_mem _ (inlX6 w h)) w_X6_goes_f28 ?_
            refine x_getI (k := 29) (j := 1) dX6_goes_104 hF.2.2.2.1 rfl rfl (Nat.le_of_ble_eq_true rfl) (fun w h => List.mem_cons_of_mem _ (inlX1 w h)) w_X6_goes_f156 ?_
            exact x_iret dX6_goes_107 rfl
          · refine x_sw (2 : Int32) ?_ (fun hv2 => ?_)
            · refine x_tabIn (off := 57) (tgt := 108) dX6_goes_51 (by decide) (by decide) (by decide) (by decide) ?_
              refine x_aload_n dX6_goes_108 rfl rfl ?_
              refine x_getR (r := 29) (k := 0) (j := 2) dX6_goes_109 hF.1 rfl rfl (Nat.le_of_ble_eq_true rfl) (fun w h => List.mem_cons_of_mem _ (inlX6 w h)) w_X6_goes_f28 ?_
              refine x_getI (k := 29) (j := 2) dX6_goes_112 hF.2.2.2.1 rfl rfl (Nat.le_of_ble_eq_true rfl) (fun w h => List.mem_cons_of_mem _ (inlX1 w h)) w_X6_goes_f159 ?_
              exact x_iret dX6_goes_115 rfl
            · refine x_sw (3 : Int32) ?_ (fun hv3 => ?_)
              · refine x_tabIn (off := 65) (tgt := 116) dX6_goes_51 (by decide) (by decide) (by decide) (by decide) ?_
                refine x_aload_n dX6_goes_116 rfl rfl ?_
                refine x_getR (r := 29) (k := 0) (j := 2) dX6_goes_117 hF.1 rfl rfl (Nat.le_of_ble_eq_true rfl) (fun w h => List.mem_cons_of_mem _ (inlX6 w h)) w_X6_goes_f28 ?_
                refine x_getI (k := 29) (j := 3) dX6_goes_120 hF.2.2.2.1 rfl rfl (Nat.le_of_ble_eq_true rfl) (fun w h => List.mem_cons_of_mem _ (inlX1 w h)) w_X6_goes_f162 ?_
                exact x_iret dX6_goes_123 rfl
              · refine x_sw (4 : Int32) ?_ (fun hv4 => ?_)
                · refine x_tabIn (off := 73) (tgt := 124) dX6_goes_51 (by decide) (by decide) (by decide) (by decide) ?_
                  refine x_aload_n dX6_goes_124 rfl rfl ?_
                  refine x_getR (r := 29) (k := 0) (j := 2) dX6_goes_125 hF.1 rfl rfl (Nat.le_of_ble_eq_true rfl) (fun w h => List.mem_cons_of_mem _ (inlX6 w h)) w_X6_goes_f28 ?_
                  refine x_getI (k := 29) (j := 4) dX6_goes_128 hF.2.2.2.1 rfl rfl (Nat.le_of_ble_eq_true rfl) (fun w h => List.mem_cons_of_mem _ (inlX1 w h)) w_X6_goes_f165 ?_
                  exact x_iret dX6_goes_131 rfl
                · refine x_sw (5 : Int32) ?_ (fun hv5 => ?_)
                  · refine x_tabIn (off := 81) (tgt := 132) dX6_goes_51 (by decide) (by decide) (by decide) (by decide) ?_
                    refine x_aload_n dX6_goes_132 rfl rfl ?_
                    refine x_getR (r := 29) (k := 0) (j := 2) dX6_goes_133 hF.1 rfl rfl (Nat.le_of_ble_eq_true rfl) (fun w h => List.mem_cons_of_mem _ (inlX6 w h)) w_X6_goes_f28 ?_
                    refine x_getI (k := 29) (j := 5) dX6_goes_136 hF.2.2.2.1 rfl rfl (Nat.le_of_ble_eq_true rfl) (fun w h => List.mem_cons_of_mem _ (inlX1 w h)) w_X6_goes_f168 ?_
                    exact x_iret dX6_goes_139 rfl
                  · refine x_sw (6 : Int32) ?_ (fun hv6 => ?_)
                    · refine x_tabIn (off := 89) (tgt := 140) dX6_goes_51 (by decide) (by decide) (by decide) (by decide) ?_
                      refine x_aload_n dX6_goes_140 rfl rfl ?_
                      refine x_getR (r := 29) (k := 0) (j := 2) dX6_goes_141 hF.1 rfl rfl (Nat.le_of_ble_eq_true rfl) (fun w h => List.mem_cons_of_mem _ (inlX6 w h)) w_X6_goes_f28 ?_
                      refine x_getJ (k := 29) (j := 7) dX6_goes_144 hF.2.2.2.1 rfl rfl (Nat.le_of_ble_eq_true rfl) (fun w h => List.mem_cons_of_mem _ (inlX1 w h)) w_X6_goes_f171 ?_
                      refine x_b (fun r4_ S4 e4 => ?_)
                      refine x_callSi (As := [.long (S3.2 (29) 7)]) dX6_goes_147 (aMet_of e4 (m_J13_bitCount_95d88 (S3.2 (29) 7) S3)) g_X6_goes_53 rfl dd_J13_bitCount_95d88 rfl rfl (Nat.le_of_ble_eq_true rfl) (Nat.le_of_ble_eq_true rfl) (Nat.le_of_ble_eq_true rfl) ?_
                      exact x_iret dX6_goes_150 rfl
                    · refine x_tabOut (tgt := 151) dX6_goes_51 (a_out 7 [(0 : Int32), (1 : Int32), (2 : Int32), (3 : Int32), (4 : Int32), (5 : Int32), (6 : Int32)] (by decide) (by decide +kernel) (List.forall_mem_cons.mpr ⟨hv0, (List.forall_mem_cons.mpr ⟨hv1, (List.forall_mem_cons.mpr ⟨hv2, (List.forall_mem_cons.mpr ⟨hv3, (List.forall_mem_cons.mpr ⟨hv4, (List.forall_mem_cons.mpr ⟨hv5, (List.forall_mem_cons.mpr ⟨hv6, (fun _ h => absurd h List.not_mem_nil)⟩)⟩)⟩)⟩)⟩)⟩)⟩)) (by decide) ?_
                      refine x_aload_n dX6_goes_151 rfl rfl ?_
                      refine x_getR (r := 29) (k := 0) (j := 2) dX6_goes_152 hF.1 rfl rfl (Nat.le_of_ble_eq_true rfl) (fun w h => List.mem_cons_of_mem _ (inlX6 w h)) w_X6_goes_f28 ?_
                      refine x_getI (k := 29) (j := 6) dX6_goes_155 hF.2.2.2.1 rfl rfl (Nat.le_of_ble_eq_true rfl) (fun w h => List.mem_cons_of_mem _ (inlX1 w h)) w_X6_goes_f174 ?_
                      exact x_iret dX6_goes_158 rfl
      · refine x_sipush (-10002 : Int32) dX6_goes_33 (by decide) ?_
        exact x_iret dX6_goes_36 rfl
    · refine x_sipush (-10001 : Int32) dX6_goes_22 (by decide) ?_
      exact x_iret dX6_goes_25 rfl
theorem w_X6_lies_f12 : Cond.fieldLink yX6_lies.cls 12 (TX6 0).1 (TX6 0).2.1 (TX6 0).2.2.1 ∈ uX6_lies := List.mem_cons_of_mem _ (wU_r1 _ (List.mem_of_getElem? (i := 16) rfl))
theorem g_X6_lies_116 : GoodIn uX6_lies (wsV yX6_lies.cls 116 RX2 yX2_find uX2_find) := gU_V (wU_r18 _ (List.mem_of_getElem? (i := 17) rfl)) (wU_r18 _ (List.mem_of_getElem? (i := 18) rfl)) (wU_r18 _ (List.mem_of_getElem? (i := 19) rfl)) (wU_r1 _ (List.mem_of_getElem? (i := 15) rfl)) (wU_r18 _ (List.mem_of_getElem? (i := 20) rfl))
theorem w_X6_lies_k177 : Cond.constantLong yX6_lies.cls 177 (-9223372036854775808 : Int64) ∈ uX6_lies := List.mem_cons_of_mem _ (wU_r27 _ (List.mem_of_getElem? (i := 10) rfl))
theorem w_X6_lies_f141 : Cond.fieldLink yX6_lies.cls 141 (TX4 8).1 (TX4 8).2.1 (TX4 8).2.2.1 ∈ uX6_lies := List.mem_cons_of_mem _ (wU_r19 _ (List.mem_of_getElem? (i := 16) rfl))
theorem w_X6_lies_f28 : Cond.fieldLink yX6_lies.cls 28 (TX6 2).1 (TX6 2).2.1 (TX6 2).2.2.1 ∈ uX6_lies := List.mem_cons_of_mem _ (wU_r2 _ (List.mem_of_getElem? (i := 0) rfl))
theorem g_X6_lies_149 : GoodIn uX6_lies (wsV yX6_lies.cls 149 RX1 yX1_run uX1_run) := gU_V (wU_r20 _ (List.mem_of_getElem? (i := 18) rfl)) (wU_r20 _ (List.mem_of_getElem? (i := 19) rfl)) (wU_r20 _ (List.mem_of_getElem? (i := 20) rfl)) (wU_r1 _ (List.mem_of_getElem? (i := 23) rfl)) (wU_r20 _ (List.mem_of_getElem? (i := 21) rfl))
theorem w_X6_lies_f171 : Cond.fieldLink yX6_lies.cls 171 (TX1 7).1 (TX1 7).2.1 (TX1 7).2.2.1 ∈ uX6_lies := List.mem_cons_of_mem _ (wU_r20 _ (List.mem_of_getElem? (i := 16) rfl))
def f_X6_lies (p1 : Int32) (S : aSt) : Option (Int64 × aSt) := (aB (f_X2_find (1) p1 S) (fun r1_ S1 => aO r1_ (some ((-9223372036854775808 : Int64), S1)) (fun a1_ => (if (S1.1 (a1_) 8) = 0 then (some ((-9223372036854775808 : Int64), S1)) else (aB (f_X1_run (1) (a1_) (-1 : Int32) S1) (fun r2_ S2 => (some ((S2.2 (29) 7), S2))))))))
set_option maxRecDepth 20000 in
set_option maxHeartbeats 4000000 in
theorem m_X6_lies {G : aG} {K : Option Nat} (hF : aFt G K) (p1 : Int32) (S : aSt) : aMet G yX6_lies uX6_lies 8 mk_l (f_X6_lies p1 S) [.ref (0), .int p1] S := by
  refine x_met (cc := cX6_lies) (nL := 3) (ret := (some .long)) (L := [some (.ref (0)), some (.int p1), none]) (by decide +kernel) rfl (And.intro rfl (And.intro rfl trivial)) (Nat.le_of_ble_eq_true rfl) ?_
  unfold f_X6_lies
  refine x_aload_n dX6_lies_0 rfl rfl ?_
  refine x_getR (r := 1) (k := 0) (j := 0) dX6_lies_1 hF.1 rfl rfl (Nat.le_of_ble_eq_true rfl) (fun w h => List.mem_cons_of_mem _ (inlX6 w h)) w_X6_lies_f12 ?_
  refine x_iload_n dX6_lies_4 rfl rfl ?_
  refine x_b (fun r1_ S1 e1 => ?_)
  cases r1_ with
  | none =>
    refine x_oN ?_
    refine x_callVn (As := [.int p1]) dX6_lies_5 (aMet_of e1 (m_X2_find (1) hF.2.1 p1 S)) g_X6_lies_116 rfl hF.2.1.1 rfl dd_X2_find rfl rfl (Nat.le_of_ble_eq_true rfl) (Nat.le_of_ble_eq_true rfl) (Nat.le_of_ble_eq_true rfl) ?_
    refine x_astore_nN dX6_lies_8 rfl (Nat.le_of_ble_eq_true rfl) rfl ?_
    refine x_aload_nN dX6_lies_9 rfl rfl ?_
    refine x_ifnullN (tgt := 20) dX6_lies_10 (by decide) ?_
    refine x_ldc2 (v := (-9223372036854775808 : Int64)) dX6_lies_20 w_X6_lies_k177 ?_
    exact x_lret dX6_lies_23 rfl
  | some a1_ =>
    have h1_ := find_tr hF.2.1 e1
    refine x_oS ?_
    refine x_callVr (As := [.int p1]) dX6_lies_5 (aMet_of e1 (m_X2_find (1) hF.2.1 p1 S)) g_X6_lies_116 rfl hF.2.1.1 rfl dd_X2_find rfl rfl (Nat.le_of_ble_eq_true rfl) (Nat.le_of_ble_eq_true rfl) (Nat.le_of_ble_eq_true rfl) ?_
    refine x_astore_n dX6_lies_8 rfl (Nat.le_of_ble_eq_true rfl) rfl ?_
    refine x_aload_n dX6_lies_9 rfl rfl ?_
    refine x_ifnull dX6_lies_10 ?_
    refine x_aload_n dX6_lies_13 rfl rfl ?_
    refine x_getI (k := a1_) (j := 8) dX6_lies_14 h1_.1 rfl rfl (Nat.le_of_ble_eq_true rfl) (fun w h => List.mem_cons_of_mem _ (inlX4 w h)) w_X6_lies_f141 ?_
    refine x_if_ne (tgt := 24) dX6_lies_17 (by decide) ?_ ?_
    · refine x_aload_n dX6_lies_24 rfl rfl ?_
      refine x_getR (r := 29) (k := 0) (j := 2) dX6_lies_25 hF.1 rfl rfl (Nat.le_of_ble_eq_true rfl) (fun w h => List.mem_cons_of_mem _ (inlX6 w h)) w_X6_lies_f28 ?_
      refine x_aload_n dX6_lies_28 rfl rfl ?_
      refine x_getR (r := 1) (k := 0) (j := 0) dX6_lies_29 hF.1 rfl rfl (Nat.le_of_ble_eq_true rfl) (fun w h => List.mem_cons_of_mem _ (inlX6 w h)) w_X6_lies_f12 ?_
      refine x_aload_n dX6_lies_32 rfl rfl ?_
      refine x_iconst (-1 : Int32) dX6_lies_33 (by decide) ?_
      refine x_b (fun r2_ S2 e2 => ?_)
      refine x_callVv (As := [.ref (1), .ref (a1_), .int (-1 : Int32)]) dX6_lies_34 (aMet_of e2 (m_X1_run hF.2.2.2.1 (1) hF.2.1 (a1_) h1_ (-1 : Int32) S1)) g_X6_lies_149 rfl hF.2.2.2.1 rfl dd_X1_run rfl rfl (Nat.le_of_ble_eq_true rfl) (Nat.le_of_ble_eq_true rfl) (Nat.le_of_ble_eq_true rfl) ?_
      refine x_aload_n dX6_lies_37 rfl rfl ?_
      refine x_getR (r := 29) (k := 0) (j := 2) dX6_lies_38 hF.1 rfl rfl (Nat.le_of_ble_eq_true rfl) (fun w h => List.mem_cons_of_mem _ (inlX6 w h)) w_X6_lies_f28 ?_
      refine x_getJ (k := 29) (j := 7) dX6_lies_41 hF.2.2.2.1 rfl rfl (Nat.le_of_ble_eq_true rfl) (fun w h => List.mem_cons_of_mem _ (inlX1 w h)) w_X6_lies_f171 ?_
      exact x_lret dX6_lies_44 rfl
    · refine x_ldc2 (v := (-9223372036854775808 : Int64)) dX6_lies_20 w_X6_lies_k177 ?_
      exact x_lret dX6_lies_23 rfl
theorem w_X6_fell_f12 : Cond.fieldLink yX6_fell.cls 12 (TX6 0).1 (TX6 0).2.1 (TX6 0).2.2.1 ∈ uX6_fell := List.mem_cons_of_mem _ (wU_r1 _ (List.mem_of_getElem? (i := 16) rfl))
theorem g_X6_fell_116 : GoodIn uX6_fell (wsV yX6_fell.cls 116 RX2 yX2_find uX2_find) := gU_V (wU_r18 _ (List.mem_of_getElem? (i := 17) rfl)) (wU_r18 _ (List.mem_of_getElem? (i := 18) rfl)) (wU_r18 _ (List.mem_of_getElem? (i := 19) rfl)) (wU_r1 _ (List.mem_of_getElem? (i := 15) rfl)) (wU_r18 _ (List.mem_of_getElem? (i := 20) rfl))
theorem w_X6_fell_f141 : Cond.fieldLink yX6_fell.cls 141 (TX4 8).1 (TX4 8).2.1 (TX4 8).2.2.1 ∈ uX6_fell := List.mem_cons_of_mem _ (wU_r19 _ (List.mem_of_getElem? (i := 16) rfl))
theorem w_X6_fell_f28 : Cond.fieldLink yX6_fell.cls 28 (TX6 2).1 (TX6 2).2.1 (TX6 2).2.2.1 ∈ uX6_fell := List.mem_cons_of_mem _ (wU_r2 _ (List.mem_of_getElem? (i := 0) rfl))
theorem w_X6_fell_f79 : Cond.fieldLink yX6_fell.cls 79 (TX2 8).1 (TX2 8).2.1 (TX2 8).2.2.1 ∈ uX6_fell := List.mem_cons_of_mem _ (wU_r6 _ (List.mem_of_getElem? (i := 13) rfl))
theorem g_X6_fell_179 : GoodIn uX6_fell (wsV yX6_fell.cls 179 RX1 yX1_decide uX1_decide) := gU_V (wU_r27 _ (List.mem_of_getElem? (i := 20) rfl)) (wU_r21 _ (List.mem_of_getElem? (i := 0) rfl)) (wU_r21 _ (List.mem_of_getElem? (i := 1) rfl)) (wU_r1 _ (List.mem_of_getElem? (i := 23) rfl)) (wU_r21 _ (List.mem_of_getElem? (i := 2) rfl))
theorem w_X6_fell_f165 : Cond.fieldLink yX6_fell.cls 165 (TX1 4).1 (TX1 4).2.1 (TX1 4).2.2.1 ∈ uX6_fell := List.mem_cons_of_mem _ (wU_r20 _ (List.mem_of_getElem? (i := 14) rfl))
def f_X6_fell_57   (S : aSt) : Option (Int32 × aSt) := (some ((S.1 (29) 4), S))
set_option maxRecDepth 20000 in
set_option maxHeartbeats 4000000 in
theorem v_X6_fell_57 {G : aG} {K : Option Nat} (hF : aFt G K)  (S : aSt) : aX G yX6_fell cX6_fell 3 (some .int) uX6_fell 7 mk_i (f_X6_fell_57 S) 57 [some (.ref (0)), none, none] [] S := by
  unfold f_X6_fell_57
  refine x_aload_n dX6_fell_57 rfl rfl ?_
  refine x_getR (r := 29) (k := 0) (j := 2) dX6_fell_58 hF.1 rfl rfl (Nat.le_of_ble_eq_true rfl) (fun w h => List.mem_cons_of_mem _ (inlX6 w h)) w_X6_fell_f28 ?_
  refine x_getI (k := 29) (j := 4) dX6_fell_61 hF.2.2.2.1 rfl rfl (Nat.le_of_ble_eq_true rfl) (fun w h => List.mem_cons_of_mem _ (inlX1 w h)) w_X6_fell_f165 ?_
  exact x_iret dX6_fell_64 rfl
def f_X6_fell (p1 : Int32) (S : aSt) : Option (Int32 × aSt) := (aB (f_X2_find (1) p1 S) (fun r1_ S1 => aO r1_ (some ((-1 : Int32), S1)) (fun a1_ => (if (S1.1 (a1_) 8) = 0 then (some ((-3 : Int32), S1)) else (aB (f_X1_decide (1 + 3) (a1_) (-1 : Int32) S1) (fun r2_ S2 => (if (S2.1 (29) 4) = (2 : Int32) then (f_X6_fell_57 S2) else (aLt (aUi S2 (a1_) 8 (0 : Int32)) (fun S3 => (f_X6_fell_57 S3))))))))))
set_option maxRecDepth 20000 in
set_option maxHeartbeats 4000000 in
theorem m_X6_fell {G : aG} {K : Option Nat} (hF : aFt G K) (p1 : Int32) (S : aSt) : aMet G yX6_fell uX6_fell 7 mk_i (f_X6_fell p1 S) [.ref (0), .int p1] S := by
  refine x_met (cc := cX6_fell) (nL := 3) (ret := (some .int)) (L := [some (.ref (0)), some (.int p1), none]) (by decide +kernel) rfl (And.intro rfl (And.intro rfl trivial)) (Nat.le_of_ble_eq_true rfl) ?_
  unfold f_X6_fell
  refine x_aload_n dX6_fell_0 rfl rfl ?_
  refine x_getR (r := 1) (k := 0) (j := 0) dX6_fell_1 hF.1 rfl rfl (Nat.le_of_ble_eq_true rfl) (fun w h => List.mem_cons_of_mem _ (inlX6 w h)) w_X6_fell_f12 ?_
  refine x_iload_n dX6_fell_4 rfl rfl ?_
  refine x_b (fun r1_ S1 e1 => ?_)
  cases r1_ with
  | none =>
    refine x_oN ?_
    refine x_callVn (As := [.int p1]) dX6_fell_5 (aMet_of e1 (m_X2_find (1) hF.2.1 p1 S)) g_X6_fell_116 rfl hF.2.1.1 rfl dd_X2_find rfl rfl (Nat.le_of_ble_eq_true rfl) (Nat.le_of_ble_eq_true rfl) (Nat.le_of_ble_eq_true rfl) ?_
    refine x_astore_nN dX6_fell_8 rfl (Nat.le_of_ble_eq_true rfl) rfl ?_
    refine x_aload_nN dX6_fell_9 rfl rfl ?_
    refine x_ifnonnullN dX6_fell_10 ?_
    refine x_iconst (-1 : Int32) dX6_fell_13 (by decide) ?_
    exact x_iret dX6_fell_14 rfl
  | some a1_ =>
    have h1_ := find_tr hF.2.1 e1
    refine x_oS ?_
    refine x_callVr (As := [.int p1]) dX6_fell_5 (aMet_of e1 (m_X2_find (1) hF.2.1 p1 S)) g_X6_fell_116 rfl hF.2.1.1 rfl dd_X2_find rfl rfl (Nat.le_of_ble_eq_true rfl) (Nat.le_of_ble_eq_true rfl) (Nat.le_of_ble_eq_true rfl) ?_
    refine x_astore_n dX6_fell_8 rfl (Nat.le_of_ble_eq_true rfl) rfl ?_
    refine x_aload_n dX6_fell_9 rfl rfl ?_
    refine x_ifnonnull (tgt := 15) dX6_fell_10 (by decide) ?_
    refine x_aload_n dX6_fell_15 rfl rfl ?_
    refine x_getI (k := a1_) (j := 8) dX6_fell_16 h1_.1 rfl rfl (Nat.le_of_ble_eq_true rfl) (fun w h => List.mem_cons_of_mem _ (inlX4 w h)) w_X6_fell_f141 ?_
    refine x_if_ne (tgt := 25) dX6_fell_19 (by decide) ?_ ?_
    · refine x_aload_n dX6_fell_25 rfl rfl ?_
      refine x_getR (r := 29) (k := 0) (j := 2) dX6_fell_26 hF.1 rfl rfl (Nat.le_of_ble_eq_true rfl) (fun w h => List.mem_cons_of_mem _ (inlX6 w h)) w_X6_fell_f28 ?_
      refine x_aload_n dX6_fell_29 rfl rfl ?_
      refine x_getR (r := 1) (k := 0) (j := 0) dX6_fell_30 hF.1 rfl rfl (Nat.le_of_ble_eq_true rfl) (fun w h => List.mem_cons_of_mem _ (inlX6 w h)) w_X6_fell_f12 ?_
      refine x_getR (r := 1 + 3) (k := 1) (j := 8) dX6_fell_33 hF.2.1.1 rfl rfl (Nat.le_of_ble_eq_true rfl) (fun w h => List.mem_cons_of_mem _ (inlX2 w h)) w_X6_fell_f79 ?_
      refine x_aload_n dX6_fell_36 rfl rfl ?_
      refine x_iconst (-1 : Int32) dX6_fell_37 (by decide) ?_
      refine x_b (fun r2_ S2 e2 => ?_)
      refine x_callVv (As := [.ref (1 + 3), .ref (a1_), .int (-1 : Int32)]) dX6_fell_38 (aMet_of e2 (m_X1_decide hF.2.2.2.1 (1 + 3) hF.2.1.2.2.2.1 (a1_) h1_ (-1 : Int32) S1)) g_X6_fell_179 rfl hF.2.2.2.1 rfl dd_X1_decide rfl rfl (Nat.le_of_ble_eq_true rfl) (Nat.le_of_ble_eq_true rfl) (Nat.le_of_ble_eq_true rfl) ?_
      refine x_aload_n dX6_fell_41 rfl rfl ?_
      refine x_getR (r := 29) (k := 0) (j := 2) dX6_fell_42 hF.1 rfl rfl (Nat.le_of_ble_eq_true rfl) (fun w h => List.mem_cons_of_mem _ (inlX6 w h)) w_X6_fell_f28 ?_
      refine x_getI (k := 29) (j := 4) dX6_fell_45 hF.2.2.2.1 rfl rfl (Nat.le_of_ble_eq_true rfl) (fun w h => List.mem_cons_of_mem _ (inlX1 w h)) w_X6_fell_f165 ?_
      refine x_iconst (2 : Int32) dX6_fell_48 (by decide) ?_
      refine x_icmp_eq (tgt := 57) dX6_fell_49 (by decide) ?_ ?_
      · exact x_le (v_X6_fell_57 hF S2) (And.intro rfl trivial)
      · refine x_aload_n dX6_fell_52 rfl rfl ?_
        refine x_iconst (0 : Int32) dX6_fell_53 (by decide) ?_
        refine x_putZc (k := a1_) (j := 8) dX6_fell_54 h1_.1 rfl rfl (Nat.le_of_ble_eq_true rfl) (fun w h => List.mem_cons_of_mem _ (inlX4 w h)) w_X6_fell_f141 tyX4 tyX4_ok nmX4 rfl (by decide +kernel) (by decide) ?_
        refine x_ltS (fun S3 => ?_)
        exact x_le (v_X6_fell_57 hF S3) (And.intro rfl trivial)
    · refine x_bipush (-3 : Int32) dX6_fell_22 (by decide) ?_
      exact x_iret dX6_fell_24 rfl
theorem g_X6_gusts_57 : GoodIn uX6_gusts (va_wsS yX6_gusts.cls 57 yX6_outside uX6_outside) := gU_S (wU_r5 _ (List.mem_of_getElem? (i := 21) rfl)) (wU_r5 _ (List.mem_of_getElem? (i := 22) rfl)) (wU_r1 _ (List.mem_of_getElem? (i := 2) rfl)) (wU_r5 _ (List.mem_of_getElem? (i := 23) rfl))
theorem w_X6_gusts_f12 : Cond.fieldLink yX6_gusts.cls 12 (TX6 0).1 (TX6 0).2.1 (TX6 0).2.2.1 ∈ uX6_gusts := List.mem_cons_of_mem _ (wU_r1 _ (List.mem_of_getElem? (i := 16) rfl))
theorem w_X6_gusts_f98 : Cond.fieldLink yX6_gusts.cls 98 (TX2 1).1 (TX2 1).2.1 (TX2 1).2.2.1 ∈ uX6_gusts := List.mem_cons_of_mem _ (wU_r16 _ (List.mem_of_getElem? (i := 20) rfl))
def f_X6_gusts (p1 : Int32) (S : aSt) : Option (Int32 × aSt) := (aB (f_X6_outside p1 (10 : Int32) S) (fun r1_ S1 => (if r1_ = 0 then (aLt (S1.1 (1) 1) (fun x2 => (aLt (aUi S1 (1) 1 p1) (fun S3 => (some (x2, S3)))))) else (some ((-2 : Int32), S1)))))
set_option maxRecDepth 20000 in
set_option maxHeartbeats 4000000 in
theorem m_X6_gusts {G : aG} {K : Option Nat} (hF : aFt G K) (p1 : Int32) (S : aSt) : aMet G yX6_gusts uX6_gusts 3 mk_i (f_X6_gusts p1 S) [.ref (0), .int p1] S := by
  refine x_met (cc := cX6_gusts) (nL := 3) (ret := (some .int)) (L := [some (.ref (0)), some (.int p1), none]) (by decide +kernel) rfl (And.intro rfl (And.intro rfl trivial)) (Nat.le_of_ble_eq_true rfl) ?_
  unfold f_X6_gusts
  refine x_iload_n dX6_gusts_0 rfl rfl ?_
  refine x_bipush (10 : Int32) dX6_gusts_1 (by decide) ?_
  refine x_b (fun r1_ S1 e1 => ?_)
  refine x_callSi (As := [.int p1, .int (10 : Int32)]) dX6_gusts_3 (aMet_of e1 (m_X6_outside p1 (10 : Int32) S)) g_X6_gusts_57 rfl dd_X6_outside rfl rfl (Nat.le_of_ble_eq_true rfl) (Nat.le_of_ble_eq_true rfl) (Nat.le_of_ble_eq_true rfl) ?_
  refine x_if_eq (tgt := 12) dX6_gusts_6 (by decide) ?_ ?_
  · refine x_aload_n dX6_gusts_12 rfl rfl ?_
    refine x_getR (r := 1) (k := 0) (j := 0) dX6_gusts_13 hF.1 rfl rfl (Nat.le_of_ble_eq_true rfl) (fun w h => List.mem_cons_of_mem _ (inlX6 w h)) w_X6_gusts_f12 ?_
    refine x_getI (k := 1) (j := 1) dX6_gusts_16 hF.2.1.1 rfl rfl (Nat.le_of_ble_eq_true rfl) (fun w h => List.mem_cons_of_mem _ (inlX2 w h)) w_X6_gusts_f98 ?_
    refine x_lti (fun x2 => ?_)
    refine x_istore_n dX6_gusts_19 rfl (Nat.le_of_ble_eq_true rfl) rfl ?_
    refine x_aload_n dX6_gusts_20 rfl rfl ?_
    refine x_getR (r := 1) (k := 0) (j := 0) dX6_gusts_21 hF.1 rfl rfl (Nat.le_of_ble_eq_true rfl) (fun w h => List.mem_cons_of_mem _ (inlX6 w h)) w_X6_gusts_f12 ?_
    refine x_iload_n dX6_gusts_24 rfl rfl ?_
    refine x_putI (k := 1) (j := 1) dX6_gusts_25 hF.2.1.1 rfl rfl (Nat.le_of_ble_eq_true rfl) (fun w h => List.mem_cons_of_mem _ (inlX2 w h)) w_X6_gusts_f98 tyX2 tyX2_ok nmX2 rfl (by decide +kernel) ?_
    refine x_ltS (fun S3 => ?_)
    refine x_iload_n dX6_gusts_28 rfl rfl ?_
    exact x_iret dX6_gusts_29 rfl
  · refine x_bipush (-2 : Int32) dX6_gusts_9 (by decide) ?_
    exact x_iret dX6_gusts_11 rfl
theorem g_X6_book_57 : GoodIn uX6_book (va_wsS yX6_book.cls 57 yX6_outside uX6_outside) := gU_S (wU_r5 _ (List.mem_of_getElem? (i := 21) rfl)) (wU_r5 _ (List.mem_of_getElem? (i := 22) rfl)) (wU_r1 _ (List.mem_of_getElem? (i := 2) rfl)) (wU_r5 _ (List.mem_of_getElem? (i := 23) rfl))
theorem w_X6_book_f12 : Cond.fieldLink yX6_book.cls 12 (TX6 0).1 (TX6 0).2.1 (TX6 0).2.2.1 ∈ uX6_book := List.mem_cons_of_mem _ (wU_r1 _ (List.mem_of_getElem? (i := 16) rfl))
theorem w_X6_book_f237 : Cond.fieldLink yX6_book.cls 237 (TX2 5).1 (TX2 5).2.1 (TX2 5).2.2.1 ∈ uX6_book := List.mem_cons_of_mem _ (wU_r34 _ (List.mem_of_getElem? (i := 23) rfl))
theorem w_X6_book_f240 : Cond.fieldLink yX6_book.cls 240 (TX2 7).1 (TX2 7).2.1 (TX2 7).2.2.1 ∈ uX6_book := List.mem_cons_of_mem _ (wU_r35 _ (List.mem_of_getElem? (i := 0) rfl))
def f_X6_book (p1 : Int32) (S : aSt) : Option (Int32 × aSt) := (if p1 = (-1 : Int32) then (aLt (aUi S (1) 5 (0 : Int32)) (fun S4 => (some ((0 : Int32), S4)))) else (aB (f_X6_outside p1 (7 : Int32) S) (fun r1_ S1 => (if r1_ = 0 then (if (S1.1 (1) 5) < (6 : Int32) then (if (S1.1 (1) 5) < 0 ∨ 6 ≤ ((S1.1 (1) 5)).toNatClampNeg then none else (aLt (aUi S1 (1 + 2) ((S1.1 (1) 5)).toNatClampNeg p1) (fun S2 => (aLt (aUi S2 (1) 5 ((S2.1 (1) 5) + (1 : Int32))) (fun S3 => (some ((S3.1 (1) 5), S3))))))) else (some ((-4 : Int32), S1))) else (some ((-1 : Int32), S1))))))
set_option maxRecDepth 20000 in
set_option maxHeartbeats 4000000 in
theorem m_X6_book {G : aG} {K : Option Nat} (hF : aFt G K) (p1 : Int32) (S : aSt) : aMet G yX6_book uX6_book 3 mk_i (f_X6_book p1 S) [.ref (0), .int p1] S := by
  refine x_met (cc := cX6_book) (nL := 2) (ret := (some .int)) (L := [some (.ref (0)), some (.int p1)]) (by decide +kernel) rfl (And.intro rfl (And.intro rfl trivial)) (Nat.le_of_ble_eq_true rfl) ?_
  unfold f_X6_book
  refine x_iload_n dX6_book_0 rfl rfl ?_
  refine x_iconst (-1 : Int32) dX6_book_1 (by decide) ?_
  refine x_icmp_ne (tgt := 15) dX6_book_2 (by decide) ?_ ?_
  · refine x_iload_n dX6_book_15 rfl rfl ?_
    refine x_bipush (7 : Int32) dX6_book_16 (by decide) ?_
    refine x_b (fun r1_ S1 e1 => ?_)
    refine x_callSi (As := [.int p1, .int (7 : Int32)]) dX6_book_18 (aMet_of e1 (m_X6_outside p1 (7 : Int32) S)) g_X6_book_57 rfl dd_X6_outside rfl rfl (Nat.le_of_ble_eq_true rfl) (Nat.le_of_ble_eq_true rfl) (Nat.le_of_ble_eq_true rfl) ?_
    refine x_if_eq (tgt := 26) dX6_book_21 (by decide) ?_ ?_
    · refine x_aload_n dX6_book_26 rfl rfl ?_
      refine x_getR (r := 1) (k := 0) (j := 0) dX6_book_27 hF.1 rfl rfl (Nat.le_of_ble_eq_true rfl) (fun w h => List.mem_cons_of_mem _ (inlX6 w h)) w_X6_book_f12 ?_
      refine x_getI (k := 1) (j := 5) dX6_book_30 hF.2.1.1 rfl rfl (Nat.le_of_ble_eq_true rfl) (fun w h => List.mem_cons_of_mem _ (inlX2 w h)) w_X6_book_f237 ?_
      refine x_bipush (6 : Int32) dX6_book_33 (by decide) ?_
      refine x_icmp_lt (tgt := 41) dX6_book_35 (by decide) ?_ ?_
      · refine x_aload_n dX6_book_41 rfl rfl ?_
        refine x_getR (r := 1) (k := 0) (j := 0) dX6_book_42 hF.1 rfl rfl (Nat.le_of_ble_eq_true rfl) (fun w h => List.mem_cons_of_mem _ (inlX6 w h)) w_X6_book_f12 ?_
        refine x_getR (r := 1 + 2) (k := 1) (j := 7) dX6_book_45 hF.2.1.1 rfl rfl (Nat.le_of_ble_eq_true rfl) (fun w h => List.mem_cons_of_mem _ (inlX2 w h)) w_X6_book_f240 ?_
        refine x_aload_n dX6_book_48 rfl rfl ?_
        refine x_getR (r := 1) (k := 0) (j := 0) dX6_book_49 hF.1 rfl rfl (Nat.le_of_ble_eq_true rfl) (fun w h => List.mem_cons_of_mem _ (inlX6 w h)) w_X6_book_f12 ?_
        refine x_getI (k := 1) (j := 5) dX6_book_52 hF.2.1.1 rfl rfl (Nat.le_of_ble_eq_true rfl) (fun w h => List.mem_cons_of_mem _ (inlX2 w h)) w_X6_book_f237 ?_
        refine x_iload_n dX6_book_55 rfl rfl ?_
        refine x_iast dX6_book_56 hF.2.1.2.2.1 ?_
        refine x_ltS (fun S2 => ?_)
        refine x_aload_n dX6_book_57 rfl rfl ?_
        refine x_getR (r := 1) (k := 0) (j := 0) dX6_book_58 hF.1 rfl rfl (Nat.le_of_ble_eq_true rfl) (fun w h => List.mem_cons_of_mem _ (inlX6 w h)) w_X6_book_f12 ?_
        refine x_dup dX6_book_61 rfl ?_
        refine x_getI (k := 1) (j := 5) dX6_book_62 hF.2.1.1 rfl rfl (Nat.le_of_ble_eq_true rfl) (fun w h => List.mem_cons_of_mem _ (inlX2 w h)) w_X6_book_f237 ?_
        refine x_iconst (1 : Int32) dX6_book_65 (by decide) ?_
        refine x_iadd dX6_book_66 ?_
        refine x_putI (k := 1) (j := 5) dX6_book_67 hF.2.1.1 rfl rfl (Nat.le_of_ble_eq_true rfl) (fun w h => List.mem_cons_of_mem _ (inlX2 w h)) w_X6_book_f237 tyX2 tyX2_ok nmX2 rfl (by decide +kernel) ?_
        refine x_ltS (fun S3 => ?_)
        refine x_aload_n dX6_book_70 rfl rfl ?_
        refine x_getR (r := 1) (k := 0) (j := 0) dX6_book_71 hF.1 rfl rfl (Nat.le_of_ble_eq_true rfl) (fun w h => List.mem_cons_of_mem _ (inlX6 w h)) w_X6_book_f12 ?_
        refine x_getI (k := 1) (j := 5) dX6_book_74 hF.2.1.1 rfl rfl (Nat.le_of_ble_eq_true rfl) (fun w h => List.mem_cons_of_mem _ (inlX2 w h)) w_X6_book_f237 ?_
        exact x_iret dX6_book_77 rfl
      · refine x_bipush (-4 : Int32) dX6_book_38 (by decide) ?_
        exact x_iret dX6_book_40 rfl
    · refine x_iconst (-1 : Int32) dX6_book_24 (by decide) ?_
      exact x_iret dX6_book_25 rfl
  · refine x_aload_n dX6_book_5 rfl rfl ?_
    refine x_getR (r := 1) (k := 0) (j := 0) dX6_book_6 hF.1 rfl rfl (Nat.le_of_ble_eq_true rfl) (fun w h => List.mem_cons_of_mem _ (inlX6 w h)) w_X6_book_f12 ?_
    refine x_iconst (0 : Int32) dX6_book_9 (by decide) ?_
    refine x_putI (k := 1) (j := 5) dX6_book_10 hF.2.1.1 rfl rfl (Nat.le_of_ble_eq_true rfl) (fun w h => List.mem_cons_of_mem _ (inlX2 w h)) w_X6_book_f237 tyX2 tyX2_ok nmX2 rfl (by decide +kernel) ?_
    refine x_ltS (fun S4 => ?_)
    refine x_iconst (0 : Int32) dX6_book_13 (by decide) ?_
    exact x_iret dX6_book_14 rfl
theorem w_X6_trace_f35 : Cond.fieldLink yX6_trace.cls 35 (TX6 3).1 (TX6 3).2.1 (TX6 3).2.2.1 ∈ uX6_trace := List.mem_cons_of_mem _ (wU_r2 _ (List.mem_of_getElem? (i := 4) rfl))
theorem w_X6_trace_f248 : Cond.fieldLink yX6_trace.cls 248 (TX0 1).1 (TX0 1).2.1 (TX0 1).2.2.1 ∈ uX6_trace := List.mem_cons_of_mem _ (wU_r35 _ (List.mem_of_getElem? (i := 17) rfl))
theorem w_X6_trace_m243 : Cond.methodLink yX6_trace.cls 243 Lib.Math.min.name ∈ uX6_trace := List.mem_cons_of_mem _ (wU_r23 _ (List.mem_of_getElem? (i := 1) rfl))
theorem w_X6_trace_ms_min : Cond.static Lib.Math.min.name ∈ uX6_trace := List.mem_cons_of_mem _ (wU_r11 _ (List.mem_of_getElem? (i := 2) rfl))
theorem w_X6_trace_mi : Cond.initialized "java/lang/Math" ∈ uX6_trace := List.mem_cons_of_mem _ (wU_r10 _ (List.mem_of_getElem? (i := 23) rfl))
theorem w_X6_trace_mc_min : Cond.code Lib.Math.min.name Lib.Math.min.code 2 (some .int) ∈ uX6_trace := List.mem_cons_of_mem _ (wU_r11 _ (List.mem_of_getElem? (i := 3) rfl))
theorem g_X6_trace_57 : GoodIn uX6_trace (va_wsS yX6_trace.cls 57 yX6_outside uX6_outside) := gU_S (wU_r5 _ (List.mem_of_getElem? (i := 21) rfl)) (wU_r5 _ (List.mem_of_getElem? (i := 22) rfl)) (wU_r1 _ (List.mem_of_getElem? (i := 2) rfl)) (wU_r5 _ (List.mem_of_getElem? (i := 23) rfl))
theorem w_X6_trace_f254 : Cond.fieldLink yX6_trace.cls 254 (TX0 0).1 (TX0 0).2.1 (TX0 0).2.2.1 ∈ uX6_trace := List.mem_cons_of_mem _ (wU_r38 _ (List.mem_of_getElem? (i := 13) rfl))
def f_X6_trace (p1 : Int32) (S : aSt) : Option (Int32 × aSt) := (aB (f_X6_outside p1 ((if (20 : Int32) < (S.1 (30) 1) then (20 : Int32) else (S.1 (30) 1)) - (1 : Int32)) S) (fun r1_ S1 => (if r1_ = 0 then (if p1 < 0 ∨ 20 ≤ (p1).toNatClampNeg then none else (some ((S1.1 (31) (p1).toNatClampNeg), S1))) else (some ((-1 : Int32), S1)))))
set_option maxRecDepth 20000 in
set_option maxHeartbeats 4000000 in
theorem m_X6_trace {G : aG} {K : Option Nat} (hF : aFt G K) (p1 : Int32) (S : aSt) : aMet G yX6_trace uX6_trace 3 mk_i (f_X6_trace p1 S) [.ref (0), .int p1] S := by
  refine x_met (cc := cX6_trace) (nL := 2) (ret := (some .int)) (L := [some (.ref (0)), some (.int p1)]) (by decide +kernel) rfl (And.intro rfl (And.intro rfl trivial)) (Nat.le_of_ble_eq_true rfl) ?_
  unfold f_X6_trace
  refine x_iload_n dX6_trace_0 rfl rfl ?_
  refine x_aload_n dX6_trace_1 rfl rfl ?_
  refine x_getR (r := 30) (k := 0) (j := 3) dX6_trace_2 hF.1 rfl rfl (Nat.le_of_ble_eq_true rfl) (fun w h => List.mem_cons_of_mem _ (inlX6 w h)) w_X6_trace_f35 ?_
  refine x_getI (k := 30) (j := 1) dX6_trace_5 hF.2.2.2.2.1.1 rfl rfl (Nat.le_of_ble_eq_true rfl) (fun w h => List.mem_cons_of_mem _ (inlX0 w h)) w_X6_trace_f248 ?_
  refine x_bipush (20 : Int32) dX6_trace_8 (by decide) ?_
  refine x_min dX6_trace_10 w_X6_trace_m243 w_X6_trace_ms_min w_X6_trace_mi w_X6_trace_mc_min (Nat.le_of_ble_eq_true rfl) (Nat.le_of_ble_eq_true rfl) ?_
  refine x_iconst (1 : Int32) dX6_trace_13 (by decide) ?_
  refine x_isub dX6_trace_14 ?_
  refine x_b (fun r1_ S1 e1 => ?_)
  refine x_callSi (As := [.int p1, .int ((if (20 : Int32) < (S.1 (30) 1) then (20 : Int32) else (S.1 (30) 1)) - (1 : Int32))]) dX6_trace_15 (aMet_of e1 (m_X6_outside p1 ((if (20 : Int32) < (S.1 (30) 1) then (20 : Int32) else (S.1 (30) 1)) - (1 : Int32)) S)) g_X6_trace_57 rfl dd_X6_outside rfl rfl (Nat.le_of_ble_eq_true rfl) (Nat.le_of_ble_eq_true rfl) (Nat.le_of_ble_eq_true rfl) ?_
  refine x_if_eq (tgt := 25) dX6_trace_18 (by decide) ?_ ?_
  · refine x_aload_n dX6_trace_25 rfl rfl ?_
    refine x_getR (r := 30) (k := 0) (j := 3) dX6_trace_26 hF.1 rfl rfl (Nat.le_of_ble_eq_true rfl) (fun w h => List.mem_cons_of_mem _ (inlX6 w h)) w_X6_trace_f35 ?_
    refine x_getR (r := 31) (k := 30) (j := 0) dX6_trace_29 hF.2.2.2.2.1.1 rfl rfl (Nat.le_of_ble_eq_true rfl) (fun w h => List.mem_cons_of_mem _ (inlX0 w h)) w_X6_trace_f254 ?_
    refine x_iload_n dX6_trace_32 rfl rfl ?_
    refine x_iald dX6_trace_33 hF.2.2.2.2.1.2 ?_
    exact x_iret dX6_trace_34 rfl
  · refine x_iconst (-1 : Int32) dX6_trace_21 (by decide) ?_
    refine x_goto (tgt := 34) dX6_trace_22 (by decide) ?_
    exact x_iret dX6_trace_34 rfl
theorem dd_X6_kindAbove : yX6_kindAbove.cls ≠ "java/lang/invoke/MethodHandle" ∧ yX6_kindAbove.cls ≠ "java/lang/invoke/VarHandle" ∧ (parseMethodDescriptor yX6_kindAbove.desc).map (fun d => d.parameters.length) = some 1 := by decide +kernel
theorem w_X6_as_f12 : Cond.fieldLink yX6_as.cls 12 (TX6 0).1 (TX6 0).2.1 (TX6 0).2.2.1 ∈ uX6_as := List.mem_cons_of_mem _ (wU_r1 _ (List.mem_of_getElem? (i := 16) rfl))
theorem g_X6_as_116 : GoodIn uX6_as (wsV yX6_as.cls 116 RX2 yX2_find uX2_find) := gU_V (wU_r18 _ (List.mem_of_getElem? (i := 17) rfl)) (wU_r18 _ (List.mem_of_getElem? (i := 18) rfl)) (wU_r18 _ (List.mem_of_getElem? (i := 19) rfl)) (wU_r1 _ (List.mem_of_getElem? (i := 15) rfl)) (wU_r18 _ (List.mem_of_getElem? (i := 20) rfl))
theorem g_X6_as_57 : GoodIn uX6_as (va_wsS yX6_as.cls 57 yX6_outside uX6_outside) := gU_S (wU_r5 _ (List.mem_of_getElem? (i := 21) rfl)) (wU_r5 _ (List.mem_of_getElem? (i := 22) rfl)) (wU_r1 _ (List.mem_of_getElem? (i := 2) rfl)) (wU_r5 _ (List.mem_of_getElem? (i := 23) rfl))
theorem w_X6_as_f129 : Cond.fieldLink yX6_as.cls 129 (TX4 1).1 (TX4 1).2.1 (TX4 1).2.2.1 ∈ uX6_as := List.mem_cons_of_mem _ (wU_r19 _ (List.mem_of_getElem? (i := 12) rfl))
theorem g_X6_as_257 : GoodIn uX6_as (va_wsS yX6_as.cls 257 yX6_kindAbove uX6_kindAbove) := gU_S (wU_r38 _ (List.mem_of_getElem? (i := 22) rfl)) (wU_r38 _ (List.mem_of_getElem? (i := 23) rfl)) (wU_r1 _ (List.mem_of_getElem? (i := 2) rfl)) (wU_r39 _ (List.mem_of_getElem? (i := 0) rfl))
theorem w_X6_as_f132 : Cond.fieldLink yX6_as.cls 132 (TX4 2).1 (TX4 2).2.1 (TX4 2).2.2.1 ∈ uX6_as := List.mem_cons_of_mem _ (wU_r19 _ (List.mem_of_getElem? (i := 13) rfl))
def f_X6_as_33  : Nat → Int32 → Nat → Int32 → Int32 → aSt → Option (Int32 × aSt)
  | 0, _, _, _, _, _ => none
  | n + 1, l2, l3, l4, l5, S => (if (7 : Int32) ≤ l5 then (some ((-6 : Int32), S)) else (if l4 = (-1 : Int32) then (some ((-6 : Int32), S)) else (if l4 = l2 then (some ((S.1 (l3) 2), S)) else (aB (f_X6_kindAbove l4 S) (fun r4_ S4 => (aLt (l5 + (1 : Int32)) (fun x5 => (f_X6_as_33 n l2 (l3) r4_ x5 S4))))))))
set_option maxRecDepth 20000 in
set_option maxHeartbeats 4000000 in
theorem v_X6_as_33 {G : aG} {K : Option Nat} (hF : aFt G K) : ∀ (n : Nat) (l2 : Int32) (l3 : Nat) (ql3 : aTr G l3) (l4 : Int32) (l5 : Int32) (S : aSt), aX G yX6_as cX6_as 6 (some .int) uX6_as 4 mk_i (f_X6_as_33 n l2 l3 l4 l5 S) 33 [none, none, some (.int l2), some (.ref (l3)), some (.int l4), some (.int l5)] [] S := by
  intro n
  induction n with
  | zero => intro l2 l3 ql3 l4 l5 S; exact x_none
  | succ n ih =>
    intro l2 l3 ql3 l4 l5 S
    unfold f_X6_as_33
    refine x_iload dX6_as_33 rfl ?_
    refine x_bipush (7 : Int32) dX6_as_35 (by decide) ?_
    refine x_icmp_ge (tgt := 70) dX6_as_37 (by decide) ?_ ?_
    · refine x_bipush (-6 : Int32) dX6_as_70 (by decide) ?_
      exact x_iret dX6_as_72 rfl
    · refine x_iload dX6_as_40 rfl ?_
      refine x_iconst (-1 : Int32) dX6_as_42 (by decide) ?_
      refine x_icmp_eq (tgt := 70) dX6_as_43 (by decide) ?_ ?_
      · refine x_bipush (-6 : Int32) dX6_as_70 (by decide) ?_
        exact x_iret dX6_as_72 rfl
      · refine x_iload dX6_as_46 rfl ?_
        refine x_iload_n dX6_as_48 rfl rfl ?_
        refine x_icmp_ne (tgt := 57) dX6_as_49 (by decide) ?_ ?_
        · refine x_iload dX6_as_57 rfl ?_
          refine x_b (fun r4_ S4 e4 => ?_)
          refine x_callSi (As := [.int l4]) dX6_as_59 (aMet_of e4 (m_X6_kindAbove l4 S)) g_X6_as_257 rfl dd_X6_kindAbove rfl rfl (Nat.le_of_ble_eq_true rfl) (Nat.le_of_ble_eq_true rfl) (Nat.le_of_ble_eq_true rfl) ?_
          refine x_istore dX6_as_62 (Nat.le_of_ble_eq_true rfl) rfl ?_
          refine x_iincL (w := (1 : Int32)) dX6_as_64 rfl (by decide) (Nat.le_of_ble_eq_true rfl) rfl (fun x5 => ?_)
          refine x_goto (tgt := 33) dX6_as_67 (by decide) ?_
          exact x_le (ih l2 (l3) ql3 r4_ x5 S4) (And.intro rfl (And.intro rfl (And.intro rfl (And.intro rfl trivial))))
        · refine x_aload_n dX6_as_52 rfl rfl ?_
          refine x_getI (k := l3) (j := 2) dX6_as_53 ql3.1 rfl rfl (Nat.le_of_ble_eq_true rfl) (fun w h => List.mem_cons_of_mem _ (inlX4 w h)) w_X6_as_f132 ?_
          exact x_iret dX6_as_56 rfl
def f_X6_as (p1 : Int32) (p2 : Int32) (S : aSt) : Option (Int32 × aSt) := (aB (f_X2_find (1) p1 S) (fun r1_ S1 => aO r1_ (some ((-1 : Int32), S1)) (fun a1_ => (aB (f_X6_outside p2 (6 : Int32) S1) (fun r2_ S2 => (if r2_ = 0 then (aLt (S2.1 (a1_) 1) (fun x3 => (f_X6_as_33 aF p2 (a1_) x3 (0 : Int32) S2))) else (some ((-1 : Int32), S2))))))))
set_option maxRecDepth 20000 in
set_option maxHeartbeats 4000000 in
theorem m_X6_as {G : aG} {K : Option Nat} (hF : aFt G K) (p1 : Int32) (p2 : Int32) (S : aSt) : aMet G yX6_as uX6_as 4 mk_i (f_X6_as p1 p2 S) [.ref (0), .int p1, .int p2] S := by
  refine x_met (cc := cX6_as) (nL := 6) (ret := (some .int)) (L := [some (.ref (0)), some (.int p1), some (.int p2), none, none, none]) (by decide +kernel) rfl (And.intro rfl (And.intro rfl (And.intro rfl trivial))) (Nat.le_of_ble_eq_true rfl) ?_
  unfold f_X6_as
  refine x_aload_n dX6_as_0 rfl rfl ?_
  refine x_getR (r := 1) (k := 0) (j := 0) dX6_as_1 hF.1 rfl rfl (Nat.le_of_ble_eq_true rfl) (fun w h => List.mem_cons_of_mem _ (inlX6 w h)) w_X6_as_f12 ?_
  refine x_iload_n dX6_as_4 rfl rfl ?_
  refine x_b (fun r1_ S1 e1 => ?_)
  cases r1_ with
  | none =>
    refine x_oN ?_
    refine x_callVn (As := [.int p1]) dX6_as_5 (aMet_of e1 (m_X2_find (1) hF.2.1 p1 S)) g_X6_as_116 rfl hF.2.1.1 rfl dd_X2_find rfl rfl (Nat.le_of_ble_eq_true rfl) (Nat.le_of_ble_eq_true rfl) (Nat.le_of_ble_eq_true rfl) ?_
    refine x_astore_nN dX6_as_8 rfl (Nat.le_of_ble_eq_true rfl) rfl ?_
    refine x_aload_nN dX6_as_9 rfl rfl ?_
    refine x_ifnullN (tgt := 22) dX6_as_10 (by decide) ?_
    refine x_iconst (-1 : Int32) dX6_as_22 (by decide) ?_
    exact x_iret dX6_as_23 rfl
  | some a1_ =>
    have h1_ := find_tr hF.2.1 e1
    refine x_oS ?_
    refine x_callVr (As := [.int p1]) dX6_as_5 (aMet_of e1 (m_X2_find (1) hF.2.1 p1 S)) g_X6_as_116 rfl hF.2.1.1 rfl dd_X2_find rfl rfl (Nat.le_of_ble_eq_true rfl) (Nat.le_of_ble_eq_true rfl) (Nat.le_of_ble_eq_true rfl) ?_
    refine x_astore_n dX6_as_8 rfl (Nat.le_of_ble_eq_true rfl) rfl ?_
    refine x_aload_n dX6_as_9 rfl rfl ?_
    refine x_ifnull dX6_as_10 ?_
    refine x_iload_n dX6_as_13 rfl rfl ?_
    refine x_bipush (6 : Int32) dX6_as_14 (by decide) ?_
    refine x_b (fun r2_ S2 e2 => ?_)
    refine x_callSi (As := [.int p2, .int (6 : Int32)]) dX6_as_16 (aMet_of e2 (m_X6_outside p2 (6 : Int32) S1)) g_X6_as_57 rfl dd_X6_outside rfl rfl (Nat.le_of_ble_eq_true rfl) (Nat.le_of_ble_eq_true rfl) (Nat.le_of_ble_eq_true rfl) ?_
    refine x_if_eq (tgt := 24) dX6_as_19 (by decide) ?_ ?_
    · refine x_aload_n dX6_as_24 rfl rfl ?_
      refine x_getI (k := a1_) (j := 1) dX6_as_25 h1_.1 rfl rfl (Nat.le_of_ble_eq_true rfl) (fun w h => List.mem_cons_of_mem _ (inlX4 w h)) w_X6_as_f129 ?_
      refine x_lti (fun x3 => ?_)
      refine x_istore dX6_as_28 (Nat.le_of_ble_eq_true rfl) rfl ?_
      refine x_iconst (0 : Int32) dX6_as_30 (by decide) ?_
      refine x_istore dX6_as_31 (Nat.le_of_ble_eq_true rfl) rfl ?_
      exact x_le (v_X6_as_33 hF aF p2 (a1_) h1_ x3 (0 : Int32) S2) (And.intro rfl (And.intro rfl (And.intro rfl (And.intro rfl trivial))))
    · refine x_iconst (-1 : Int32) dX6_as_22 (by decide) ?_
      exact x_iret dX6_as_23 rfl
theorem dd_J6_bitCount_0f7a4 : yJ6_bitCount_0f7a4.cls ≠ "java/lang/invoke/MethodHandle" ∧ yJ6_bitCount_0f7a4.cls ≠ "java/lang/invoke/VarHandle" ∧ (parseMethodDescriptor yJ6_bitCount_0f7a4.desc).map (fun d => d.parameters.length) = some 1 := by decide +kernel
theorem w_X6_count_f12 : Cond.fieldLink yX6_count.cls 12 (TX6 0).1 (TX6 0).2.1 (TX6 0).2.2.1 ∈ uX6_count := List.mem_cons_of_mem _ (wU_r1 _ (List.mem_of_getElem? (i := 16) rfl))
theorem g_X6_count_224 : GoodIn uX6_count (wsV yX6_count.cls 224 RX2 yX2_standingTrees uX2_standingTrees) := gU_V (wU_r32 _ (List.mem_of_getElem? (i := 10) rfl)) (wU_r23 _ (List.mem_of_getElem? (i := 23) rfl)) (wU_r24 _ (List.mem_of_getElem? (i := 0) rfl)) (wU_r1 _ (List.mem_of_getElem? (i := 15) rfl)) (wU_r24 _ (List.mem_of_getElem? (i := 1) rfl))
theorem g_X6_count_227 : GoodIn uX6_count (va_wsS yX6_count.cls 227 yJ6_bitCount_0f7a4 uJ6_bitCount_0f7a4) := gU_S (wU_r32 _ (List.mem_of_getElem? (i := 11) rfl)) (wU_r32 _ (List.mem_of_getElem? (i := 12) rfl)) (wU_r32 _ (List.mem_of_getElem? (i := 13) rfl)) (wU_r32 _ (List.mem_of_getElem? (i := 14) rfl))
theorem w_X6_count_f35 : Cond.fieldLink yX6_count.cls 35 (TX6 3).1 (TX6 3).2.1 (TX6 3).2.2.1 ∈ uX6_count := List.mem_cons_of_mem _ (wU_r2 _ (List.mem_of_getElem? (i := 4) rfl))
theorem w_X6_count_f248 : Cond.fieldLink yX6_count.cls 248 (TX0 1).1 (TX0 1).2.1 (TX0 1).2.2.1 ∈ uX6_count := List.mem_cons_of_mem _ (wU_r35 _ (List.mem_of_getElem? (i := 17) rfl))
theorem w_X6_count_f61 : Cond.fieldLink yX6_count.cls 61 (TX2 2).1 (TX2 2).2.1 (TX2 2).2.2.1 ∈ uX6_count := List.mem_cons_of_mem _ (wU_r5 _ (List.mem_of_getElem? (i := 19) rfl))
theorem w_X6_count_f237 : Cond.fieldLink yX6_count.cls 237 (TX2 5).1 (TX2 5).2.1 (TX2 5).2.2.1 ∈ uX6_count := List.mem_cons_of_mem _ (wU_r34 _ (List.mem_of_getElem? (i := 23) rfl))
theorem w_X6_count_f69 : Cond.fieldLink yX6_count.cls 69 (TX2 3).1 (TX2 3).2.1 (TX2 3).2.2.1 ∈ uX6_count := List.mem_cons_of_mem _ (wU_r6 _ (List.mem_of_getElem? (i := 11) rfl))
theorem w_X6_count_f105 : Cond.fieldLink yX6_count.cls 105 (TX2 4).1 (TX2 4).2.1 (TX2 4).2.2.1 ∈ uX6_count := List.mem_cons_of_mem _ (wU_r17 _ (List.mem_of_getElem? (i := 9) rfl))
def f_X6_count (p1 : Int32) (S : aSt) : Option (Int32 × aSt) := (if p1 = (0 : Int32) then (some ((S.1 (1) 4), S)) else (if p1 = (1 : Int32) then (some ((S.1 (1) 3), S)) else (if p1 = (2 : Int32) then (some ((S.1 (1) 5), S)) else (if p1 = (3 : Int32) then (some ((S.1 (1) 2), S)) else (if p1 = (4 : Int32) then (some ((S.1 (30) 1), S)) else (if p1 = (5 : Int32) then (aB (f_X2_standingTrees (1) S) (fun r1_ S1 => (aB (f_J6_bitCount_0f7a4 r1_ S1) (fun r2_ S2 => (some (r2_, S2)))))) else (some ((-1 : Int32), S))))))))
set_option maxRecDepth 20000 in
set_option maxHeartbeats 4000000 in
theorem m_X6_count {G : aG} {K : Option Nat} (hF : aFt G K) (p1 : Int32) (S : aSt) : aMet G yX6_count uX6_count 4 mk_i (f_X6_count p1 S) [.ref (0), .int p1] S := by
  refine x_met (cc := cX6_count) (nL := 2) (ret := (some .int)) (L := [some (.ref (0)), some (.int p1)]) (by decide +kernel) rfl (And.intro rfl (And.intro rfl trivial)) (Nat.le_of_ble_eq_true rfl) ?_
  unfold f_X6_count
  refine x_iload_n dX6_count_0 rfl rfl ?_
  refine x_sw (0 : Int32) ?_ (fun hv0 => ?_)
  · refine x_tabIn (off := 39) (tgt := 40) dX6_count_1 (by decide) (by decide) (by decide) (by decide) ?_
    refine x_aload_n dX6_count_40 rfl rfl ?_
    refine x_getR (r := 1) (k := 0) (j := 0) dX6_count_41 hF.1 rfl rfl (Nat.le_of_ble_eq_true rfl) (fun w h => List.mem_cons_of_mem _ (inlX6 w h)) w_X6_count_f12 ?_
    refine x_getI (k := 1) (j := 4) dX6_count_44 hF.2.1.1 rfl rfl (Nat.le_of_ble_eq_true rfl) (fun w h => List.mem_cons_of_mem _ (inlX2 w h)) w_X6_count_f105 ?_
    exact x_iret dX6_count_47 rfl
  · refine x_sw (1 : Int32) ?_ (fun hv1 => ?_)
    · refine x_tabIn (off := 47) (tgt := 48) dX6_count_1 (by decide) (by decide) (by decide) (by decide) ?_
      refine x_aload_n dX6_count_48 rfl rfl ?_
      refine x_getR (r := 1) (k := 0) (j := 0) dX6_count_49 hF.1 rfl rfl (Nat.le_of_ble_eq_true rfl) (fun w h => List.mem_cons_of_mem _ (inlX6 w h)) w_X6_count_f12 ?_
      refine x_getI (k := 1) (j := 3) dX6_count_52 hF.2.1.1 rfl rfl (Nat.le_of_ble_eq_true rfl) (fun w h => List.mem_cons_of_mem _ (inlX2 w h)) w_X6_count_f69 ?_
      exact x_iret dX6_count_55 rfl
    · refine x_sw (2 : Int32) ?_ (fun hv2 => ?_)
      · refine x_tabIn (off := 55) (tgt := 56) dX6_count_1 (by decide) (by decide) (by decide) (by decide) ?_
        refine x_aload_n dX6_count_56 rfl rfl ?_
        refine x_getR (r := 1) (k := 0) (j := 0) dX6_count_57 hF.1 rfl rfl (Nat.le_of_ble_eq_true rfl) (fun w h => List.mem_cons_of_mem _ (inlX6 w h)) w_X6_count_f12 ?_
        refine x_getI (k := 1) (j := 5) dX6_count_60 hF.2.1.1 rfl rfl (Nat.le_of_ble_eq_true rfl) (fun w h => List.mem_cons_of_mem _ (inlX2 w h)) w_X6_count_f237 ?_
        exact x_iret dX6_count_63 rfl
      · refine x_sw (3 : Int32) ?_ (fun hv3 => ?_)
        · refine x_tabIn (off := 63) (tgt := 64) dX6_count_1 (by decide) (by decide) (by decide) (by decide) ?_
          refine x_aload_n dX6_count_64 rfl rfl ?_
          refine x_getR (r := 1) (k := 0) (j := 0) dX6_count_65 hF.1 rfl rfl (Nat.le_of_ble_eq_true rfl) (fun w h => List.mem_cons_of_mem _ (inlX6 w h)) w_X6_count_f12 ?_
          refine x_getI (k := 1) (j := 2) dX6_count_68 hF.2.1.1 rfl rfl (Nat.le_of_ble_eq_true rfl) (fun w h => List.mem_cons_of_mem _ (inlX2 w h)) w_X6_count_f61 ?_
          exact x_iret dX6_count_71 rfl
        · refine x_sw (4 : Int32) ?_ (fun hv4 => ?_)
          · refine x_tabIn (off := 71) (tgt := 72) dX6_count_1 (by decide) (by decide) (by decide) (by decide) ?_
            refine x_aload_n dX6_count_72 rfl rfl ?_
            refine x_getR (r := 30) (k := 0) (j := 3) dX6_count_73 hF.1 rfl rfl (Nat.le_of_ble_eq_true rfl) (fun w h => List.mem_cons_of_mem _ (inlX6 w h)) w_X6_count_f35 ?_
            refine x_getI (k := 30) (j := 1) dX6_count_76 hF.2.2.2.2.1.1 rfl rfl (Nat.le_of_ble_eq_true rfl) (fun w h => List.mem_cons_of_mem _ (inlX0 w h)) w_X6_count_f248 ?_
            exact x_iret dX6_count_79 rfl
          · refine x_sw (5 : Int32) ?_ (fun hv5 => ?_)
            · refine x_tabIn (off := 79) (tgt := 80) dX6_count_1 (by decide) (by decide) (by decide) (by decide) ?_
              refine x_aload_n dX6_count_80 rfl rfl ?_
              refine x_getR (r := 1) (k := 0) (j := 0) dX6_count_81 hF.1 rfl rfl (Nat.le_of_ble_eq_true rfl) (fun w h => List.mem_cons_of_mem _ (inlX6 w h)) w_X6_count_f12 ?_
              refine x_b (fun r1_ S1 e1 => ?_)
              refine x_callVi (As := []) dX6_count_84 (aMet_of e1 (m_X2_standingTrees (1) hF.2.1 S)) g_X6_count_224 rfl hF.2.1.1 rfl dd_X2_standingTrees rfl rfl (Nat.le_of_ble_eq_true rfl) (Nat.le_of_ble_eq_true rfl) (Nat.le_of_ble_eq_true rfl) ?_
              refine x_b (fun r2_ S2 e2 => ?_)
              refine x_callSi (As := [.int r1_]) dX6_count_87 (aMet_of e2 (m_J6_bitCount_0f7a4 r1_ S1)) g_X6_count_227 rfl dd_J6_bitCount_0f7a4 rfl rfl (Nat.le_of_ble_eq_true rfl) (Nat.le_of_ble_eq_true rfl) (Nat.le_of_ble_eq_true rfl) ?_
              exact x_iret dX6_count_90 rfl
            · refine x_tabOut (tgt := 91) dX6_count_1 (a_out 6 [(0 : Int32), (1 : Int32), (2 : Int32), (3 : Int32), (4 : Int32), (5 : Int32)] (by decide) (by decide +kernel) (List.forall_mem_cons.mpr ⟨hv0, (List.forall_mem_cons.mpr ⟨hv1, (List.forall_mem_cons.mpr ⟨hv2, (List.forall_mem_cons.mpr ⟨hv3, (List.forall_mem_cons.mpr ⟨hv4, (List.forall_mem_cons.mpr ⟨hv5, (fun _ h => absurd h List.not_mem_nil)⟩)⟩)⟩)⟩)⟩)⟩)) (by decide) ?_
              refine x_iconst (-1 : Int32) dX6_count_91 (by decide) ?_
              exact x_iret dX6_count_92 rfl
theorem dd_X2_copyFrom : yX2_copyFrom.cls = RX2 ∧ yX2_copyFrom.cls ≠ "java/lang/invoke/MethodHandle" ∧ yX2_copyFrom.cls ≠ "java/lang/invoke/VarHandle" ∧ (parseMethodDescriptor yX2_copyFrom.desc).map (fun d => d.parameters.length) = some 1 := by decide +kernel
theorem w_X6_undo_N_f46 : Cond.fieldLink yX6_undo.cls 46 (TX6 5).1 (TX6 5).2.1 (TX6 5).2.2.1 ∈ uX6_undo := List.mem_cons_of_mem _ (wU_r2 _ (List.mem_of_getElem? (i := 9) rfl))
def f_X6_undo_N  (S : aSt) : Option (Int32 × aSt) := (some ((-3 : Int32), S))
set_option maxRecDepth 20000 in
set_option maxHeartbeats 4000000 in
theorem m_X6_undo_N {G : aG} (hF : aFt G none)  (S : aSt) : aMet G yX6_undo uX6_undo 5 mk_i (f_X6_undo_N S) [.ref (0)] S := by
  refine x_met (cc := cX6_undo) (nL := 1) (ret := (some .int)) (L := [some (.ref (0))]) (by decide +kernel) rfl (And.intro rfl trivial) (Nat.le_of_ble_eq_true rfl) ?_
  unfold f_X6_undo_N
  refine x_aload_n dX6_undo_0 rfl rfl ?_
  refine x_getN (k := 0) (j := 5) dX6_undo_1 hF.1 rfl rfl (Nat.le_of_ble_eq_true rfl) (fun w h => List.mem_cons_of_mem _ (inlX6 w h)) w_X6_undo_N_f46 ?_
  refine x_ifnonnullN dX6_undo_4 ?_
  refine x_bipush (-3 : Int32) dX6_undo_7 (by decide) ?_
  exact x_iret dX6_undo_9 rfl
theorem w_X6_undo_K_f46 : Cond.fieldLink yX6_undo.cls 46 (TX6 5).1 (TX6 5).2.1 (TX6 5).2.2.1 ∈ uX6_undo := List.mem_cons_of_mem _ (wU_r2 _ (List.mem_of_getElem? (i := 9) rfl))
theorem w_X6_undo_K_f12 : Cond.fieldLink yX6_undo.cls 12 (TX6 0).1 (TX6 0).2.1 (TX6 0).2.2.1 ∈ uX6_undo := List.mem_cons_of_mem _ (wU_r1 _ (List.mem_of_getElem? (i := 16) rfl))
theorem g_X6_undo_K_260 : GoodIn uX6_undo (wsV yX6_undo.cls 260 RX2 yX2_copyFrom uX2_copyFrom) := gU_V (wU_r39 _ (List.mem_of_getElem? (i := 10) rfl)) (wU_r39 _ (List.mem_of_getElem? (i := 11) rfl)) (wU_r39 _ (List.mem_of_getElem? (i := 12) rfl)) (wU_r1 _ (List.mem_of_getElem? (i := 15) rfl)) (wU_r39 _ (List.mem_of_getElem? (i := 13) rfl))
theorem w_X6_undo_K_f105 : Cond.fieldLink yX6_undo.cls 105 (TX2 4).1 (TX2 4).2.1 (TX2 4).2.2.1 ∈ uX6_undo := List.mem_cons_of_mem _ (wU_r17 _ (List.mem_of_getElem? (i := 9) rfl))
def f_X6_undo_K  (S : aSt) : Option (Int32 × aSt) := (aB (f_X2_copyFrom (1) (34) S) (fun r1_ S1 => (some ((S1.1 (1) 4), S1))))
set_option maxRecDepth 20000 in
set_option maxHeartbeats 4000000 in
theorem m_X6_undo_K {G : aG} (hF : aFt G (some 34))  (S : aSt) : aMet G yX6_undo uX6_undo 5 mk_i (f_X6_undo_K S) [.ref (0)] S := by
  refine x_met (cc := cX6_undo) (nL := 1) (ret := (some .int)) (L := [some (.ref (0))]) (by decide +kernel) rfl (And.intro rfl trivial) (Nat.le_of_ble_eq_true rfl) ?_
  unfold f_X6_undo_K
  refine x_aload_n dX6_undo_0 rfl rfl ?_
  refine x_getR (r := 34) (k := 0) (j := 5) dX6_undo_1 hF.1 rfl rfl (Nat.le_of_ble_eq_true rfl) (fun w h => List.mem_cons_of_mem _ (inlX6 w h)) w_X6_undo_K_f46 ?_
  refine x_ifnonnull (tgt := 10) dX6_undo_4 (by decide) ?_
  refine x_aload_n dX6_undo_10 rfl rfl ?_
  refine x_getR (r := 1) (k := 0) (j := 0) dX6_undo_11 hF.1 rfl rfl (Nat.le_of_ble_eq_true rfl) (fun w h => List.mem_cons_of_mem _ (inlX6 w h)) w_X6_undo_K_f12 ?_
  refine x_aload_n dX6_undo_14 rfl rfl ?_
  refine x_getR (r := 34) (k := 0) (j := 5) dX6_undo_15 hF.1 rfl rfl (Nat.le_of_ble_eq_true rfl) (fun w h => List.mem_cons_of_mem _ (inlX6 w h)) w_X6_undo_K_f46 ?_
  refine x_b (fun r1_ S1 e1 => ?_)
  refine x_callVv (As := [.ref (34)]) dX6_undo_18 (aMet_of e1 (m_X2_copyFrom (1) hF.2.1 (34) (hF.2.2.2.2.2.2 34 rfl) S)) g_X6_undo_K_260 rfl hF.2.1.1 rfl dd_X2_copyFrom rfl rfl (Nat.le_of_ble_eq_true rfl) (Nat.le_of_ble_eq_true rfl) (Nat.le_of_ble_eq_true rfl) ?_
  refine x_aload_n dX6_undo_21 rfl rfl ?_
  refine x_getR (r := 1) (k := 0) (j := 0) dX6_undo_22 hF.1 rfl rfl (Nat.le_of_ble_eq_true rfl) (fun w h => List.mem_cons_of_mem _ (inlX6 w h)) w_X6_undo_K_f12 ?_
  refine x_getI (k := 1) (j := 4) dX6_undo_25 hF.2.1.1 rfl rfl (Nat.le_of_ble_eq_true rfl) (fun w h => List.mem_cons_of_mem _ (inlX2 w h)) w_X6_undo_K_f105 ?_
  exact x_iret dX6_undo_28 rfl
theorem w_X6_image_K_f46 : Cond.fieldLink yX6_image.cls 46 (TX6 5).1 (TX6 5).2.1 (TX6 5).2.2.1 ∈ uX6_image := List.mem_cons_of_mem _ (wU_r2 _ (List.mem_of_getElem? (i := 9) rfl))
theorem w_X6_image_K_f12 : Cond.fieldLink yX6_image.cls 12 (TX6 0).1 (TX6 0).2.1 (TX6 0).2.2.1 ∈ uX6_image := List.mem_cons_of_mem _ (wU_r1 _ (List.mem_of_getElem? (i := 16) rfl))
theorem g_X6_image_K_260 : GoodIn uX6_image (wsV yX6_image.cls 260 RX2 yX2_copyFrom uX2_copyFrom) := gU_V (wU_r39 _ (List.mem_of_getElem? (i := 10) rfl)) (wU_r39 _ (List.mem_of_getElem? (i := 11) rfl)) (wU_r39 _ (List.mem_of_getElem? (i := 12) rfl)) (wU_r1 _ (List.mem_of_getElem? (i := 15) rfl)) (wU_r39 _ (List.mem_of_getElem? (i := 13) rfl))
theorem w_X6_image_K_f105 : Cond.fieldLink yX6_image.cls 105 (TX2 4).1 (TX2 4).2.1 (TX2 4).2.2.1 ∈ uX6_image := List.mem_cons_of_mem _ (wU_r17 _ (List.mem_of_getElem? (i := 9) rfl))
def f_X6_image_K_18   (S : aSt) : Option (Int32 × aSt) := (aB (f_X2_copyFrom (34) (1) S) (fun r1_ S1 => (some ((S1.1 (1) 4), S1))))
set_option maxRecDepth 20000 in
set_option maxHeartbeats 4000000 in
theorem v_X6_image_K_18 {G : aG} (hF : aFt G (some 34))  (S : aSt) : aX G yX6_image cX6_image 1 (some .int) uX6_image 5 mk_i (f_X6_image_K_18 S) 18 [some (.ref (0))] [] S := by
  unfold f_X6_image_K_18
  refine x_aload_n dX6_image_18 rfl rfl ?_
  refine x_getR (r := 34) (k := 0) (j := 5) dX6_image_19 hF.1 rfl rfl (Nat.le_of_ble_eq_true rfl) (fun w h => List.mem_cons_of_mem _ (inlX6 w h)) w_X6_image_K_f46 ?_
  refine x_aload_n dX6_image_22 rfl rfl ?_
  refine x_getR (r := 1) (k := 0) (j := 0) dX6_image_23 hF.1 rfl rfl (Nat.le_of_ble_eq_true rfl) (fun w h => List.mem_cons_of_mem _ (inlX6 w h)) w_X6_image_K_f12 ?_
  refine x_b (fun r1_ S1 e1 => ?_)
  refine x_callVv (As := [.ref (1)]) dX6_image_26 (aMet_of e1 (m_X2_copyFrom (34) (hF.2.2.2.2.2.2 34 rfl) (1) hF.2.1 S)) g_X6_image_K_260 rfl (hF.2.2.2.2.2.2 34 rfl).1 rfl dd_X2_copyFrom rfl rfl (Nat.le_of_ble_eq_true rfl) (Nat.le_of_ble_eq_true rfl) (Nat.le_of_ble_eq_true rfl) ?_
  refine x_aload_n dX6_image_29 rfl rfl ?_
  refine x_getR (r := 1) (k := 0) (j := 0) dX6_image_30 hF.1 rfl rfl (Nat.le_of_ble_eq_true rfl) (fun w h => List.mem_cons_of_mem _ (inlX6 w h)) w_X6_image_K_f12 ?_
  refine x_getI (k := 1) (j := 4) dX6_image_33 hF.2.1.1 rfl rfl (Nat.le_of_ble_eq_true rfl) (fun w h => List.mem_cons_of_mem _ (inlX2 w h)) w_X6_image_K_f105 ?_
  exact x_iret dX6_image_36 rfl
def f_X6_image_K  (S : aSt) : Option (Int32 × aSt) := (f_X6_image_K_18 S)
set_option maxRecDepth 20000 in
set_option maxHeartbeats 4000000 in
theorem m_X6_image_K {G : aG} (hF : aFt G (some 34))  (S : aSt) : aMet G yX6_image uX6_image 5 mk_i (f_X6_image_K S) [.ref (0)] S := by
  refine x_met (cc := cX6_image) (nL := 1) (ret := (some .int)) (L := [some (.ref (0))]) (by decide +kernel) rfl (And.intro rfl trivial) (Nat.le_of_ble_eq_true rfl) ?_
  unfold f_X6_image_K
  refine x_aload_n dX6_image_0 rfl rfl ?_
  refine x_getR (r := 34) (k := 0) (j := 5) dX6_image_1 hF.1 rfl rfl (Nat.le_of_ble_eq_true rfl) (fun w h => List.mem_cons_of_mem _ (inlX6 w h)) w_X6_image_K_f46 ?_
  refine x_ifnonnull (tgt := 18) dX6_image_4 (by decide) ?_
  exact x_le (v_X6_image_K_18 hF S) (And.intro rfl trivial)

/-! written by program: what the bytecode does, and the walk -/
def f_X7_in (p0 : Int32) (p1 : Int32) (p2 : Int32) (S : aSt) : Option (Int32 × aSt) := (if p0 < p1 then (some ((0 : Int32), S)) else (if p2 < p0 then (some ((0 : Int32), S)) else (some ((1 : Int32), S))))
set_option maxRecDepth 20000 in
set_option maxHeartbeats 4000000 in
theorem m_X7_in {G : aG} (p0 : Int32) (p1 : Int32) (p2 : Int32) (S : aSt) : aMet G yX7_in uX7_in 2 mk_i (f_X7_in p0 p1 p2 S) [.int p0, .int p1, .int p2] S := by
  refine x_met (cc := cX7_in) (nL := 3) (ret := (some .boolean)) (L := [some (.int p0), some (.int p1), some (.int p2)]) (by decide +kernel) rfl (And.intro rfl (And.intro rfl (And.intro rfl trivial))) (Nat.le_of_ble_eq_true rfl) ?_
  unfold f_X7_in
  refine x_iload_n dX7_in_0 rfl rfl ?_
  refine x_iload_n dX7_in_1 rfl rfl ?_
  refine x_icmp_lt (tgt := 14) dX7_in_2 (by decide) ?_ ?_
  · refine x_iconst (0 : Int32) dX7_in_14 (by decide) ?_
    exact x_zret dX7_in_15 rfl rfl
  · refine x_iload_n dX7_in_5 rfl rfl ?_
    refine x_iload_n dX7_in_6 rfl rfl ?_
    refine x_icmp_gt (tgt := 14) dX7_in_7 (by decide) ?_ ?_
    · refine x_iconst (0 : Int32) dX7_in_14 (by decide) ?_
      exact x_zret dX7_in_15 rfl rfl
    · refine x_iconst (1 : Int32) dX7_in_10 (by decide) ?_
      refine x_goto (tgt := 15) dX7_in_11 (by decide) ?_
      exact x_zret dX7_in_15 rfl rfl
def f_X7_size (p0 : Int32) (S : aSt) : Option (Int32 × aSt) := (if 0 ≤ p0 then (some (p0, S)) else (some ((-p0), S)))
set_option maxRecDepth 20000 in
set_option maxHeartbeats 4000000 in
theorem m_X7_size {G : aG} (p0 : Int32) (S : aSt) : aMet G yX7_size uX7_size 2 mk_i (f_X7_size p0 S) [.int p0] S := by
  refine x_met (cc := cX7_size) (nL := 1) (ret := (some .int)) (L := [some (.int p0)]) (by decide +kernel) rfl (And.intro rfl trivial) (Nat.le_of_ble_eq_true rfl) ?_
  unfold f_X7_size
  refine x_iload_n dX7_size_0 rfl rfl ?_
  refine x_if_ge (tgt := 9) dX7_size_1 (by decide) ?_ ?_
  · refine x_iload_n dX7_size_9 rfl rfl ?_
    exact x_iret dX7_size_10 rfl
  · refine x_iload_n dX7_size_4 rfl rfl ?_
    refine x_ineg dX7_size_5 ?_
    refine x_goto (tgt := 10) dX7_size_6 (by decide) ?_
    exact x_iret dX7_size_10 rfl
theorem dd_X7_in : yX7_in.cls ≠ "java/lang/invoke/MethodHandle" ∧ yX7_in.cls ≠ "java/lang/invoke/VarHandle" ∧ (parseMethodDescriptor yX7_in.desc).map (fun d => d.parameters.length) = some 3 := by decide +kernel
theorem w_X7_isTree_f9 : Cond.fieldLink yX7_isTree.cls 9 (TX7 1).1 (TX7 1).2.1 (TX7 1).2.2.1 ∈ uX7_isTree := List.mem_cons_of_mem _ (wU_r4 _ (List.mem_of_getElem? (i := 14) rfl))
theorem g_X7_isTree_41 : GoodIn uX7_isTree (va_wsS yX7_isTree.cls 41 yX7_in uX7_in) := gU_S (wU_r6 _ (List.mem_of_getElem? (i := 4) rfl)) (wU_r6 _ (List.mem_of_getElem? (i := 5) rfl)) (wU_r1 _ (List.mem_of_getElem? (i := 5) rfl)) (wU_r6 _ (List.mem_of_getElem? (i := 6) rfl))
def f_X7_isTree (p1 : Int32) (S : aSt) : Option (Int32 × aSt) := (aB (f_X7_in p1 (0 : Int32) ((S.1 (1) 0) - (1 : Int32)) S) (fun r1_ S1 => (if r1_ = 0 ∨ r1_ = 1 then some (r1_, S1) else none)))
set_option maxRecDepth 20000 in
set_option maxHeartbeats 4000000 in
theorem m_X7_isTree {G : aG} (hM : aMo G) (p1 : Int32) (S : aSt) : aMet G yX7_isTree uX7_isTree 3 mk_i (f_X7_isTree p1 S) [.ref (0), .int p1] S := by
  refine x_met (cc := cX7_isTree) (nL := 2) (ret := (some .boolean)) (L := [some (.ref (0)), some (.int p1)]) (by decide +kernel) rfl (And.intro rfl (And.intro rfl trivial)) (Nat.le_of_ble_eq_true rfl) ?_
  unfold f_X7_isTree
  refine x_iload_n dX7_isTree_0 rfl rfl ?_
  refine x_iconst (0 : Int32) dX7_isTree_1 (by decide) ?_
  refine x_aload_n dX7_isTree_2 rfl rfl ?_
  refine x_getR (r := 1) (k := 0) (j := 1) dX7_isTree_3 hM.1 rfl rfl (Nat.le_of_ble_eq_true rfl) (fun w h => List.mem_cons_of_mem _ (inlX7 w h)) w_X7_isTree_f9 ?_
  refine x_iconst (0 : Int32) dX7_isTree_6 (by decide) ?_
  refine x_ialdc (j := 0) dX7_isTree_7 hM.2.1 (by unfold vp_in; decide) (by decide) ?_
  refine x_iconst (1 : Int32) dX7_isTree_8 (by decide) ?_
  refine x_isub dX7_isTree_9 ?_
  refine x_b (fun r1_ S1 e1 => ?_)
  refine x_callSi (As := [.int p1, .int (0 : Int32), .int ((S.1 (1) 0) - (1 : Int32))]) dX7_isTree_10 (aMet_of e1 (m_X7_in p1 (0 : Int32) ((S.1 (1) 0) - (1 : Int32)) S)) g_X7_isTree_41 rfl dd_X7_in rfl rfl (Nat.le_of_ble_eq_true rfl) (Nat.le_of_ble_eq_true rfl) (Nat.le_of_ble_eq_true rfl) ?_
  exact x_zretc dX7_isTree_13 rfl
theorem w_X7_isStanding_f9 : Cond.fieldLink yX7_isStanding.cls 9 (TX7 1).1 (TX7 1).2.1 (TX7 1).2.2.1 ∈ uX7_isStanding := List.mem_cons_of_mem _ (wU_r4 _ (List.mem_of_getElem? (i := 14) rfl))
def f_X7_isStanding (p1 : Int32) (S : aSt) : Option (Int32 × aSt) := (if ((152 : Int32) + p1) < 0 ∨ 979 ≤ (((152 : Int32) + p1)).toNatClampNeg then none else (if (S.1 (1) (((152 : Int32) + p1)).toNatClampNeg) = (1 : Int32) then (some ((1 : Int32), S)) else (some ((0 : Int32), S))))
set_option maxRecDepth 20000 in
set_option maxHeartbeats 4000000 in
theorem m_X7_isStanding {G : aG} (hM : aMo G) (p1 : Int32) (S : aSt) : aMet G yX7_isStanding uX7_isStanding 2 mk_i (f_X7_isStanding p1 S) [.ref (0), .int p1] S := by
  refine x_met (cc := cX7_isStanding) (nL := 2) (ret := (some .boolean)) (L := [some (.ref (0)), some (.int p1)]) (by decide +kernel) rfl (And.intro rfl (And.intro rfl trivial)) (Nat.le_of_ble_eq_true rfl) ?_
  unfold f_X7_isStanding
  refine x_aload_n dX7_isStanding_0 rfl rfl ?_
  refine x_getR (r := 1) (k := 0) (j := 1) dX7_isStanding_1 hM.1 rfl rfl (Nat.le_of_ble_eq_true rfl) (fun w h => List.mem_cons_of_mem _ (inlX7 w h)) w_X7_isStanding_f9 ?_
  refine x_sipush (152 : Int32) dX7_isStanding_4 (by decide) ?_
  refine x_iload_n dX7_isStanding_7 rfl rfl ?_
  refine x_iadd dX7_isStanding_8 ?_
  refine x_iald dX7_isStanding_9 hM.2.1 ?_
  refine x_iconst (1 : Int32) dX7_isStanding_10 (by decide) ?_
  refine x_icmp_ne (tgt := 18) dX7_isStanding_11 (by decide) ?_ ?_
  · refine x_iconst (0 : Int32) dX7_isStanding_18 (by decide) ?_
    exact x_zret dX7_isStanding_19 rfl rfl
  · refine x_iconst (1 : Int32) dX7_isStanding_14 (by decide) ?_
    refine x_goto (tgt := 19) dX7_isStanding_15 (by decide) ?_
    exact x_zret dX7_isStanding_19 rfl rfl
theorem g_X7_isWay_41 : GoodIn uX7_isWay (va_wsS yX7_isWay.cls 41 yX7_in uX7_in) := gU_S (wU_r6 _ (List.mem_of_getElem? (i := 4) rfl)) (wU_r6 _ (List.mem_of_getElem? (i := 5) rfl)) (wU_r1 _ (List.mem_of_getElem? (i := 5) rfl)) (wU_r6 _ (List.mem_of_getElem? (i := 6) rfl))
def f_X7_isWay (p0 : Int32) (S : aSt) : Option (Int32 × aSt) := (aB (f_X7_in p0 (0 : Int32) (7 : Int32) S) (fun r1_ S1 => (if r1_ = 0 ∨ r1_ = 1 then some (r1_, S1) else none)))
set_option maxRecDepth 20000 in
set_option maxHeartbeats 4000000 in
theorem m_X7_isWay {G : aG} (p0 : Int32) (S : aSt) : aMet G yX7_isWay uX7_isWay 3 mk_i (f_X7_isWay p0 S) [.int p0] S := by
  refine x_met (cc := cX7_isWay) (nL := 1) (ret := (some .boolean)) (L := [some (.int p0)]) (by decide +kernel) rfl (And.intro rfl trivial) (Nat.le_of_ble_eq_true rfl) ?_
  unfold f_X7_isWay
  refine x_iload_n dX7_isWay_0 rfl rfl ?_
  refine x_iconst (0 : Int32) dX7_isWay_1 (by decide) ?_
  refine x_bipush (7 : Int32) dX7_isWay_2 (by decide) ?_
  refine x_b (fun r1_ S1 e1 => ?_)
  refine x_callSi (As := [.int p0, .int (0 : Int32), .int (7 : Int32)]) dX7_isWay_4 (aMet_of e1 (m_X7_in p0 (0 : Int32) (7 : Int32) S)) g_X7_isWay_41 rfl dd_X7_in rfl rfl (Nat.le_of_ble_eq_true rfl) (Nat.le_of_ble_eq_true rfl) (Nat.le_of_ble_eq_true rfl) ?_
  exact x_zretc dX7_isWay_7 rfl
theorem w_X7_things_f9 : Cond.fieldLink yX7_things.cls 9 (TX7 1).1 (TX7 1).2.1 (TX7 1).2.2.1 ∈ uX7_things := List.mem_cons_of_mem _ (wU_r4 _ (List.mem_of_getElem? (i := 14) rfl))
def f_X7_things_5  : Nat → Int64 → Int32 → Int32 → aSt → Option (Int32 × aSt)
  | 0, _, _, _, _ => none
  | n + 1, l1, l3, l4, S => (if (64 : Int32) ≤ l4 then (some (l3, S)) else (if ((210 : Int32) + l4) < 0 ∨ 979 ≤ (((210 : Int32) + l4)).toNatClampNeg then none else (aLt (l3 + (S.1 (1) (((210 : Int32) + l4)).toNatClampNeg)) (fun x1 => (if ((210 : Int32) + l4) < 0 ∨ 979 ≤ (((210 : Int32) + l4)).toNatClampNeg then none else (aLt (aUi S (1) (((210 : Int32) + l4)).toNatClampNeg (((l1 >>> ((l4).toInt64 &&& 63)) &&& (1 : Int64))).toInt32) (fun S2 => (aLt (l4 + (1 : Int32)) (fun x3 => (f_X7_things_5 n l1 x1 x3 S2))))))))))
set_option maxRecDepth 20000 in
set_option maxHeartbeats 4000000 in
theorem v_X7_things_5 {G : aG} (hM : aMo G) : ∀ (n : Nat) (l1 : Int64) (l3 : Int32) (l4 : Int32) (S : aSt), aX G yX7_things cX7_things 5 (some .int) uX7_things 2 mk_i (f_X7_things_5 n l1 l3 l4 S) 5 [some (.ref (0)), some (.long l1), none, some (.int l3), some (.int l4)] [] S := by
  intro n
  induction n with
  | zero => intro l1 l3 l4 S; exact x_none
  | succ n ih =>
    intro l1 l3 l4 S
    unfold f_X7_things_5
    refine x_iload dX7_things_5 rfl ?_
    refine x_bipush (64 : Int32) dX7_things_7 (by decide) ?_
    refine x_icmp_ge (tgt := 50) dX7_things_9 (by decide) ?_ ?_
    · refine x_iload_n dX7_things_50 rfl rfl ?_
      exact x_iret dX7_things_51 rfl
    · refine x_iload_n dX7_things_12 rfl rfl ?_
      refine x_aload_n dX7_things_13 rfl rfl ?_
      refine x_getR (r := 1) (k := 0) (j := 1) dX7_things_14 hM.1 rfl rfl (Nat.le_of_ble_eq_true rfl) (fun w h => List.mem_cons_of_mem _ (inlX7 w h)) w_X7_things_f9 ?_
      refine x_sipush (210 : Int32) dX7_things_17 (by decide) ?_
      refine x_iload dX7_things_20 rfl ?_
      refine x_iadd dX7_things_22 ?_
      refine x_iald dX7_things_23 hM.2.1 ?_
      refine x_iadd dX7_things_24 ?_
      refine x_lti (fun x1 => ?_)
      refine x_istore_n dX7_things_25 rfl (Nat.le_of_ble_eq_true rfl) rfl ?_
      refine x_aload_n dX7_things_26 rfl rfl ?_
      refine x_getR (r := 1) (k := 0) (j := 1) dX7_things_27 hM.1 rfl rfl (Nat.le_of_ble_eq_true rfl) (fun w h => List.mem_cons_of_mem _ (inlX7 w h)) w_X7_things_f9 ?_
      refine x_sipush (210 : Int32) dX7_things_30 (by decide) ?_
      refine x_iload dX7_things_33 rfl ?_
      refine x_iadd dX7_things_35 ?_
      refine x_lload_n dX7_things_36 rfl rfl ?_
      refine x_iload dX7_things_37 rfl ?_
      refine x_lshr dX7_things_39 ?_
      refine x_lconst (1 : Int64) dX7_things_40 (by decide) ?_
      refine x_land dX7_things_41 ?_
      refine x_l2i dX7_things_42 ?_
      refine x_iast dX7_things_43 hM.2.1 ?_
      refine x_ltS (fun S2 => ?_)
      refine x_iincL (w := (1 : Int32)) dX7_things_44 rfl (by decide) (Nat.le_of_ble_eq_true rfl) rfl (fun x3 => ?_)
      refine x_goto (tgt := 5) dX7_things_47 (by decide) ?_
      exact x_le (ih l1 x1 x3 S2) (And.intro rfl (And.intro rfl (And.intro rfl (And.intro rfl trivial))))
def f_X7_things (p1 : Int64) (S : aSt) : Option (Int32 × aSt) := (f_X7_things_5 aF p1 (0 : Int32) (0 : Int32) S)
set_option maxRecDepth 20000 in
set_option maxHeartbeats 4000000 in
theorem m_X7_things {G : aG} (hM : aMo G) (p1 : Int64) (S : aSt) : aMet G yX7_things uX7_things 2 mk_i (f_X7_things p1 S) [.ref (0), .long p1] S := by
  refine x_met (cc := cX7_things) (nL := 5) (ret := (some .int)) (L := [some (.ref (0)), some (.long p1), none, none, none]) (by decide +kernel) rfl (And.intro rfl (And.intro rfl trivial)) (Nat.le_of_ble_eq_true rfl) ?_
  unfold f_X7_things
  refine x_iconst (0 : Int32) dX7_things_0 (by decide) ?_
  refine x_istore_n dX7_things_1 rfl (Nat.le_of_ble_eq_true rfl) rfl ?_
  refine x_iconst (0 : Int32) dX7_things_2 (by decide) ?_
  refine x_istore dX7_things_3 (Nat.le_of_ble_eq_true rfl) rfl ?_
  exact x_le (v_X7_things_5 hM aF p1 (0 : Int32) (0 : Int32) S) (And.intro rfl (And.intro rfl (And.intro rfl (And.intro rfl trivial))))
theorem g_X7_feed_41 : GoodIn uX7_feed (va_wsS yX7_feed.cls 41 yX7_in uX7_in) := gU_S (wU_r6 _ (List.mem_of_getElem? (i := 4) rfl)) (wU_r6 _ (List.mem_of_getElem? (i := 5) rfl)) (wU_r1 _ (List.mem_of_getElem? (i := 5) rfl)) (wU_r6 _ (List.mem_of_getElem? (i := 6) rfl))
theorem w_X7_feed_f9 : Cond.fieldLink yX7_feed.cls 9 (TX7 1).1 (TX7 1).2.1 (TX7 1).2.2.1 ∈ uX7_feed := List.mem_cons_of_mem _ (wU_r4 _ (List.mem_of_getElem? (i := 14) rfl))
def f_X7_feed (p1 : Int32) (S : aSt) : Option (Int32 × aSt) := (aB (f_X7_in p1 (0 : Int32) (127 : Int32) S) (fun r1_ S1 => (if r1_ = 0 then (some ((-2 : Int32), S1)) else (if (S1.1 (1) 3) = (100 : Int32) then (some ((-4 : Int32), S1)) else (if ((10 : Int32) + (S1.1 (1) 3)) < 0 ∨ 979 ≤ (((10 : Int32) + (S1.1 (1) 3))).toNatClampNeg then none else (aLt (aUi S1 (1) (((10 : Int32) + (S1.1 (1) 3))).toNatClampNeg p1) (fun S2 => (aLt (aUi S2 (1) 3 ((S2.1 (1) 3) + (1 : Int32))) (fun S3 => (some ((S3.1 (1) 3), S3)))))))))))
set_option maxRecDepth 20000 in
set_option maxHeartbeats 4000000 in
theorem m_X7_feed {G : aG} (hM : aMo G) (p1 : Int32) (S : aSt) : aMet G yX7_feed uX7_feed 3 mk_i (f_X7_feed p1 S) [.ref (0), .int p1] S := by
  refine x_met (cc := cX7_feed) (nL := 2) (ret := (some .int)) (L := [some (.ref (0)), some (.int p1)]) (by decide +kernel) rfl (And.intro rfl (And.intro rfl trivial)) (Nat.le_of_ble_eq_true rfl) ?_
  unfold f_X7_feed
  refine x_iload_n dX7_feed_0 rfl rfl ?_
  refine x_iconst (0 : Int32) dX7_feed_1 (by decide) ?_
  refine x_bipush (127 : Int32) dX7_feed_2 (by decide) ?_
  refine x_b (fun r1_ S1 e1 => ?_)
  refine x_callSi (As := [.int p1, .int (0 : Int32), .int (127 : Int32)]) dX7_feed_4 (aMet_of e1 (m_X7_in p1 (0 : Int32) (127 : Int32) S)) g_X7_feed_41 rfl dd_X7_in rfl rfl (Nat.le_of_ble_eq_true rfl) (Nat.le_of_ble_eq_true rfl) (Nat.le_of_ble_eq_true rfl) ?_
  refine x_if_ne (tgt := 13) dX7_feed_7 (by decide) ?_ ?_
  · refine x_aload_n dX7_feed_13 rfl rfl ?_
    refine x_getR (r := 1) (k := 0) (j := 1) dX7_feed_14 hM.1 rfl rfl (Nat.le_of_ble_eq_true rfl) (fun w h => List.mem_cons_of_mem _ (inlX7 w h)) w_X7_feed_f9 ?_
    refine x_iconst (3 : Int32) dX7_feed_17 (by decide) ?_
    refine x_ialdc (j := 3) dX7_feed_18 hM.2.1 (by unfold vp_in; decide) (by decide) ?_
    refine x_bipush (100 : Int32) dX7_feed_19 (by decide) ?_
    refine x_icmp_ne (tgt := 27) dX7_feed_21 (by decide) ?_ ?_
    · refine x_aload_n dX7_feed_27 rfl rfl ?_
      refine x_getR (r := 1) (k := 0) (j := 1) dX7_feed_28 hM.1 rfl rfl (Nat.le_of_ble_eq_true rfl) (fun w h => List.mem_cons_of_mem _ (inlX7 w h)) w_X7_feed_f9 ?_
      refine x_bipush (10 : Int32) dX7_feed_31 (by decide) ?_
      refine x_aload_n dX7_feed_33 rfl rfl ?_
      refine x_getR (r := 1) (k := 0) (j := 1) dX7_feed_34 hM.1 rfl rfl (Nat.le_of_ble_eq_true rfl) (fun w h => List.mem_cons_of_mem _ (inlX7 w h)) w_X7_feed_f9 ?_
      refine x_iconst (3 : Int32) dX7_feed_37 (by decide) ?_
      refine x_ialdc (j := 3) dX7_feed_38 hM.2.1 (by unfold vp_in; decide) (by decide) ?_
      refine x_iadd dX7_feed_39 ?_
      refine x_iload_n dX7_feed_40 rfl rfl ?_
      refine x_iast dX7_feed_41 hM.2.1 ?_
      refine x_ltS (fun S2 => ?_)
      refine x_aload_n dX7_feed_42 rfl rfl ?_
      refine x_getR (r := 1) (k := 0) (j := 1) dX7_feed_43 hM.1 rfl rfl (Nat.le_of_ble_eq_true rfl) (fun w h => List.mem_cons_of_mem _ (inlX7 w h)) w_X7_feed_f9 ?_
      refine x_iconst (3 : Int32) dX7_feed_46 (by decide) ?_
      refine x_dup2 dX7_feed_47 rfl rfl ?_
      refine x_ialdc (j := 3) dX7_feed_48 hM.2.1 (by unfold vp_in; decide) (by decide) ?_
      refine x_iconst (1 : Int32) dX7_feed_49 (by decide) ?_
      refine x_iadd dX7_feed_50 ?_
      refine x_iastc (j := 3) dX7_feed_51 hM.2.1 (by unfold vp_in; decide) (by decide) ?_
      refine x_ltS (fun S3 => ?_)
      refine x_aload_n dX7_feed_52 rfl rfl ?_
      refine x_getR (r := 1) (k := 0) (j := 1) dX7_feed_53 hM.1 rfl rfl (Nat.le_of_ble_eq_true rfl) (fun w h => List.mem_cons_of_mem _ (inlX7 w h)) w_X7_feed_f9 ?_
      refine x_iconst (3 : Int32) dX7_feed_56 (by decide) ?_
      refine x_ialdc (j := 3) dX7_feed_57 hM.2.1 (by unfold vp_in; decide) (by decide) ?_
      exact x_iret dX7_feed_58 rfl
    · refine x_bipush (-4 : Int32) dX7_feed_24 (by decide) ?_
      exact x_iret dX7_feed_26 rfl
  · refine x_bipush (-2 : Int32) dX7_feed_10 (by decide) ?_
    exact x_iret dX7_feed_12 rfl
theorem w_X7_here_f45 : Cond.fieldLink yX7_here.cls 45 (TX7 5).1 (TX7 5).2.1 (TX7 5).2.2.1 ∈ uX7_here := List.mem_cons_of_mem _ (wU_r14 _ (List.mem_of_getElem? (i := 9) rfl))
theorem w_X7_here_f48 : Cond.fieldLink yX7_here.cls 48 (TX7 6).1 (TX7 6).2.1 (TX7 6).2.2.1 ∈ uX7_here := List.mem_cons_of_mem _ (wU_r14 _ (List.mem_of_getElem? (i := 8) rfl))
theorem w_X7_here_f9 : Cond.fieldLink yX7_here.cls 9 (TX7 1).1 (TX7 1).2.1 (TX7 1).2.2.1 ∈ uX7_here := List.mem_cons_of_mem _ (wU_r4 _ (List.mem_of_getElem? (i := 14) rfl))
def f_X7_here  (S : aSt) : Option (Int32 × aSt) := (if (S.1 (0) 6) ≤ (S.1 (0) 5) then (some ((-1 : Int32), S)) else (if ((10 : Int32) + (S.1 (0) 5)) < 0 ∨ 979 ≤ (((10 : Int32) + (S.1 (0) 5))).toNatClampNeg then none else (some ((S.1 (1) (((10 : Int32) + (S.1 (0) 5))).toNatClampNeg), S))))
set_option maxRecDepth 20000 in
set_option maxHeartbeats 4000000 in
theorem m_X7_here {G : aG} (hM : aMo G)  (S : aSt) : aMet G yX7_here uX7_here 2 mk_i (f_X7_here S) [.ref (0)] S := by
  refine x_met (cc := cX7_here) (nL := 1) (ret := (some .int)) (L := [some (.ref (0))]) (by decide +kernel) rfl (And.intro rfl trivial) (Nat.le_of_ble_eq_true rfl) ?_
  unfold f_X7_here
  refine x_aload_n dX7_here_0 rfl rfl ?_
  refine x_getI (k := 0) (j := 5) dX7_here_1 hM.1 rfl rfl (Nat.le_of_ble_eq_true rfl) (fun w h => List.mem_cons_of_mem _ (inlX7 w h)) w_X7_here_f45 ?_
  refine x_aload_n dX7_here_4 rfl rfl ?_
  refine x_getI (k := 0) (j := 6) dX7_here_5 hM.1 rfl rfl (Nat.le_of_ble_eq_true rfl) (fun w h => List.mem_cons_of_mem _ (inlX7 w h)) w_X7_here_f48 ?_
  refine x_icmp_ge (tgt := 26) dX7_here_8 (by decide) ?_ ?_
  · refine x_iconst (-1 : Int32) dX7_here_26 (by decide) ?_
    exact x_iret dX7_here_27 rfl
  · refine x_aload_n dX7_here_11 rfl rfl ?_
    refine x_getR (r := 1) (k := 0) (j := 1) dX7_here_12 hM.1 rfl rfl (Nat.le_of_ble_eq_true rfl) (fun w h => List.mem_cons_of_mem _ (inlX7 w h)) w_X7_here_f9 ?_
    refine x_bipush (10 : Int32) dX7_here_15 (by decide) ?_
    refine x_aload_n dX7_here_17 rfl rfl ?_
    refine x_getI (k := 0) (j := 5) dX7_here_18 hM.1 rfl rfl (Nat.le_of_ble_eq_true rfl) (fun w h => List.mem_cons_of_mem _ (inlX7 w h)) w_X7_here_f45 ?_
    refine x_iadd dX7_here_21 ?_
    refine x_iald dX7_here_22 hM.2.1 ?_
    refine x_goto (tgt := 27) dX7_here_23 (by decide) ?_
    exact x_iret dX7_here_27 rfl
theorem dd_X7_here : yX7_here.cls = RX7 ∧ yX7_here.cls ≠ "java/lang/invoke/MethodHandle" ∧ yX7_here.cls ≠ "java/lang/invoke/VarHandle" ∧ (parseMethodDescriptor yX7_here.desc).map (fun d => d.parameters.length) = some 0 := by decide +kernel
theorem w_X7_must_f51 : Cond.fieldLink yX7_must.cls 51 (TX7 7).1 (TX7 7).2.1 (TX7 7).2.2.1 ∈ uX7_must := List.mem_cons_of_mem _ (wU_r14 _ (List.mem_of_getElem? (i := 10) rfl))
theorem g_X7_must_55 : GoodIn uX7_must (wsV yX7_must.cls 55 RX7 yX7_here uX7_here) := gU_V (wU_r14 _ (List.mem_of_getElem? (i := 16) rfl)) (wU_r14 _ (List.mem_of_getElem? (i := 17) rfl)) (wU_r14 _ (List.mem_of_getElem? (i := 18) rfl)) (wU_r1 _ (List.mem_of_getElem? (i := 5) rfl)) (wU_r14 _ (List.mem_of_getElem? (i := 19) rfl))
theorem w_X7_must_f45 : Cond.fieldLink yX7_must.cls 45 (TX7 5).1 (TX7 5).2.1 (TX7 5).2.2.1 ∈ uX7_must := List.mem_cons_of_mem _ (wU_r14 _ (List.mem_of_getElem? (i := 9) rfl))
def f_X7_must_41  (s0 : Int32) (s1 : Int32) (S : aSt) : Option (Unit × aSt) := (aLt (aUi S (0) 5 (s1 + s0)) (fun S3 => (some ((), S3))))
set_option maxRecDepth 20000 in
set_option maxHeartbeats 4000000 in
theorem v_X7_must_41 {G : aG} (hM : aMo G) (s0 : Int32) (s1 : Int32) (S : aSt) : aX G yX7_must cX7_must 2 none uX7_must 3 mk_v (f_X7_must_41 s0 s1 S) 41 [none, none] [.int s0, .int s1, .ref (0)] S := by
  unfold f_X7_must_41
  refine x_iadd dX7_must_41 ?_
  refine x_putI (k := 0) (j := 5) dX7_must_42 hM.1 rfl rfl (Nat.le_of_ble_eq_true rfl) (fun w h => List.mem_cons_of_mem _ (inlX7 w h)) w_X7_must_f45 tyX7 tyX7_ok nmX7 rfl (by decide +kernel) ?_
  refine x_ltS (fun S3 => ?_)
  exact x_vret dX7_must_45 rfl
def f_X7_must_21  (s0 : Int32) (S : aSt) : Option (Unit × aSt) := (if s0 = 0 ∨ s0 = 1 then (aLt (aUi S (0) 7 s0) (fun S2 => (if (S2.1 (0) 7) = 0 then (f_X7_must_41 (1 : Int32) (S2.1 (0) 5) S2) else (f_X7_must_41 (0 : Int32) (S2.1 (0) 5) S2)))) else none)
set_option maxRecDepth 20000 in
set_option maxHeartbeats 4000000 in
theorem v_X7_must_21 {G : aG} (hM : aMo G) (s0 : Int32) (S : aSt) : aX G yX7_must cX7_must 2 none uX7_must 3 mk_v (f_X7_must_21 s0 S) 21 [some (.ref (0)), none] [.int s0, .ref (0)] S := by
  unfold f_X7_must_21
  refine x_putZ (k := 0) (j := 7) dX7_must_21 hM.1 rfl rfl (Nat.le_of_ble_eq_true rfl) (fun w h => List.mem_cons_of_mem _ (inlX7 w h)) w_X7_must_f51 tyX7 tyX7_ok nmX7 rfl (by decide +kernel) ?_
  refine x_ltS (fun S2 => ?_)
  refine x_aload_n dX7_must_24 rfl rfl ?_
  refine x_dup dX7_must_25 rfl ?_
  refine x_getI (k := 0) (j := 5) dX7_must_26 hM.1 rfl rfl (Nat.le_of_ble_eq_true rfl) (fun w h => List.mem_cons_of_mem _ (inlX7 w h)) w_X7_must_f45 ?_
  refine x_aload_n dX7_must_29 rfl rfl ?_
  refine x_getI (k := 0) (j := 7) dX7_must_30 hM.1 rfl rfl (Nat.le_of_ble_eq_true rfl) (fun w h => List.mem_cons_of_mem _ (inlX7 w h)) w_X7_must_f51 ?_
  refine x_if_eq (tgt := 40) dX7_must_33 (by decide) ?_ ?_
  · refine x_iconst (1 : Int32) dX7_must_40 (by decide) ?_
    exact x_le (v_X7_must_41 hM (1 : Int32) (S2.1 (0) 5) S2) trivial
  · refine x_iconst (0 : Int32) dX7_must_36 (by decide) ?_
    refine x_goto (tgt := 41) dX7_must_37 (by decide) ?_
    exact x_le (v_X7_must_41 hM (0 : Int32) (S2.1 (0) 5) S2) trivial
def f_X7_must_16   (S : aSt) : Option (Unit × aSt) := (f_X7_must_21 (1 : Int32) S)
set_option maxRecDepth 20000 in
set_option maxHeartbeats 4000000 in
theorem v_X7_must_16 {G : aG} (hM : aMo G)  (S : aSt) : aX G yX7_must cX7_must 2 none uX7_must 3 mk_v (f_X7_must_16 S) 16 [some (.ref (0)), none] [.ref (0)] S := by
  unfold f_X7_must_16
  refine x_iconst (1 : Int32) dX7_must_16 (by decide) ?_
  refine x_goto (tgt := 21) dX7_must_17 (by decide) ?_
  exact x_le (v_X7_must_21 hM (1 : Int32) S) (And.intro rfl trivial)
def f_X7_must (p1 : Int32) (S : aSt) : Option (Unit × aSt) := (if (S.1 (0) 7) = 0 then (aB (f_X7_here S) (fun r1_ S1 => (if r1_ = p1 then (f_X7_must_21 (0 : Int32) S1) else (f_X7_must_16 S1)))) else (f_X7_must_16 S))
set_option maxRecDepth 20000 in
set_option maxHeartbeats 4000000 in
theorem m_X7_must {G : aG} (hM : aMo G) (p1 : Int32) (S : aSt) : aMet G yX7_must uX7_must 3 mk_v (f_X7_must p1 S) [.ref (0), .int p1] S := by
  refine x_met (cc := cX7_must) (nL := 2) (ret := none) (L := [some (.ref (0)), some (.int p1)]) (by decide +kernel) rfl (And.intro rfl (And.intro rfl trivial)) (Nat.le_of_ble_eq_true rfl) ?_
  unfold f_X7_must
  refine x_aload_n dX7_must_0 rfl rfl ?_
  refine x_aload_n dX7_must_1 rfl rfl ?_
  refine x_getI (k := 0) (j := 7) dX7_must_2 hM.1 rfl rfl (Nat.le_of_ble_eq_true rfl) (fun w h => List.mem_cons_of_mem _ (inlX7 w h)) w_X7_must_f51 ?_
  refine x_if_ne (tgt := 16) dX7_must_5 (by decide) ?_ ?_
  · exact x_le (v_X7_must_16 hM S) (And.intro rfl trivial)
  · refine x_aload_n dX7_must_8 rfl rfl ?_
    refine x_b (fun r1_ S1 e1 => ?_)
    refine x_callVi (As := []) dX7_must_9 (aMet_of e1 (m_X7_here hM S)) g_X7_must_55 rfl hM.1 rfl dd_X7_here rfl rfl (Nat.le_of_ble_eq_true rfl) (Nat.le_of_ble_eq_true rfl) (Nat.le_of_ble_eq_true rfl) ?_
    refine x_iload_n dX7_must_12 rfl rfl ?_
    refine x_icmp_eq (tgt := 20) dX7_must_13 (by decide) ?_ ?_
    · refine x_iconst (0 : Int32) dX7_must_20 (by decide) ?_
      exact x_le (v_X7_must_21 hM (0 : Int32) S1) (And.intro rfl trivial)
    · exact x_le (v_X7_must_16 hM S1) (And.intro rfl trivial)
theorem dd_X7_must : yX7_must.cls = RX7 ∧ yX7_must.cls ≠ "java/lang/invoke/MethodHandle" ∧ yX7_must.cls ≠ "java/lang/invoke/VarHandle" ∧ (parseMethodDescriptor yX7_must.desc).map (fun d => d.parameters.length) = some 1 := by decide +kernel
theorem g_X7_spells_59 : GoodIn uX7_spells (wsV yX7_spells.cls 59 RJ0 yJ0_length_8abf5 uJ0_length_8abf5) := gU_V (wU_r15 _ (List.mem_of_getElem? (i := 4) rfl)) (wU_r8 _ (List.mem_of_getElem? (i := 1) rfl)) (wU_r8 _ (List.mem_of_getElem? (i := 2) rfl)) (wU_r8 _ (List.mem_of_getElem? (i := 3) rfl)) (wU_r8 _ (List.mem_of_getElem? (i := 4) rfl))
theorem g_X7_spells_64 : GoodIn uX7_spells (wsV yX7_spells.cls 64 RJ0 yJ0_charAt_5068e uJ0_charAt_5068e) := gU_V (wU_r15 _ (List.mem_of_getElem? (i := 5) rfl)) (wU_r8 _ (List.mem_of_getElem? (i := 13) rfl)) (wU_r8 _ (List.mem_of_getElem? (i := 14) rfl)) (wU_r8 _ (List.mem_of_getElem? (i := 3) rfl)) (wU_r8 _ (List.mem_of_getElem? (i := 15) rfl))
theorem g_X7_spells_68 : GoodIn uX7_spells (wsV yX7_spells.cls 68 RX7 yX7_must uX7_must) := gU_V (wU_r15 _ (List.mem_of_getElem? (i := 6) rfl)) (wU_r15 _ (List.mem_of_getElem? (i := 7) rfl)) (wU_r15 _ (List.mem_of_getElem? (i := 8) rfl)) (wU_r1 _ (List.mem_of_getElem? (i := 5) rfl)) (wU_r15 _ (List.mem_of_getElem? (i := 9) rfl))
def f_X7_spells_2  : Nat → Nat → Int32 → aSt → Option (Unit × aSt)
  | 0, _, _, _ => none
  | n + 1, l1, l2, S => (aB (f_J0_length_8abf5 (l1) S) (fun r1_ S1 => (if r1_ ≤ l2 then (some ((), S1)) else (aB (f_J0_charAt_5068e (l1) l2 S1) (fun r2_ S2 => (aB (f_X7_must r2_ S2) (fun r3_ S3 => (aLt (l2 + (1 : Int32)) (fun x4 => (f_X7_spells_2 n (l1) x4 S3))))))))))
set_option maxRecDepth 20000 in
set_option maxHeartbeats 4000000 in
theorem v_X7_spells_2 {G : aG} (hM : aMo G) : ∀ (n : Nat) (l1 : Nat) (ql1 : l1 < 13) (l2 : Int32) (S : aSt), aX G yX7_spells cX7_spells 3 none uX7_spells 5 mk_v (f_X7_spells_2 n l1 l2 S) 2 [some (.ref (0)), some (.ref (1000 + l1)), some (.int l2)] [] S := by
  intro n
  induction n with
  | zero => intro l1 ql1 l2 S; exact x_none
  | succ n ih =>
    intro l1 ql1 l2 S
    unfold f_X7_spells_2
    refine x_iload_n dX7_spells_2 rfl rfl ?_
    refine x_aload_n dX7_spells_3 rfl rfl ?_
    refine x_b (fun r1_ S1 e1 => ?_)
    refine x_callKi (As := []) dX7_spells_4 (aMet_of e1 (m_J0_length_8abf5 (l1) ql1 S)) g_X7_spells_59 rfl ql1 dd_J0_length_8abf5 rfl rfl (Nat.le_of_ble_eq_true rfl) (Nat.le_of_ble_eq_true rfl) (Nat.le_of_ble_eq_true rfl) ?_
    refine x_icmp_ge (tgt := 25) dX7_spells_7 (by decide) ?_ ?_
    · exact x_vret dX7_spells_25 rfl
    · refine x_aload_n dX7_spells_10 rfl rfl ?_
      refine x_aload_n dX7_spells_11 rfl rfl ?_
      refine x_iload_n dX7_spells_12 rfl rfl ?_
      refine x_b (fun r2_ S2 e2 => ?_)
      refine x_callKi (As := [.int l2]) dX7_spells_13 (aMet_of e2 (m_J0_charAt_5068e (l1) ql1 l2 S1)) g_X7_spells_64 rfl ql1 dd_J0_charAt_5068e rfl rfl (Nat.le_of_ble_eq_true rfl) (Nat.le_of_ble_eq_true rfl) (Nat.le_of_ble_eq_true rfl) ?_
      refine x_b (fun r3_ S3 e3 => ?_)
      refine x_callVv (As := [.int r2_]) dX7_spells_16 (aMet_of e3 (m_X7_must hM r2_ S2)) g_X7_spells_68 rfl hM.1 rfl dd_X7_must rfl rfl (Nat.le_of_ble_eq_true rfl) (Nat.le_of_ble_eq_true rfl) (Nat.le_of_ble_eq_true rfl) ?_
      refine x_iincL (w := (1 : Int32)) dX7_spells_19 rfl (by decide) (Nat.le_of_ble_eq_true rfl) rfl (fun x4 => ?_)
      refine x_goto (tgt := 2) dX7_spells_22 (by decide) ?_
      exact x_le (ih (l1) ql1 x4 S3) (And.intro rfl (And.intro rfl (And.intro rfl trivial)))
def f_X7_spells (p1 : Nat) (S : aSt) : Option (Unit × aSt) := (f_X7_spells_2 aF (p1) (0 : Int32) S)
set_option maxRecDepth 20000 in
set_option maxHeartbeats 4000000 in
theorem m_X7_spells {G : aG} (hM : aMo G) (p1 : Nat) (q1 : p1 < 13) (S : aSt) : aMet G yX7_spells uX7_spells 5 mk_v (f_X7_spells p1 S) [.ref (0), .ref (1000 + p1)] S := by
  refine x_met (cc := cX7_spells) (nL := 3) (ret := none) (L := [some (.ref (0)), some (.ref (1000 + p1)), none]) (by decide +kernel) rfl (And.intro rfl (And.intro rfl trivial)) (Nat.le_of_ble_eq_true rfl) ?_
  unfold f_X7_spells
  refine x_iconst (0 : Int32) dX7_spells_0 (by decide) ?_
  refine x_istore_n dX7_spells_1 rfl (Nat.le_of_ble_eq_true rfl) rfl ?_
  exact x_le (v_X7_spells_2 hM aF (p1) q1 (0 : Int32) S) (And.intro rfl (And.intro rfl (And.intro rfl trivial)))
theorem w_X7_figures_f51 : Cond.fieldLink yX7_figures.cls 51 (TX7 7).1 (TX7 7).2.1 (TX7 7).2.2.1 ∈ uX7_figures := List.mem_cons_of_mem _ (wU_r14 _ (List.mem_of_getElem? (i := 10) rfl))
theorem g_X7_figures_55 : GoodIn uX7_figures (wsV yX7_figures.cls 55 RX7 yX7_here uX7_here) := gU_V (wU_r14 _ (List.mem_of_getElem? (i := 16) rfl)) (wU_r14 _ (List.mem_of_getElem? (i := 17) rfl)) (wU_r14 _ (List.mem_of_getElem? (i := 18) rfl)) (wU_r1 _ (List.mem_of_getElem? (i := 5) rfl)) (wU_r14 _ (List.mem_of_getElem? (i := 19) rfl))
theorem g_X7_figures_41 : GoodIn uX7_figures (va_wsS yX7_figures.cls 41 yX7_in uX7_in) := gU_S (wU_r6 _ (List.mem_of_getElem? (i := 4) rfl)) (wU_r6 _ (List.mem_of_getElem? (i := 5) rfl)) (wU_r1 _ (List.mem_of_getElem? (i := 5) rfl)) (wU_r6 _ (List.mem_of_getElem? (i := 6) rfl))
theorem w_X7_figures_f45 : Cond.fieldLink yX7_figures.cls 45 (TX7 5).1 (TX7 5).2.1 (TX7 5).2.2.1 ∈ uX7_figures := List.mem_cons_of_mem _ (wU_r14 _ (List.mem_of_getElem? (i := 9) rfl))
def f_X7_figures_68 (r34 : Int32 → Int32 → aSt → Option (Int32 × aSt)) (l1 : Int32) (l2 : Int32) (S : aSt) : Option (Int32 × aSt) := (aB (f_X7_here S) (fun r6_ S6 => (aLt ((((10 : Int32) * l1) + r6_) - (48 : Int32)) (fun x7 => (aLt (aUi S6 (0) 5 ((S6.1 (0) 5) + (1 : Int32))) (fun S8 => (aLt (l2 + (1 : Int32)) (fun x9 => (r34 x7 x9 S8)))))))))
set_option maxRecDepth 20000 in
set_option maxHeartbeats 4000000 in
theorem v_X7_figures_68 {G : aG} (hM : aMo G) (r34 : Int32 → Int32 → aSt → Option (Int32 × aSt)) (hr34 : ∀ (l1 : Int32) (l2 : Int32) (S : aSt), aX G yX7_figures cX7_figures 3 (some .int) uX7_figures 3 mk_i (r34 l1 l2 S) 34 [some (.ref (0)), some (.int l1), some (.int l2)] [] S) (l1 : Int32) (l2 : Int32) (S : aSt) : aX G yX7_figures cX7_figures 3 (some .int) uX7_figures 3 mk_i (f_X7_figures_68 r34 l1 l2 S) 68 [some (.ref (0)), some (.int l1), some (.int l2)] [] S := by
  unfold f_X7_figures_68
  refine x_bipush (10 : Int32) dX7_figures_68 (by decide) ?_
  refine x_iload_n dX7_figures_70 rfl rfl ?_
  refine x_imul dX7_figures_71 ?_
  refine x_aload_n dX7_figures_72 rfl rfl ?_
  refine x_b (fun r6_ S6 e6 => ?_)
  refine x_callVi (As := []) dX7_figures_73 (aMet_of e6 (m_X7_here hM S)) g_X7_figures_55 rfl hM.1 rfl dd_X7_here rfl rfl (Nat.le_of_ble_eq_true rfl) (Nat.le_of_ble_eq_true rfl) (Nat.le_of_ble_eq_true rfl) ?_
  refine x_iadd dX7_figures_76 ?_
  refine x_bipush (48 : Int32) dX7_figures_77 (by decide) ?_
  refine x_isub dX7_figures_79 ?_
  refine x_lti (fun x7 => ?_)
  refine x_istore_n dX7_figures_80 rfl (Nat.le_of_ble_eq_true rfl) rfl ?_
  refine x_aload_n dX7_figures_81 rfl rfl ?_
  refine x_dup dX7_figures_82 rfl ?_
  refine x_getI (k := 0) (j := 5) dX7_figures_83 hM.1 rfl rfl (Nat.le_of_ble_eq_true rfl) (fun w h => List.mem_cons_of_mem _ (inlX7 w h)) w_X7_figures_f45 ?_
  refine x_iconst (1 : Int32) dX7_figures_86 (by decide) ?_
  refine x_iadd dX7_figures_87 ?_
  refine x_putI (k := 0) (j := 5) dX7_figures_88 hM.1 rfl rfl (Nat.le_of_ble_eq_true rfl) (fun w h => List.mem_cons_of_mem _ (inlX7 w h)) w_X7_figures_f45 tyX7 tyX7_ok nmX7 rfl (by decide +kernel) ?_
  refine x_ltS (fun S8 => ?_)
  refine x_iincL (w := (1 : Int32)) dX7_figures_91 rfl (by decide) (Nat.le_of_ble_eq_true rfl) rfl (fun x9 => ?_)
  refine x_goto (tgt := 34) dX7_figures_94 (by decide) ?_
  exact x_le (hr34 x7 x9 S8) (And.intro rfl (And.intro rfl (And.intro rfl trivial)))
def f_X7_figures_34  : Nat → Int32 → Int32 → aSt → Option (Int32 × aSt)
  | 0, _, _, _ => none
  | n + 1, l1, l2, S => (if (2 : Int32) ≤ l2 then (some (l1, S)) else (if (S.1 (0) 7) = 0 then (aB (f_X7_here S) (fun r4_ S4 => (aB (f_X7_in r4_ (48 : Int32) (57 : Int32) S4) (fun r5_ S5 => (if r5_ = 0 then (some (l1, S5)) else (if l2 = 0 then (f_X7_figures_68 (fun l1 l2 S => (f_X7_figures_34 n l1 l2 S)) l1 l2 S5) else (if l1 ≤ 0 then (some (l1, S5)) else (f_X7_figures_68 (fun l1 l2 S => (f_X7_figures_34 n l1 l2 S)) l1 l2 S5)))))))) else (some (l1, S))))
set_option maxRecDepth 20000 in
set_option maxHeartbeats 4000000 in
theorem v_X7_figures_34 {G : aG} (hM : aMo G) : ∀ (n : Nat) (l1 : Int32) (l2 : Int32) (S : aSt), aX G yX7_figures cX7_figures 3 (some .int) uX7_figures 3 mk_i (f_X7_figures_34 n l1 l2 S) 34 [some (.ref (0)), some (.int l1), some (.int l2)] [] S := by
  intro n
  induction n with
  | zero => intro l1 l2 S; exact x_none
  | succ n ih =>
    intro l1 l2 S
    unfold f_X7_figures_34
    refine x_iload_n dX7_figures_34 rfl rfl ?_
    refine x_iconst (2 : Int32) dX7_figures_35 (by decide) ?_
    refine x_icmp_ge (tgt := 97) dX7_figures_36 (by decide) ?_ ?_
    · refine x_iload_n dX7_figures_97 rfl rfl ?_
      exact x_iret dX7_figures_98 rfl
    · refine x_aload_n dX7_figures_39 rfl rfl ?_
      refine x_getI (k := 0) (j := 7) dX7_figures_40 hM.1 rfl rfl (Nat.le_of_ble_eq_true rfl) (fun w h => List.mem_cons_of_mem _ (inlX7 w h)) w_X7_figures_f51 ?_
      refine x_if_ne (tgt := 97) dX7_figures_43 (by decide) ?_ ?_
      · refine x_iload_n dX7_figures_97 rfl rfl ?_
        exact x_iret dX7_figures_98 rfl
      · refine x_aload_n dX7_figures_46 rfl rfl ?_
        refine x_b (fun r4_ S4 e4 => ?_)
        refine x_callVi (As := []) dX7_figures_47 (aMet_of e4 (m_X7_here hM S)) g_X7_figures_55 rfl hM.1 rfl dd_X7_here rfl rfl (Nat.le_of_ble_eq_true rfl) (Nat.le_of_ble_eq_true rfl) (Nat.le_of_ble_eq_true rfl) ?_
        refine x_bipush (48 : Int32) dX7_figures_50 (by decide) ?_
        refine x_bipush (57 : Int32) dX7_figures_52 (by decide) ?_
        refine x_b (fun r5_ S5 e5 => ?_)
        refine x_callSi (As := [.int r4_, .int (48 : Int32), .int (57 : Int32)]) dX7_figures_54 (aMet_of e5 (m_X7_in r4_ (48 : Int32) (57 : Int32) S4)) g_X7_figures_41 rfl dd_X7_in rfl rfl (Nat.le_of_ble_eq_true rfl) (Nat.le_of_ble_eq_true rfl) (Nat.le_of_ble_eq_true rfl) ?_
        refine x_if_eq (tgt := 97) dX7_figures_57 (by decide) ?_ ?_
        · refine x_iload_n dX7_figures_97 rfl rfl ?_
          exact x_iret dX7_figures_98 rfl
        · refine x_iload_n dX7_figures_60 rfl rfl ?_
          refine x_if_eq (tgt := 68) dX7_figures_61 (by decide) ?_ ?_
          · exact x_le (v_X7_figures_68 hM (fun l1 l2 S => (f_X7_figures_34 n l1 l2 S)) ih l1 l2 S5) (And.intro rfl (And.intro rfl (And.intro rfl trivial)))
          · refine x_iload_n dX7_figures_64 rfl rfl ?_
            refine x_if_le (tgt := 97) dX7_figures_65 (by decide) ?_ ?_
            · refine x_iload_n dX7_figures_97 rfl rfl ?_
              exact x_iret dX7_figures_98 rfl
            · exact x_le (v_X7_figures_68 hM (fun l1 l2 S => (f_X7_figures_34 n l1 l2 S)) ih l1 l2 S5) (And.intro rfl (And.intro rfl (And.intro rfl trivial)))
def f_X7_figures_27  (s0 : Int32) (S : aSt) : Option (Int32 × aSt) := (if s0 = 0 ∨ s0 = 1 then (aLt (aUi S (0) 7 s0) (fun S3 => (f_X7_figures_34 aF (0 : Int32) (0 : Int32) S3))) else none)
set_option maxRecDepth 20000 in
set_option maxHeartbeats 4000000 in
theorem v_X7_figures_27 {G : aG} (hM : aMo G) (s0 : Int32) (S : aSt) : aX G yX7_figures cX7_figures 3 (some .int) uX7_figures 3 mk_i (f_X7_figures_27 s0 S) 27 [some (.ref (0)), none, none] [.int s0, .ref (0)] S := by
  unfold f_X7_figures_27
  refine x_putZ (k := 0) (j := 7) dX7_figures_27 hM.1 rfl rfl (Nat.le_of_ble_eq_true rfl) (fun w h => List.mem_cons_of_mem _ (inlX7 w h)) w_X7_figures_f51 tyX7 tyX7_ok nmX7 rfl (by decide +kernel) ?_
  refine x_ltS (fun S3 => ?_)
  refine x_iconst (0 : Int32) dX7_figures_30 (by decide) ?_
  refine x_istore_n dX7_figures_31 rfl (Nat.le_of_ble_eq_true rfl) rfl ?_
  refine x_iconst (0 : Int32) dX7_figures_32 (by decide) ?_
  refine x_istore_n dX7_figures_33 rfl (Nat.le_of_ble_eq_true rfl) rfl ?_
  exact x_le (v_X7_figures_34 hM aF (0 : Int32) (0 : Int32) S3) (And.intro rfl (And.intro rfl (And.intro rfl trivial)))
def f_X7_figures_22   (S : aSt) : Option (Int32 × aSt) := (f_X7_figures_27 (1 : Int32) S)
set_option maxRecDepth 20000 in
set_option maxHeartbeats 4000000 in
theorem v_X7_figures_22 {G : aG} (hM : aMo G)  (S : aSt) : aX G yX7_figures cX7_figures 3 (some .int) uX7_figures 3 mk_i (f_X7_figures_22 S) 22 [some (.ref (0)), none, none] [.ref (0)] S := by
  unfold f_X7_figures_22
  refine x_iconst (1 : Int32) dX7_figures_22 (by decide) ?_
  refine x_goto (tgt := 27) dX7_figures_23 (by decide) ?_
  exact x_le (v_X7_figures_27 hM (1 : Int32) S) (And.intro rfl trivial)
def f_X7_figures  (S : aSt) : Option (Int32 × aSt) := (if (S.1 (0) 7) = 0 then (aB (f_X7_here S) (fun r1_ S1 => (aB (f_X7_in r1_ (48 : Int32) (57 : Int32) S1) (fun r2_ S2 => (if r2_ = 0 then (f_X7_figures_22 S2) else (f_X7_figures_27 (0 : Int32) S2)))))) else (f_X7_figures_22 S))
set_option maxRecDepth 20000 in
set_option maxHeartbeats 4000000 in
theorem m_X7_figures {G : aG} (hM : aMo G)  (S : aSt) : aMet G yX7_figures uX7_figures 3 mk_i (f_X7_figures S) [.ref (0)] S := by
  refine x_met (cc := cX7_figures) (nL := 3) (ret := (some .int)) (L := [some (.ref (0)), none, none]) (by decide +kernel) rfl (And.intro rfl trivial) (Nat.le_of_ble_eq_true rfl) ?_
  unfold f_X7_figures
  refine x_aload_n dX7_figures_0 rfl rfl ?_
  refine x_aload_n dX7_figures_1 rfl rfl ?_
  refine x_getI (k := 0) (j := 7) dX7_figures_2 hM.1 rfl rfl (Nat.le_of_ble_eq_true rfl) (fun w h => List.mem_cons_of_mem _ (inlX7 w h)) w_X7_figures_f51 ?_
  refine x_if_ne (tgt := 22) dX7_figures_5 (by decide) ?_ ?_
  · exact x_le (v_X7_figures_22 hM S) (And.intro rfl trivial)
  · refine x_aload_n dX7_figures_8 rfl rfl ?_
    refine x_b (fun r1_ S1 e1 => ?_)
    refine x_callVi (As := []) dX7_figures_9 (aMet_of e1 (m_X7_here hM S)) g_X7_figures_55 rfl hM.1 rfl dd_X7_here rfl rfl (Nat.le_of_ble_eq_true rfl) (Nat.le_of_ble_eq_true rfl) (Nat.le_of_ble_eq_true rfl) ?_
    refine x_bipush (48 : Int32) dX7_figures_12 (by decide) ?_
    refine x_bipush (57 : Int32) dX7_figures_14 (by decide) ?_
    refine x_b (fun r2_ S2 e2 => ?_)
    refine x_callSi (As := [.int r1_, .int (48 : Int32), .int (57 : Int32)]) dX7_figures_16 (aMet_of e2 (m_X7_in r1_ (48 : Int32) (57 : Int32) S1)) g_X7_figures_41 rfl dd_X7_in rfl rfl (Nat.le_of_ble_eq_true rfl) (Nat.le_of_ble_eq_true rfl) (Nat.le_of_ble_eq_true rfl) ?_
    refine x_if_ne (tgt := 26) dX7_figures_19 (by decide) ?_ ?_
    · refine x_iconst (0 : Int32) dX7_figures_26 (by decide) ?_
      exact x_le (v_X7_figures_27 hM (0 : Int32) S2) (And.intro rfl trivial)
    · exact x_le (v_X7_figures_22 hM S2) (And.intro rfl trivial)
theorem g_X7_among_59 : GoodIn uX7_among (wsV yX7_among.cls 59 RJ0 yJ0_length_8abf5 uJ0_length_8abf5) := gU_V (wU_r15 _ (List.mem_of_getElem? (i := 4) rfl)) (wU_r8 _ (List.mem_of_getElem? (i := 1) rfl)) (wU_r8 _ (List.mem_of_getElem? (i := 2) rfl)) (wU_r8 _ (List.mem_of_getElem? (i := 3) rfl)) (wU_r8 _ (List.mem_of_getElem? (i := 4) rfl))
theorem g_X7_among_55 : GoodIn uX7_among (wsV yX7_among.cls 55 RX7 yX7_here uX7_here) := gU_V (wU_r14 _ (List.mem_of_getElem? (i := 16) rfl)) (wU_r14 _ (List.mem_of_getElem? (i := 17) rfl)) (wU_r14 _ (List.mem_of_getElem? (i := 18) rfl)) (wU_r1 _ (List.mem_of_getElem? (i := 5) rfl)) (wU_r14 _ (List.mem_of_getElem? (i := 19) rfl))
theorem g_X7_among_64 : GoodIn uX7_among (wsV yX7_among.cls 64 RJ0 yJ0_charAt_5068e uJ0_charAt_5068e) := gU_V (wU_r15 _ (List.mem_of_getElem? (i := 5) rfl)) (wU_r8 _ (List.mem_of_getElem? (i := 13) rfl)) (wU_r8 _ (List.mem_of_getElem? (i := 14) rfl)) (wU_r8 _ (List.mem_of_getElem? (i := 3) rfl)) (wU_r8 _ (List.mem_of_getElem? (i := 15) rfl))
theorem w_X7_among_f45 : Cond.fieldLink yX7_among.cls 45 (TX7 5).1 (TX7 5).2.1 (TX7 5).2.2.1 ∈ uX7_among := List.mem_cons_of_mem _ (wU_r14 _ (List.mem_of_getElem? (i := 9) rfl))
def f_X7_among_2  : Nat → Nat → Int32 → aSt → Option (Int32 × aSt)
  | 0, _, _, _ => none
  | n + 1, l1, l2, S => (aB (f_J0_length_8abf5 (l1) S) (fun r1_ S1 => (if r1_ ≤ l2 then (some ((-1 : Int32), S1)) else (aB (f_X7_here S1) (fun r2_ S2 => (aB (f_J0_charAt_5068e (l1) l2 S2) (fun r3_ S3 => (if r2_ = r3_ then (aLt (aUi S3 (0) 5 ((S3.1 (0) 5) + (1 : Int32))) (fun S5 => (some (l2, S5)))) else (aLt (l2 + (1 : Int32)) (fun x4 => (f_X7_among_2 n (l1) x4 S3)))))))))))
set_option maxRecDepth 20000 in
set_option maxHeartbeats 4000000 in
theorem v_X7_among_2 {G : aG} (hM : aMo G) : ∀ (n : Nat) (l1 : Nat) (ql1 : l1 < 13) (l2 : Int32) (S : aSt), aX G yX7_among cX7_among 3 (some .int) uX7_among 5 mk_i (f_X7_among_2 n l1 l2 S) 2 [some (.ref (0)), some (.ref (1000 + l1)), some (.int l2)] [] S := by
  intro n
  induction n with
  | zero => intro l1 ql1 l2 S; exact x_none
  | succ n ih =>
    intro l1 ql1 l2 S
    unfold f_X7_among_2
    refine x_iload_n dX7_among_2 rfl rfl ?_
    refine x_aload_n dX7_among_3 rfl rfl ?_
    refine x_b (fun r1_ S1 e1 => ?_)
    refine x_callKi (As := []) dX7_among_4 (aMet_of e1 (m_J0_length_8abf5 (l1) ql1 S)) g_X7_among_59 rfl ql1 dd_J0_length_8abf5 rfl rfl (Nat.le_of_ble_eq_true rfl) (Nat.le_of_ble_eq_true rfl) (Nat.le_of_ble_eq_true rfl) ?_
    refine x_icmp_ge (tgt := 40) dX7_among_7 (by decide) ?_ ?_
    · refine x_iconst (-1 : Int32) dX7_among_40 (by decide) ?_
      exact x_iret dX7_among_41 rfl
    · refine x_aload_n dX7_among_10 rfl rfl ?_
      refine x_b (fun r2_ S2 e2 => ?_)
      refine x_callVi (As := []) dX7_among_11 (aMet_of e2 (m_X7_here hM S1)) g_X7_among_55 rfl hM.1 rfl dd_X7_here rfl rfl (Nat.le_of_ble_eq_true rfl) (Nat.le_of_ble_eq_true rfl) (Nat.le_of_ble_eq_true rfl) ?_
      refine x_aload_n dX7_among_14 rfl rfl ?_
      refine x_iload_n dX7_among_15 rfl rfl ?_
      refine x_b (fun r3_ S3 e3 => ?_)
      refine x_callKi (As := [.int l2]) dX7_among_16 (aMet_of e3 (m_J0_charAt_5068e (l1) ql1 l2 S2)) g_X7_among_64 rfl ql1 dd_J0_charAt_5068e rfl rfl (Nat.le_of_ble_eq_true rfl) (Nat.le_of_ble_eq_true rfl) (Nat.le_of_ble_eq_true rfl) ?_
      refine x_icmp_ne (tgt := 34) dX7_among_19 (by decide) ?_ ?_
      · refine x_iincL (w := (1 : Int32)) dX7_among_34 rfl (by decide) (Nat.le_of_ble_eq_true rfl) rfl (fun x4 => ?_)
        refine x_goto (tgt := 2) dX7_among_37 (by decide) ?_
        exact x_le (ih (l1) ql1 x4 S3) (And.intro rfl (And.intro rfl (And.intro rfl trivial)))
      · refine x_aload_n dX7_among_22 rfl rfl ?_
        refine x_dup dX7_among_23 rfl ?_
        refine x_getI (k := 0) (j := 5) dX7_among_24 hM.1 rfl rfl (Nat.le_of_ble_eq_true rfl) (fun w h => List.mem_cons_of_mem _ (inlX7 w h)) w_X7_among_f45 ?_
        refine x_iconst (1 : Int32) dX7_among_27 (by decide) ?_
        refine x_iadd dX7_among_28 ?_
        refine x_putI (k := 0) (j := 5) dX7_among_29 hM.1 rfl rfl (Nat.le_of_ble_eq_true rfl) (fun w h => List.mem_cons_of_mem _ (inlX7 w h)) w_X7_among_f45 tyX7 tyX7_ok nmX7 rfl (by decide +kernel) ?_
        refine x_ltS (fun S5 => ?_)
        refine x_iload_n dX7_among_32 rfl rfl ?_
        exact x_iret dX7_among_33 rfl
def f_X7_among (p1 : Nat) (S : aSt) : Option (Int32 × aSt) := (f_X7_among_2 aF (p1) (0 : Int32) S)
set_option maxRecDepth 20000 in
set_option maxHeartbeats 4000000 in
theorem m_X7_among {G : aG} (hM : aMo G) (p1 : Nat) (q1 : p1 < 13) (S : aSt) : aMet G yX7_among uX7_among 5 mk_i (f_X7_among p1 S) [.ref (0), .ref (1000 + p1)] S := by
  refine x_met (cc := cX7_among) (nL := 3) (ret := (some .int)) (L := [some (.ref (0)), some (.ref (1000 + p1)), none]) (by decide +kernel) rfl (And.intro rfl (And.intro rfl trivial)) (Nat.le_of_ble_eq_true rfl) ?_
  unfold f_X7_among
  refine x_iconst (0 : Int32) dX7_among_0 (by decide) ?_
  refine x_istore_n dX7_among_1 rfl (Nat.le_of_ble_eq_true rfl) rfl ?_
  exact x_le (v_X7_among_2 hM aF (p1) q1 (0 : Int32) S) (And.intro rfl (And.intro rfl (And.intro rfl trivial)))
theorem w_X7_emits_f51 : Cond.fieldLink yX7_emits.cls 51 (TX7 7).1 (TX7 7).2.1 (TX7 7).2.2.1 ∈ uX7_emits := List.mem_cons_of_mem _ (wU_r14 _ (List.mem_of_getElem? (i := 10) rfl))
theorem w_X7_emits_f9 : Cond.fieldLink yX7_emits.cls 9 (TX7 1).1 (TX7 1).2.1 (TX7 1).2.2.1 ∈ uX7_emits := List.mem_cons_of_mem _ (wU_r4 _ (List.mem_of_getElem? (i := 14) rfl))
theorem w_X7_emits_f72 : Cond.fieldLink yX7_emits.cls 72 (TX7 4).1 (TX7 4).2.1 (TX7 4).2.2.1 ∈ uX7_emits := List.mem_cons_of_mem _ (wU_r14 _ (List.mem_of_getElem? (i := 7) rfl))
def f_X7_emits (p1 : Int32) (S : aSt) : Option (Unit × aSt) := (if (S.1 (0) 7) = 0 then (if ((274 : Int32) + (S.1 (0) 4)) < 0 ∨ 979 ≤ (((274 : Int32) + (S.1 (0) 4))).toNatClampNeg then none else (if (((279 : Int32) + ((140 : Int32) * (S.1 (0) 4))) + (S.1 (1) (((274 : Int32) + (S.1 (0) 4))).toNatClampNeg)) < 0 ∨ 979 ≤ ((((279 : Int32) + ((140 : Int32) * (S.1 (0) 4))) + (S.1 (1) (((274 : Int32) + (S.1 (0) 4))).toNatClampNeg))).toNatClampNeg then none else (aLt (aUi S (1) ((((279 : Int32) + ((140 : Int32) * (S.1 (0) 4))) + (S.1 (1) (((274 : Int32) + (S.1 (0) 4))).toNatClampNeg))).toNatClampNeg p1) (fun S1 => (if ((274 : Int32) + (S1.1 (0) 4)) < 0 ∨ 979 ≤ (((274 : Int32) + (S1.1 (0) 4))).toNatClampNeg then none else (if ((274 : Int32) + (S1.1 (0) 4)) < 0 ∨ 979 ≤ (((274 : Int32) + (S1.1 (0) 4))).toNatClampNeg then none else (aLt (aUi S1 (1) (((274 : Int32) + (S1.1 (0) 4))).toNatClampNeg ((S1.1 (1) (((274 : Int32) + (S1.1 (0) 4))).toNatClampNeg) + (1 : Int32))) (fun S2 => (some ((), S2)))))))))) else (some ((), S)))
set_option maxRecDepth 20000 in
set_option maxHeartbeats 4000000 in
theorem m_X7_emits {G : aG} (hM : aMo G) (p1 : Int32) (S : aSt) : aMet G yX7_emits uX7_emits 2 mk_v (f_X7_emits p1 S) [.ref (0), .int p1] S := by
  refine x_met (cc := cX7_emits) (nL := 2) (ret := none) (L := [some (.ref (0)), some (.int p1)]) (by decide +kernel) rfl (And.intro rfl (And.intro rfl trivial)) (Nat.le_of_ble_eq_true rfl) ?_
  unfold f_X7_emits
  refine x_aload_n dX7_emits_0 rfl rfl ?_
  refine x_getI (k := 0) (j := 7) dX7_emits_1 hM.1 rfl rfl (Nat.le_of_ble_eq_true rfl) (fun w h => List.mem_cons_of_mem _ (inlX7 w h)) w_X7_emits_f51 ?_
  refine x_if_ne (tgt := 56) dX7_emits_4 (by decide) ?_ ?_
  · exact x_vret dX7_emits_56 rfl
  · refine x_aload_n dX7_emits_7 rfl rfl ?_
    refine x_getR (r := 1) (k := 0) (j := 1) dX7_emits_8 hM.1 rfl rfl (Nat.le_of_ble_eq_true rfl) (fun w h => List.mem_cons_of_mem _ (inlX7 w h)) w_X7_emits_f9 ?_
    refine x_sipush (279 : Int32) dX7_emits_11 (by decide) ?_
    refine x_sipush (140 : Int32) dX7_emits_14 (by decide) ?_
    refine x_aload_n dX7_emits_17 rfl rfl ?_
    refine x_getI (k := 0) (j := 4) dX7_emits_18 hM.1 rfl rfl (Nat.le_of_ble_eq_true rfl) (fun w h => List.mem_cons_of_mem _ (inlX7 w h)) w_X7_emits_f72 ?_
    refine x_imul dX7_emits_21 ?_
    refine x_iadd dX7_emits_22 ?_
    refine x_aload_n dX7_emits_23 rfl rfl ?_
    refine x_getR (r := 1) (k := 0) (j := 1) dX7_emits_24 hM.1 rfl rfl (Nat.le_of_ble_eq_true rfl) (fun w h => List.mem_cons_of_mem _ (inlX7 w h)) w_X7_emits_f9 ?_
    refine x_sipush (274 : Int32) dX7_emits_27 (by decide) ?_
    refine x_aload_n dX7_emits_30 rfl rfl ?_
    refine x_getI (k := 0) (j := 4) dX7_emits_31 hM.1 rfl rfl (Nat.le_of_ble_eq_true rfl) (fun w h => List.mem_cons_of_mem _ (inlX7 w h)) w_X7_emits_f72 ?_
    refine x_iadd dX7_emits_34 ?_
    refine x_iald dX7_emits_35 hM.2.1 ?_
    refine x_iadd dX7_emits_36 ?_
    refine x_iload_n dX7_emits_37 rfl rfl ?_
    refine x_iast dX7_emits_38 hM.2.1 ?_
    refine x_ltS (fun S1 => ?_)
    refine x_aload_n dX7_emits_39 rfl rfl ?_
    refine x_getR (r := 1) (k := 0) (j := 1) dX7_emits_40 hM.1 rfl rfl (Nat.le_of_ble_eq_true rfl) (fun w h => List.mem_cons_of_mem _ (inlX7 w h)) w_X7_emits_f9 ?_
    refine x_sipush (274 : Int32) dX7_emits_43 (by decide) ?_
    refine x_aload_n dX7_emits_46 rfl rfl ?_
    refine x_getI (k := 0) (j := 4) dX7_emits_47 hM.1 rfl rfl (Nat.le_of_ble_eq_true rfl) (fun w h => List.mem_cons_of_mem _ (inlX7 w h)) w_X7_emits_f72 ?_
    refine x_iadd dX7_emits_50 ?_
    refine x_dup2 dX7_emits_51 rfl rfl ?_
    refine x_iald dX7_emits_52 hM.2.1 ?_
    refine x_iconst (1 : Int32) dX7_emits_53 (by decide) ?_
    refine x_iadd dX7_emits_54 ?_
    refine x_iast dX7_emits_55 hM.2.1 ?_
    refine x_ltS (fun S2 => ?_)
    exact x_vret dX7_emits_56 rfl
theorem dd_X7_factor : yX7_factor.cls = RX7 ∧ yX7_factor.cls ≠ "java/lang/invoke/MethodHandle" ∧ yX7_factor.cls ≠ "java/lang/invoke/VarHandle" ∧ (parseMethodDescriptor yX7_factor.desc).map (fun d => d.parameters.length) = some 0 := by decide +kernel
theorem dd_X7_emits : yX7_emits.cls = RX7 ∧ yX7_emits.cls ≠ "java/lang/invoke/MethodHandle" ∧ yX7_emits.cls ≠ "java/lang/invoke/VarHandle" ∧ (parseMethodDescriptor yX7_emits.desc).map (fun d => d.parameters.length) = some 1 := by decide +kernel
theorem dd_X7_among : yX7_among.cls = RX7 ∧ yX7_among.cls ≠ "java/lang/invoke/MethodHandle" ∧ yX7_among.cls ≠ "java/lang/invoke/VarHandle" ∧ (parseMethodDescriptor yX7_among.desc).map (fun d => d.parameters.length) = some 1 := by decide +kernel
theorem dd_X7_some : yX7_some.cls = RX7 ∧ yX7_some.cls ≠ "java/lang/invoke/MethodHandle" ∧ yX7_some.cls ≠ "java/lang/invoke/VarHandle" ∧ (parseMethodDescriptor yX7_some.desc).map (fun d => d.parameters.length) = some 0 := by decide +kernel
theorem dd_X7_figures : yX7_figures.cls = RX7 ∧ yX7_figures.cls ≠ "java/lang/invoke/MethodHandle" ∧ yX7_figures.cls ≠ "java/lang/invoke/VarHandle" ∧ (parseMethodDescriptor yX7_figures.desc).map (fun d => d.parameters.length) = some 0 := by decide +kernel
theorem dd_X7_every : yX7_every.cls = RX7 ∧ yX7_every.cls ≠ "java/lang/invoke/MethodHandle" ∧ yX7_every.cls ≠ "java/lang/invoke/VarHandle" ∧ (parseMethodDescriptor yX7_every.desc).map (fun d => d.parameters.length) = some 0 := by decide +kernel
theorem g_X7_every_78 : GoodIn uX7_every (wsV yX7_every.cls 78 RX7 yX7_factor uX7_factor) := gU_V (wU_r16 _ (List.mem_of_getElem? (i := 2) rfl)) (wU_r16 _ (List.mem_of_getElem? (i := 3) rfl)) (wU_r16 _ (List.mem_of_getElem? (i := 4) rfl)) (wU_r1 _ (List.mem_of_getElem? (i := 5) rfl)) (wU_r16 _ (List.mem_of_getElem? (i := 5) rfl))
theorem w_X7_every_f51 : Cond.fieldLink yX7_every.cls 51 (TX7 7).1 (TX7 7).2.1 (TX7 7).2.2.1 ∈ uX7_every := List.mem_cons_of_mem _ (wU_r14 _ (List.mem_of_getElem? (i := 10) rfl))
theorem g_X7_every_55 : GoodIn uX7_every (wsV yX7_every.cls 55 RX7 yX7_here uX7_here) := gU_V (wU_r14 _ (List.mem_of_getElem? (i := 16) rfl)) (wU_r14 _ (List.mem_of_getElem? (i := 17) rfl)) (wU_r14 _ (List.mem_of_getElem? (i := 18) rfl)) (wU_r1 _ (List.mem_of_getElem? (i := 5) rfl)) (wU_r14 _ (List.mem_of_getElem? (i := 19) rfl))
theorem w_X7_every_f45 : Cond.fieldLink yX7_every.cls 45 (TX7 5).1 (TX7 5).2.1 (TX7 5).2.2.1 ∈ uX7_every := List.mem_cons_of_mem _ (wU_r14 _ (List.mem_of_getElem? (i := 9) rfl))
theorem g_X7_every_81 : GoodIn uX7_every (wsV yX7_every.cls 81 RX7 yX7_emits uX7_emits) := gU_V (wU_r15 _ (List.mem_of_getElem? (i := 21) rfl)) (wU_r15 _ (List.mem_of_getElem? (i := 22) rfl)) (wU_r15 _ (List.mem_of_getElem? (i := 23) rfl)) (wU_r1 _ (List.mem_of_getElem? (i := 5) rfl)) (wU_r16 _ (List.mem_of_getElem? (i := 0) rfl))
def f_X7_every_4 (c_X7_every : aSt → Option (Unit × aSt)) (c_X7_factor : aSt → Option (Unit × aSt)) (c_X7_some : aSt → Option (Unit × aSt))  : Nat → aSt → Option (Unit × aSt)
  | 0, _ => none
  | n + 1, S => (if (S.1 (0) 7) = 0 then (aB (f_X7_here S) (fun r2_ S2 => (if r2_ = (38 : Int32) then (aLt (aUi S2 (0) 5 ((S2.1 (0) 5) + (1 : Int32))) (fun S3 => (aB (c_X7_factor S3) (fun r4_ S4 => (aB (f_X7_emits (-2 : Int32) S4) (fun r5_ S5 => (f_X7_every_4 c_X7_every c_X7_factor c_X7_some n S5))))))) else (some ((), S2))))) else (some ((), S)))
set_option maxRecDepth 20000 in
set_option maxHeartbeats 4000000 in
theorem v_X7_every_4 {G : aG} (hM : aMo G) {d dc : Nat} (hdc : dc + 1 ≤ d) (hd0 : 6 ≤ d) (c_X7_every : aSt → Option (Unit × aSt)) (hc_X7_every : ∀  (S : aSt), aMet G yX7_every uX7_every dc mk_v (c_X7_every  S) [.ref (0)] S) (c_X7_factor : aSt → Option (Unit × aSt)) (hc_X7_factor : ∀  (S : aSt), aMet G yX7_factor uX7_factor dc mk_v (c_X7_factor  S) [.ref (0)] S) (c_X7_some : aSt → Option (Unit × aSt)) (hc_X7_some : ∀  (S : aSt), aMet G yX7_some uX7_some dc mk_v (c_X7_some  S) [.ref (0)] S) : ∀ (n : Nat)  (S : aSt), aX G yX7_every cX7_every 1 none uX7_every d mk_v (f_X7_every_4 c_X7_every c_X7_factor c_X7_some n S) 4 [some (.ref (0))] [] S := by
  intro n
  induction n with
  | zero => intro  S; exact x_none
  | succ n ih =>
    intro  S
    unfold f_X7_every_4
    refine x_aload_n dX7_every_4 rfl rfl ?_
    refine x_getI (k := 0) (j := 7) dX7_every_5 hM.1 rfl rfl (Nat.le_of_ble_eq_true rfl) (fun w h => List.mem_cons_of_mem _ (inlX7 w h)) w_X7_every_f51 ?_
    refine x_if_ne (tgt := 43) dX7_every_8 (by decide) ?_ ?_
    · exact x_vret dX7_every_43 rfl
    · refine x_aload_n dX7_every_11 rfl rfl ?_
      refine x_b (fun r2_ S2 e2 => ?_)
      refine x_callVi (As := []) dX7_every_12 (aMet_of e2 (m_X7_here hM S)) g_X7_every_55 rfl hM.1 rfl dd_X7_here rfl rfl (Nat.le_of_ble_eq_true rfl) (Nat.le_trans (Nat.le_of_ble_eq_true rfl : 3 ≤ 6) hd0) (Nat.le_of_ble_eq_true rfl) ?_
      refine x_bipush (38 : Int32) dX7_every_15 (by decide) ?_
      refine x_icmp_ne (tgt := 43) dX7_every_17 (by decide) ?_ ?_
      · exact x_vret dX7_every_43 rfl
      · refine x_aload_n dX7_every_20 rfl rfl ?_
        refine x_dup dX7_every_21 rfl ?_
        refine x_getI (k := 0) (j := 5) dX7_every_22 hM.1 rfl rfl (Nat.le_of_ble_eq_true rfl) (fun w h => List.mem_cons_of_mem _ (inlX7 w h)) w_X7_every_f45 ?_
        refine x_iconst (1 : Int32) dX7_every_25 (by decide) ?_
        refine x_iadd dX7_every_26 ?_
        refine x_putI (k := 0) (j := 5) dX7_every_27 hM.1 rfl rfl (Nat.le_of_ble_eq_true rfl) (fun w h => List.mem_cons_of_mem _ (inlX7 w h)) w_X7_every_f45 tyX7 tyX7_ok nmX7 rfl (by decide +kernel) ?_
        refine x_ltS (fun S3 => ?_)
        refine x_aload_n dX7_every_30 rfl rfl ?_
        refine x_b (fun r4_ S4 e4 => ?_)
        refine x_callVv (As := []) dX7_every_31 (aMet_of e4 (hc_X7_factor S3)) g_X7_every_78 rfl hM.1 rfl dd_X7_factor rfl rfl (Nat.le_of_ble_eq_true rfl) hdc (Nat.le_of_ble_eq_true rfl) ?_
        refine x_aload_n dX7_every_34 rfl rfl ?_
        refine x_bipush (-2 : Int32) dX7_every_35 (by decide) ?_
        refine x_b (fun r5_ S5 e5 => ?_)
        refine x_callVv (As := [.int (-2 : Int32)]) dX7_every_37 (aMet_of e5 (m_X7_emits hM (-2 : Int32) S4)) g_X7_every_81 rfl hM.1 rfl dd_X7_emits rfl rfl (Nat.le_of_ble_eq_true rfl) (Nat.le_trans (Nat.le_of_ble_eq_true rfl : 3 ≤ 6) hd0) (Nat.le_of_ble_eq_true rfl) ?_
        refine x_goto (tgt := 4) dX7_every_40 (by decide) ?_
        exact x_le (ih  S5) (And.intro rfl trivial)
def f_X7_every (c_X7_every : aSt → Option (Unit × aSt)) (c_X7_factor : aSt → Option (Unit × aSt)) (c_X7_some : aSt → Option (Unit × aSt))  (S : aSt) : Option (Unit × aSt) := (aB (c_X7_factor S) (fun r1_ S1 => (f_X7_every_4 c_X7_every c_X7_factor c_X7_some aF S1)))
set_option maxRecDepth 20000 in
set_option maxHeartbeats 4000000 in
theorem m_X7_every {G : aG} (hM : aMo G) {d dc : Nat} (hdc : dc + 1 ≤ d) (hd0 : 6 ≤ d) (c_X7_every : aSt → Option (Unit × aSt)) (hc_X7_every : ∀  (S : aSt), aMet G yX7_every uX7_every dc mk_v (c_X7_every  S) [.ref (0)] S) (c_X7_factor : aSt → Option (Unit × aSt)) (hc_X7_factor : ∀  (S : aSt), aMet G yX7_factor uX7_factor dc mk_v (c_X7_factor  S) [.ref (0)] S) (c_X7_some : aSt → Option (Unit × aSt)) (hc_X7_some : ∀  (S : aSt), aMet G yX7_some uX7_some dc mk_v (c_X7_some  S) [.ref (0)] S)  (S : aSt) : aMet G yX7_every uX7_every d mk_v (f_X7_every c_X7_every c_X7_factor c_X7_some S) [.ref (0)] S := by
  refine x_met (cc := cX7_every) (nL := 1) (ret := none) (L := [some (.ref (0))]) (by decide +kernel) rfl (And.intro rfl trivial) (Nat.le_of_ble_eq_true rfl) ?_
  unfold f_X7_every
  refine x_aload_n dX7_every_0 rfl rfl ?_
  refine x_b (fun r1_ S1 e1 => ?_)
  refine x_callVv (As := []) dX7_every_1 (aMet_of e1 (hc_X7_factor S)) g_X7_every_78 rfl hM.1 rfl dd_X7_factor rfl rfl (Nat.le_of_ble_eq_true rfl) hdc (Nat.le_of_ble_eq_true rfl) ?_
  exact x_le (v_X7_every_4 hM hdc hd0 c_X7_every hc_X7_every c_X7_factor hc_X7_factor c_X7_some hc_X7_some aF S1) (And.intro rfl trivial)
theorem w_X7_factor_f51 : Cond.fieldLink yX7_factor.cls 51 (TX7 7).1 (TX7 7).2.1 (TX7 7).2.2.1 ∈ uX7_factor := List.mem_cons_of_mem _ (wU_r14 _ (List.mem_of_getElem? (i := 10) rfl))
theorem g_X7_factor_55 : GoodIn uX7_factor (wsV yX7_factor.cls 55 RX7 yX7_here uX7_here) := gU_V (wU_r14 _ (List.mem_of_getElem? (i := 16) rfl)) (wU_r14 _ (List.mem_of_getElem? (i := 17) rfl)) (wU_r14 _ (List.mem_of_getElem? (i := 18) rfl)) (wU_r1 _ (List.mem_of_getElem? (i := 5) rfl)) (wU_r14 _ (List.mem_of_getElem? (i := 19) rfl))
theorem g_X7_factor_89 : GoodIn uX7_factor (wsV yX7_factor.cls 89 RX7 yX7_among uX7_among) := gU_V (wU_r16 _ (List.mem_of_getElem? (i := 6) rfl)) (wU_r16 _ (List.mem_of_getElem? (i := 7) rfl)) (wU_r16 _ (List.mem_of_getElem? (i := 8) rfl)) (wU_r1 _ (List.mem_of_getElem? (i := 5) rfl)) (wU_r16 _ (List.mem_of_getElem? (i := 9) rfl))
theorem w_X7_factor_f75 : Cond.fieldLink yX7_factor.cls 75 (TX7 8).1 (TX7 8).2.1 (TX7 8).2.2.1 ∈ uX7_factor := List.mem_cons_of_mem _ (wU_r14 _ (List.mem_of_getElem? (i := 11) rfl))
theorem w_X7_factor_f45 : Cond.fieldLink yX7_factor.cls 45 (TX7 5).1 (TX7 5).2.1 (TX7 5).2.2.1 ∈ uX7_factor := List.mem_cons_of_mem _ (wU_r14 _ (List.mem_of_getElem? (i := 9) rfl))
theorem g_X7_factor_84 : GoodIn uX7_factor (wsV yX7_factor.cls 84 RX7 yX7_some uX7_some) := gU_V (wU_r15 _ (List.mem_of_getElem? (i := 14) rfl)) (wU_r15 _ (List.mem_of_getElem? (i := 15) rfl)) (wU_r15 _ (List.mem_of_getElem? (i := 16) rfl)) (wU_r1 _ (List.mem_of_getElem? (i := 5) rfl)) (wU_r15 _ (List.mem_of_getElem? (i := 17) rfl))
theorem g_X7_factor_68 : GoodIn uX7_factor (wsV yX7_factor.cls 68 RX7 yX7_must uX7_must) := gU_V (wU_r15 _ (List.mem_of_getElem? (i := 6) rfl)) (wU_r15 _ (List.mem_of_getElem? (i := 7) rfl)) (wU_r15 _ (List.mem_of_getElem? (i := 8) rfl)) (wU_r1 _ (List.mem_of_getElem? (i := 5) rfl)) (wU_r15 _ (List.mem_of_getElem? (i := 9) rfl))
theorem g_X7_factor_78 : GoodIn uX7_factor (wsV yX7_factor.cls 78 RX7 yX7_factor uX7_factor) := gU_V (wU_r16 _ (List.mem_of_getElem? (i := 2) rfl)) (wU_r16 _ (List.mem_of_getElem? (i := 3) rfl)) (wU_r16 _ (List.mem_of_getElem? (i := 4) rfl)) (wU_r1 _ (List.mem_of_getElem? (i := 5) rfl)) (wU_r16 _ (List.mem_of_getElem? (i := 5) rfl))
theorem g_X7_factor_81 : GoodIn uX7_factor (wsV yX7_factor.cls 81 RX7 yX7_emits uX7_emits) := gU_V (wU_r15 _ (List.mem_of_getElem? (i := 21) rfl)) (wU_r15 _ (List.mem_of_getElem? (i := 22) rfl)) (wU_r15 _ (List.mem_of_getElem? (i := 23) rfl)) (wU_r1 _ (List.mem_of_getElem? (i := 5) rfl)) (wU_r16 _ (List.mem_of_getElem? (i := 0) rfl))
theorem g_X7_factor_95 : GoodIn uX7_factor (wsV yX7_factor.cls 95 RX7 yX7_figures uX7_figures) := gU_V (wU_r15 _ (List.mem_of_getElem? (i := 10) rfl)) (wU_r15 _ (List.mem_of_getElem? (i := 11) rfl)) (wU_r15 _ (List.mem_of_getElem? (i := 12) rfl)) (wU_r1 _ (List.mem_of_getElem? (i := 5) rfl)) (wU_r15 _ (List.mem_of_getElem? (i := 13) rfl))
def f_X7_factor_169 (c_X7_every : aSt → Option (Unit × aSt)) (c_X7_factor : aSt → Option (Unit × aSt)) (c_X7_some : aSt → Option (Unit × aSt))  (l2 : Int32) (l3 : Int32) (s0 : Int32) (S : aSt) : Option (Unit × aSt) := (if s0 = 0 ∨ s0 = 1 then (aLt (aUi S (0) 7 s0) (fun S12 => (aB (f_X7_figures S12) (fun r13_ S13 => (aB (f_X7_emits ((l2 + ((8 : Int32) * l3)) + ((32 : Int32) * r13_)) S13) (fun r14_ S14 => (some ((), S14)))))))) else none)
set_option maxRecDepth 20000 in
set_option maxHeartbeats 4000000 in
theorem v_X7_factor_169 {G : aG} (hM : aMo G) {d dc : Nat} (hdc : dc + 1 ≤ d) (hd0 : 6 ≤ d) (c_X7_every : aSt → Option (Unit × aSt)) (hc_X7_every : ∀  (S : aSt), aMet G yX7_every uX7_every dc mk_v (c_X7_every  S) [.ref (0)] S) (c_X7_factor : aSt → Option (Unit × aSt)) (hc_X7_factor : ∀  (S : aSt), aMet G yX7_factor uX7_factor dc mk_v (c_X7_factor  S) [.ref (0)] S) (c_X7_some : aSt → Option (Unit × aSt)) (hc_X7_some : ∀  (S : aSt), aMet G yX7_some uX7_some dc mk_v (c_X7_some  S) [.ref (0)] S) (l2 : Int32) (l3 : Int32) (s0 : Int32) (S : aSt) : aX G yX7_factor cX7_factor 5 none uX7_factor d mk_v (f_X7_factor_169 c_X7_every c_X7_factor c_X7_some l2 l3 s0 S) 169 [some (.ref (0)), none, some (.int l2), some (.int l3), none] [.int s0, .ref (0)] S := by
  unfold f_X7_factor_169
  refine x_putZ (k := 0) (j := 7) dX7_factor_169 hM.1 rfl rfl (Nat.le_of_ble_eq_true rfl) (fun w h => List.mem_cons_of_mem _ (inlX7 w h)) w_X7_factor_f51 tyX7 tyX7_ok nmX7 rfl (by decide +kernel) ?_
  refine x_ltS (fun S12 => ?_)
  refine x_aload_n dX7_factor_172 rfl rfl ?_
  refine x_b (fun r13_ S13 e13 => ?_)
  refine x_callVi (As := []) dX7_factor_173 (aMet_of e13 (m_X7_figures hM S12)) g_X7_factor_95 rfl hM.1 rfl dd_X7_figures rfl rfl (Nat.le_of_ble_eq_true rfl) (Nat.le_trans (Nat.le_of_ble_eq_true rfl : 4 ≤ 6) hd0) (Nat.le_of_ble_eq_true rfl) ?_
  refine x_istore dX7_factor_176 (Nat.le_of_ble_eq_true rfl) rfl ?_
  refine x_aload_n dX7_factor_178 rfl rfl ?_
  refine x_iload_n dX7_factor_179 rfl rfl ?_
  refine x_bipush (8 : Int32) dX7_factor_180 (by decide) ?_
  refine x_iload_n dX7_factor_182 rfl rfl ?_
  refine x_imul dX7_factor_183 ?_
  refine x_iadd dX7_factor_184 ?_
  refine x_bipush (32 : Int32) dX7_factor_185 (by decide) ?_
  refine x_iload dX7_factor_187 rfl ?_
  refine x_imul dX7_factor_189 ?_
  refine x_iadd dX7_factor_190 ?_
  refine x_b (fun r14_ S14 e14 => ?_)
  refine x_callVv (As := [.int ((l2 + ((8 : Int32) * l3)) + ((32 : Int32) * r13_))]) dX7_factor_191 (aMet_of e14 (m_X7_emits hM ((l2 + ((8 : Int32) * l3)) + ((32 : Int32) * r13_)) S13)) g_X7_factor_81 rfl hM.1 rfl dd_X7_emits rfl rfl (Nat.le_of_ble_eq_true rfl) (Nat.le_trans (Nat.le_of_ble_eq_true rfl : 3 ≤ 6) hd0) (Nat.le_of_ble_eq_true rfl) ?_
  exact x_vret dX7_factor_194 rfl
def f_X7_factor_101 (c_X7_every : aSt → Option (Unit × aSt)) (c_X7_factor : aSt → Option (Unit × aSt)) (c_X7_some : aSt → Option (Unit × aSt))   (S : aSt) : Option (Unit × aSt) := (aLt (aUi S (0) 8 ((S.1 (0) 8) - (1 : Int32))) (fun S15 => (some ((), S15))))
set_option maxRecDepth 20000 in
set_option maxHeartbeats 4000000 in
theorem v_X7_factor_101 {G : aG} (hM : aMo G) {d dc : Nat} (hdc : dc + 1 ≤ d) (hd0 : 6 ≤ d) (c_X7_every : aSt → Option (Unit × aSt)) (hc_X7_every : ∀  (S : aSt), aMet G yX7_every uX7_every dc mk_v (c_X7_every  S) [.ref (0)] S) (c_X7_factor : aSt → Option (Unit × aSt)) (hc_X7_factor : ∀  (S : aSt), aMet G yX7_factor uX7_factor dc mk_v (c_X7_factor  S) [.ref (0)] S) (c_X7_some : aSt → Option (Unit × aSt)) (hc_X7_some : ∀  (S : aSt), aMet G yX7_some uX7_some dc mk_v (c_X7_some  S) [.ref (0)] S)  (S : aSt) : aX G yX7_factor cX7_factor 5 none uX7_factor d mk_v (f_X7_factor_101 c_X7_every c_X7_factor c_X7_some S) 101 [some (.ref (0)), none, none, none, none] [] S := by
  unfold f_X7_factor_101
  refine x_aload_n dX7_factor_101 rfl rfl ?_
  refine x_dup dX7_factor_102 rfl ?_
  refine x_getI (k := 0) (j := 8) dX7_factor_103 hM.1 rfl rfl (Nat.le_of_ble_eq_true rfl) (fun w h => List.mem_cons_of_mem _ (inlX7 w h)) w_X7_factor_f75 ?_
  refine x_iconst (1 : Int32) dX7_factor_106 (by decide) ?_
  refine x_isub dX7_factor_107 ?_
  refine x_putI (k := 0) (j := 8) dX7_factor_108 hM.1 rfl rfl (Nat.le_of_ble_eq_true rfl) (fun w h => List.mem_cons_of_mem _ (inlX7 w h)) w_X7_factor_f75 tyX7 tyX7_ok nmX7 rfl (by decide +kernel) ?_
  refine x_ltS (fun S15 => ?_)
  exact x_vret dX7_factor_111 rfl
def f_X7_factor_164 (c_X7_every : aSt → Option (Unit × aSt)) (c_X7_factor : aSt → Option (Unit × aSt)) (c_X7_some : aSt → Option (Unit × aSt))  (l2 : Int32) (l3 : Int32) (S : aSt) : Option (Unit × aSt) := (f_X7_factor_169 c_X7_every c_X7_factor c_X7_some l2 l3 (1 : Int32) S)
set_option maxRecDepth 20000 in
set_option maxHeartbeats 4000000 in
theorem v_X7_factor_164 {G : aG} (hM : aMo G) {d dc : Nat} (hdc : dc + 1 ≤ d) (hd0 : 6 ≤ d) (c_X7_every : aSt → Option (Unit × aSt)) (hc_X7_every : ∀  (S : aSt), aMet G yX7_every uX7_every dc mk_v (c_X7_every  S) [.ref (0)] S) (c_X7_factor : aSt → Option (Unit × aSt)) (hc_X7_factor : ∀  (S : aSt), aMet G yX7_factor uX7_factor dc mk_v (c_X7_factor  S) [.ref (0)] S) (c_X7_some : aSt → Option (Unit × aSt)) (hc_X7_some : ∀  (S : aSt), aMet G yX7_some uX7_some dc mk_v (c_X7_some  S) [.ref (0)] S) (l2 : Int32) (l3 : Int32) (S : aSt) : aX G yX7_factor cX7_factor 5 none uX7_factor d mk_v (f_X7_factor_164 c_X7_every c_X7_factor c_X7_some l2 l3 S) 164 [some (.ref (0)), none, some (.int l2), some (.int l3), none] [.ref (0)] S := by
  unfold f_X7_factor_164
  refine x_iconst (1 : Int32) dX7_factor_164 (by decide) ?_
  refine x_goto (tgt := 169) dX7_factor_165 (by decide) ?_
  exact x_le (v_X7_factor_169 hM hdc hd0 c_X7_every hc_X7_every c_X7_factor hc_X7_factor c_X7_some hc_X7_some l2 l3 (1 : Int32) S) (And.intro rfl (And.intro rfl (And.intro rfl trivial)))
def f_X7_factor_69 (c_X7_every : aSt → Option (Unit × aSt)) (c_X7_factor : aSt → Option (Unit × aSt)) (c_X7_some : aSt → Option (Unit × aSt))  (l1 : Int32) (s0 : Int32) (s1 : Int32) (S : aSt) : Option (Unit × aSt) := (aLt (aUi S (0) 5 (s1 + s0)) (fun S7 => (if l1 = (33 : Int32) then (aB (c_X7_factor S7) (fun r10_ S10 => (aB (f_X7_emits (-1 : Int32) S10) (fun r11_ S11 => (f_X7_factor_101 c_X7_every c_X7_factor c_X7_some S11))))) else (aB (c_X7_some S7) (fun r8_ S8 => (aB (f_X7_must (41 : Int32) S8) (fun r9_ S9 => (f_X7_factor_101 c_X7_every c_X7_factor c_X7_some S9))))))))
set_option maxRecDepth 20000 in
set_option maxHeartbeats 4000000 in
theorem v_X7_factor_69 {G : aG} (hM : aMo G) {d dc : Nat} (hdc : dc + 1 ≤ d) (hd0 : 6 ≤ d) (c_X7_every : aSt → Option (Unit × aSt)) (hc_X7_every : ∀  (S : aSt), aMet G yX7_every uX7_every dc mk_v (c_X7_every  S) [.ref (0)] S) (c_X7_factor : aSt → Option (Unit × aSt)) (hc_X7_factor : ∀  (S : aSt), aMet G yX7_factor uX7_factor dc mk_v (c_X7_factor  S) [.ref (0)] S) (c_X7_some : aSt → Option (Unit × aSt)) (hc_X7_some : ∀  (S : aSt), aMet G yX7_some uX7_some dc mk_v (c_X7_some  S) [.ref (0)] S) (l1 : Int32) (s0 : Int32) (s1 : Int32) (S : aSt) : aX G yX7_factor cX7_factor 5 none uX7_factor d mk_v (f_X7_factor_69 c_X7_every c_X7_factor c_X7_some l1 s0 s1 S) 69 [some (.ref (0)), some (.int l1), none, none, none] [.int s0, .int s1, .ref (0)] S := by
  unfold f_X7_factor_69
  refine x_iadd dX7_factor_69 ?_
  refine x_putI (k := 0) (j := 5) dX7_factor_70 hM.1 rfl rfl (Nat.le_of_ble_eq_true rfl) (fun w h => List.mem_cons_of_mem _ (inlX7 w h)) w_X7_factor_f45 tyX7 tyX7_ok nmX7 rfl (by decide +kernel) ?_
  refine x_ltS (fun S7 => ?_)
  refine x_iload_n dX7_factor_73 rfl rfl ?_
  refine x_bipush (33 : Int32) dX7_factor_74 (by decide) ?_
  refine x_icmp_ne (tgt := 91) dX7_factor_76 (by decide) ?_ ?_
  · refine x_aload_n dX7_factor_91 rfl rfl ?_
    refine x_b (fun r8_ S8 e8 => ?_)
    refine x_callVv (As := []) dX7_factor_92 (aMet_of e8 (hc_X7_some S7)) g_X7_factor_84 rfl hM.1 rfl dd_X7_some rfl rfl (Nat.le_of_ble_eq_true rfl) hdc (Nat.le_of_ble_eq_true rfl) ?_
    refine x_aload_n dX7_factor_95 rfl rfl ?_
    refine x_bipush (41 : Int32) dX7_factor_96 (by decide) ?_
    refine x_b (fun r9_ S9 e9 => ?_)
    refine x_callVv (As := [.int (41 : Int32)]) dX7_factor_98 (aMet_of e9 (m_X7_must hM (41 : Int32) S8)) g_X7_factor_68 rfl hM.1 rfl dd_X7_must rfl rfl (Nat.le_of_ble_eq_true rfl) (Nat.le_trans (Nat.le_of_ble_eq_true rfl : 4 ≤ 6) hd0) (Nat.le_of_ble_eq_true rfl) ?_
    exact x_le (v_X7_factor_101 hM hdc hd0 c_X7_every hc_X7_every c_X7_factor hc_X7_factor c_X7_some hc_X7_some S9) (And.intro rfl trivial)
  · refine x_aload_n dX7_factor_79 rfl rfl ?_
    refine x_b (fun r10_ S10 e10 => ?_)
    refine x_callVv (As := []) dX7_factor_80 (aMet_of e10 (hc_X7_factor S7)) g_X7_factor_78 rfl hM.1 rfl dd_X7_factor rfl rfl (Nat.le_of_ble_eq_true rfl) hdc (Nat.le_of_ble_eq_true rfl) ?_
    refine x_aload_n dX7_factor_83 rfl rfl ?_
    refine x_iconst (-1 : Int32) dX7_factor_84 (by decide) ?_
    refine x_b (fun r11_ S11 e11 => ?_)
    refine x_callVv (As := [.int (-1 : Int32)]) dX7_factor_85 (aMet_of e11 (m_X7_emits hM (-1 : Int32) S10)) g_X7_factor_81 rfl hM.1 rfl dd_X7_emits rfl rfl (Nat.le_of_ble_eq_true rfl) (Nat.le_trans (Nat.le_of_ble_eq_true rfl : 3 ≤ 6) hd0) (Nat.le_of_ble_eq_true rfl) ?_
    refine x_goto (tgt := 101) dX7_factor_88 (by decide) ?_
    exact x_le (v_X7_factor_101 hM hdc hd0 c_X7_every hc_X7_every c_X7_factor hc_X7_factor c_X7_some hc_X7_some S11) (And.intro rfl trivial)
def f_X7_factor_150 (c_X7_every : aSt → Option (Unit × aSt)) (c_X7_factor : aSt → Option (Unit × aSt)) (c_X7_some : aSt → Option (Unit × aSt))  (l2 : Int32) (s0 : Int32) (S : aSt) : Option (Unit × aSt) := (if (S.1 (0) 7) = 0 then (if s0 = (-1 : Int32) then (f_X7_factor_164 c_X7_every c_X7_factor c_X7_some l2 s0 S) else (f_X7_factor_169 c_X7_every c_X7_factor c_X7_some l2 s0 (0 : Int32) S)) else (f_X7_factor_164 c_X7_every c_X7_factor c_X7_some l2 s0 S))
set_option maxRecDepth 20000 in
set_option maxHeartbeats 4000000 in
theorem v_X7_factor_150 {G : aG} (hM : aMo G) {d dc : Nat} (hdc : dc + 1 ≤ d) (hd0 : 6 ≤ d) (c_X7_every : aSt → Option (Unit × aSt)) (hc_X7_every : ∀  (S : aSt), aMet G yX7_every uX7_every dc mk_v (c_X7_every  S) [.ref (0)] S) (c_X7_factor : aSt → Option (Unit × aSt)) (hc_X7_factor : ∀  (S : aSt), aMet G yX7_factor uX7_factor dc mk_v (c_X7_factor  S) [.ref (0)] S) (c_X7_some : aSt → Option (Unit × aSt)) (hc_X7_some : ∀  (S : aSt), aMet G yX7_some uX7_some dc mk_v (c_X7_some  S) [.ref (0)] S) (l2 : Int32) (s0 : Int32) (S : aSt) : aX G yX7_factor cX7_factor 5 none uX7_factor d mk_v (f_X7_factor_150 c_X7_every c_X7_factor c_X7_some l2 s0 S) 150 [some (.ref (0)), none, some (.int l2), none, none] [.int s0] S := by
  unfold f_X7_factor_150
  refine x_istore_n dX7_factor_150 rfl (Nat.le_of_ble_eq_true rfl) rfl ?_
  refine x_aload_n dX7_factor_151 rfl rfl ?_
  refine x_aload_n dX7_factor_152 rfl rfl ?_
  refine x_getI (k := 0) (j := 7) dX7_factor_153 hM.1 rfl rfl (Nat.le_of_ble_eq_true rfl) (fun w h => List.mem_cons_of_mem _ (inlX7 w h)) w_X7_factor_f51 ?_
  refine x_if_ne (tgt := 164) dX7_factor_156 (by decide) ?_ ?_
  · exact x_le (v_X7_factor_164 hM hdc hd0 c_X7_every hc_X7_every c_X7_factor hc_X7_factor c_X7_some hc_X7_some l2 s0 S) (And.intro rfl (And.intro rfl (And.intro rfl trivial)))
  · refine x_iload_n dX7_factor_159 rfl rfl ?_
    refine x_iconst (-1 : Int32) dX7_factor_160 (by decide) ?_
    refine x_icmp_ne (tgt := 168) dX7_factor_161 (by decide) ?_ ?_
    · refine x_iconst (0 : Int32) dX7_factor_168 (by decide) ?_
      exact x_le (v_X7_factor_169 hM hdc hd0 c_X7_every hc_X7_every c_X7_factor hc_X7_factor c_X7_some hc_X7_some l2 s0 (0 : Int32) S) (And.intro rfl (And.intro rfl (And.intro rfl trivial)))
    · exact x_le (v_X7_factor_164 hM hdc hd0 c_X7_every hc_X7_every c_X7_factor hc_X7_factor c_X7_some hc_X7_some l2 s0 S) (And.intro rfl (And.intro rfl (And.intro rfl trivial)))
def f_X7_factor_39 (c_X7_every : aSt → Option (Unit × aSt)) (c_X7_factor : aSt → Option (Unit × aSt)) (c_X7_some : aSt → Option (Unit × aSt))  (l1 : Int32) (s0 : Int32) (S : aSt) : Option (Unit × aSt) := (if s0 = 0 ∨ s0 = 1 then (aLt (aUi S (0) 7 s0) (fun S5 => (aLt (aUi S5 (0) 8 ((S5.1 (0) 8) + (1 : Int32))) (fun S6 => (if (S6.1 (0) 7) = 0 then (f_X7_factor_69 c_X7_every c_X7_factor c_X7_some l1 (1 : Int32) (S6.1 (0) 5) S6) else (f_X7_factor_69 c_X7_every c_X7_factor c_X7_some l1 (0 : Int32) (S6.1 (0) 5) S6)))))) else none)
set_option maxRecDepth 20000 in
set_option maxHeartbeats 4000000 in
theorem v_X7_factor_39 {G : aG} (hM : aMo G) {d dc : Nat} (hdc : dc + 1 ≤ d) (hd0 : 6 ≤ d) (c_X7_every : aSt → Option (Unit × aSt)) (hc_X7_every : ∀  (S : aSt), aMet G yX7_every uX7_every dc mk_v (c_X7_every  S) [.ref (0)] S) (c_X7_factor : aSt → Option (Unit × aSt)) (hc_X7_factor : ∀  (S : aSt), aMet G yX7_factor uX7_factor dc mk_v (c_X7_factor  S) [.ref (0)] S) (c_X7_some : aSt → Option (Unit × aSt)) (hc_X7_some : ∀  (S : aSt), aMet G yX7_some uX7_some dc mk_v (c_X7_some  S) [.ref (0)] S) (l1 : Int32) (s0 : Int32) (S : aSt) : aX G yX7_factor cX7_factor 5 none uX7_factor d mk_v (f_X7_factor_39 c_X7_every c_X7_factor c_X7_some l1 s0 S) 39 [some (.ref (0)), some (.int l1), none, none, none] [.int s0, .ref (0)] S := by
  unfold f_X7_factor_39
  refine x_putZ (k := 0) (j := 7) dX7_factor_39 hM.1 rfl rfl (Nat.le_of_ble_eq_true rfl) (fun w h => List.mem_cons_of_mem _ (inlX7 w h)) w_X7_factor_f51 tyX7 tyX7_ok nmX7 rfl (by decide +kernel) ?_
  refine x_ltS (fun S5 => ?_)
  refine x_aload_n dX7_factor_42 rfl rfl ?_
  refine x_dup dX7_factor_43 rfl ?_
  refine x_getI (k := 0) (j := 8) dX7_factor_44 hM.1 rfl rfl (Nat.le_of_ble_eq_true rfl) (fun w h => List.mem_cons_of_mem _ (inlX7 w h)) w_X7_factor_f75 ?_
  refine x_iconst (1 : Int32) dX7_factor_47 (by decide) ?_
  refine x_iadd dX7_factor_48 ?_
  refine x_putI (k := 0) (j := 8) dX7_factor_49 hM.1 rfl rfl (Nat.le_of_ble_eq_true rfl) (fun w h => List.mem_cons_of_mem _ (inlX7 w h)) w_X7_factor_f75 tyX7 tyX7_ok nmX7 rfl (by decide +kernel) ?_
  refine x_ltS (fun S6 => ?_)
  refine x_aload_n dX7_factor_52 rfl rfl ?_
  refine x_dup dX7_factor_53 rfl ?_
  refine x_getI (k := 0) (j := 5) dX7_factor_54 hM.1 rfl rfl (Nat.le_of_ble_eq_true rfl) (fun w h => List.mem_cons_of_mem _ (inlX7 w h)) w_X7_factor_f45 ?_
  refine x_aload_n dX7_factor_57 rfl rfl ?_
  refine x_getI (k := 0) (j := 7) dX7_factor_58 hM.1 rfl rfl (Nat.le_of_ble_eq_true rfl) (fun w h => List.mem_cons_of_mem _ (inlX7 w h)) w_X7_factor_f51 ?_
  refine x_if_eq (tgt := 68) dX7_factor_61 (by decide) ?_ ?_
  · refine x_iconst (1 : Int32) dX7_factor_68 (by decide) ?_
    exact x_le (v_X7_factor_69 hM hdc hd0 c_X7_every hc_X7_every c_X7_factor hc_X7_factor c_X7_some hc_X7_some l1 (1 : Int32) (S6.1 (0) 5) S6) (And.intro rfl (And.intro rfl trivial))
  · refine x_iconst (0 : Int32) dX7_factor_64 (by decide) ?_
    refine x_goto (tgt := 69) dX7_factor_65 (by decide) ?_
    exact x_le (v_X7_factor_69 hM hdc hd0 c_X7_every hc_X7_every c_X7_factor hc_X7_factor c_X7_some hc_X7_some l1 (0 : Int32) (S6.1 (0) 5) S6) (And.intro rfl (And.intro rfl trivial))
def f_X7_factor_130 (c_X7_every : aSt → Option (Unit × aSt)) (c_X7_factor : aSt → Option (Unit × aSt)) (c_X7_some : aSt → Option (Unit × aSt))  (l2 : Int32) (s0 : Int32) (S : aSt) : Option (Unit × aSt) := (if s0 = 0 ∨ s0 = 1 then (aLt (aUi S (0) 7 s0) (fun S3 => (if (S3.1 (0) 7) = 0 then (aB (f_X7_among (7) S3) (fun r4_ S4 => (f_X7_factor_150 c_X7_every c_X7_factor c_X7_some l2 r4_ S4))) else (f_X7_factor_150 c_X7_every c_X7_factor c_X7_some l2 (0 : Int32) S3)))) else none)
set_option maxRecDepth 20000 in
set_option maxHeartbeats 4000000 in
theorem v_X7_factor_130 {G : aG} (hM : aMo G) {d dc : Nat} (hdc : dc + 1 ≤ d) (hd0 : 6 ≤ d) (c_X7_every : aSt → Option (Unit × aSt)) (hc_X7_every : ∀  (S : aSt), aMet G yX7_every uX7_every dc mk_v (c_X7_every  S) [.ref (0)] S) (c_X7_factor : aSt → Option (Unit × aSt)) (hc_X7_factor : ∀  (S : aSt), aMet G yX7_factor uX7_factor dc mk_v (c_X7_factor  S) [.ref (0)] S) (c_X7_some : aSt → Option (Unit × aSt)) (hc_X7_some : ∀  (S : aSt), aMet G yX7_some uX7_some dc mk_v (c_X7_some  S) [.ref (0)] S) (l2 : Int32) (s0 : Int32) (S : aSt) : aX G yX7_factor cX7_factor 5 none uX7_factor d mk_v (f_X7_factor_130 c_X7_every c_X7_factor c_X7_some l2 s0 S) 130 [some (.ref (0)), none, some (.int l2), none, none] [.int s0, .ref (0)] S := by
  unfold f_X7_factor_130
  refine x_putZ (k := 0) (j := 7) dX7_factor_130 hM.1 rfl rfl (Nat.le_of_ble_eq_true rfl) (fun w h => List.mem_cons_of_mem _ (inlX7 w h)) w_X7_factor_f51 tyX7 tyX7_ok nmX7 rfl (by decide +kernel) ?_
  refine x_ltS (fun S3 => ?_)
  refine x_aload_n dX7_factor_133 rfl rfl ?_
  refine x_getI (k := 0) (j := 7) dX7_factor_134 hM.1 rfl rfl (Nat.le_of_ble_eq_true rfl) (fun w h => List.mem_cons_of_mem _ (inlX7 w h)) w_X7_factor_f51 ?_
  refine x_if_eq (tgt := 144) dX7_factor_137 (by decide) ?_ ?_
  · refine x_aload_n dX7_factor_144 rfl rfl ?_
    refine x_ldcS (i := 7) (tx := "<=>") dX7_factor_145 (by decide +kernel) ?_
    refine x_b (fun r4_ S4 e4 => ?_)
    refine x_callVi (As := [.ref (1000 + 7)]) dX7_factor_147 (aMet_of e4 (m_X7_among hM (7) (Nat.le_of_ble_eq_true rfl) S3)) g_X7_factor_89 rfl hM.1 rfl dd_X7_among rfl rfl (Nat.le_of_ble_eq_true rfl) (Nat.le_trans (Nat.le_of_ble_eq_true rfl : 6 ≤ 6) hd0) (Nat.le_of_ble_eq_true rfl) ?_
    exact x_le (v_X7_factor_150 hM hdc hd0 c_X7_every hc_X7_every c_X7_factor hc_X7_factor c_X7_some hc_X7_some l2 r4_ S4) (And.intro rfl (And.intro rfl trivial))
  · refine x_iconst (0 : Int32) dX7_factor_140 (by decide) ?_
    refine x_goto (tgt := 150) dX7_factor_141 (by decide) ?_
    exact x_le (v_X7_factor_150 hM hdc hd0 c_X7_every hc_X7_every c_X7_factor hc_X7_factor c_X7_some hc_X7_some l2 (0 : Int32) S3) (And.intro rfl (And.intro rfl trivial))
def f_X7_factor_25 (c_X7_every : aSt → Option (Unit × aSt)) (c_X7_factor : aSt → Option (Unit × aSt)) (c_X7_some : aSt → Option (Unit × aSt))  (l1 : Int32) (S : aSt) : Option (Unit × aSt) := (if (S.1 (0) 8) = (5 : Int32) then (f_X7_factor_39 c_X7_every c_X7_factor c_X7_some l1 (1 : Int32) S) else (f_X7_factor_39 c_X7_every c_X7_factor c_X7_some l1 (0 : Int32) S))
set_option maxRecDepth 20000 in
set_option maxHeartbeats 4000000 in
theorem v_X7_factor_25 {G : aG} (hM : aMo G) {d dc : Nat} (hdc : dc + 1 ≤ d) (hd0 : 6 ≤ d) (c_X7_every : aSt → Option (Unit × aSt)) (hc_X7_every : ∀  (S : aSt), aMet G yX7_every uX7_every dc mk_v (c_X7_every  S) [.ref (0)] S) (c_X7_factor : aSt → Option (Unit × aSt)) (hc_X7_factor : ∀  (S : aSt), aMet G yX7_factor uX7_factor dc mk_v (c_X7_factor  S) [.ref (0)] S) (c_X7_some : aSt → Option (Unit × aSt)) (hc_X7_some : ∀  (S : aSt), aMet G yX7_some uX7_some dc mk_v (c_X7_some  S) [.ref (0)] S) (l1 : Int32) (S : aSt) : aX G yX7_factor cX7_factor 5 none uX7_factor d mk_v (f_X7_factor_25 c_X7_every c_X7_factor c_X7_some l1 S) 25 [some (.ref (0)), some (.int l1), none, none, none] [] S := by
  unfold f_X7_factor_25
  refine x_aload_n dX7_factor_25 rfl rfl ?_
  refine x_aload_n dX7_factor_26 rfl rfl ?_
  refine x_getI (k := 0) (j := 8) dX7_factor_27 hM.1 rfl rfl (Nat.le_of_ble_eq_true rfl) (fun w h => List.mem_cons_of_mem _ (inlX7 w h)) w_X7_factor_f75 ?_
  refine x_iconst (5 : Int32) dX7_factor_30 (by decide) ?_
  refine x_icmp_ne (tgt := 38) dX7_factor_31 (by decide) ?_ ?_
  · refine x_iconst (0 : Int32) dX7_factor_38 (by decide) ?_
    exact x_le (v_X7_factor_39 hM hdc hd0 c_X7_every hc_X7_every c_X7_factor hc_X7_factor c_X7_some hc_X7_some l1 (0 : Int32) S) (And.intro rfl (And.intro rfl trivial))
  · refine x_iconst (1 : Int32) dX7_factor_34 (by decide) ?_
    refine x_goto (tgt := 39) dX7_factor_35 (by decide) ?_
    exact x_le (v_X7_factor_39 hM hdc hd0 c_X7_every hc_X7_every c_X7_factor hc_X7_factor c_X7_some hc_X7_some l1 (1 : Int32) S) (And.intro rfl (And.intro rfl trivial))
def f_X7_factor (c_X7_every : aSt → Option (Unit × aSt)) (c_X7_factor : aSt → Option (Unit × aSt)) (c_X7_some : aSt → Option (Unit × aSt))  (S : aSt) : Option (Unit × aSt) := (if (S.1 (0) 7) = 0 then (aB (f_X7_here S) (fun r1_ S1 => (if r1_ = (33 : Int32) then (f_X7_factor_25 c_X7_every c_X7_factor c_X7_some r1_ S1) else (if r1_ = (40 : Int32) then (f_X7_factor_25 c_X7_every c_X7_factor c_X7_some r1_ S1) else (aB (f_X7_among (6) S1) (fun r2_ S2 => (if r2_ = (-1 : Int32) then (f_X7_factor_130 c_X7_every c_X7_factor c_X7_some r2_ (1 : Int32) S2) else (f_X7_factor_130 c_X7_every c_X7_factor c_X7_some r2_ (0 : Int32) S2)))))))) else (some ((), S)))
set_option maxRecDepth 20000 in
set_option maxHeartbeats 4000000 in
theorem m_X7_factor {G : aG} (hM : aMo G) {d dc : Nat} (hdc : dc + 1 ≤ d) (hd0 : 6 ≤ d) (c_X7_every : aSt → Option (Unit × aSt)) (hc_X7_every : ∀  (S : aSt), aMet G yX7_every uX7_every dc mk_v (c_X7_every  S) [.ref (0)] S) (c_X7_factor : aSt → Option (Unit × aSt)) (hc_X7_factor : ∀  (S : aSt), aMet G yX7_factor uX7_factor dc mk_v (c_X7_factor  S) [.ref (0)] S) (c_X7_some : aSt → Option (Unit × aSt)) (hc_X7_some : ∀  (S : aSt), aMet G yX7_some uX7_some dc mk_v (c_X7_some  S) [.ref (0)] S)  (S : aSt) : aMet G yX7_factor uX7_factor d mk_v (f_X7_factor c_X7_every c_X7_factor c_X7_some S) [.ref (0)] S := by
  refine x_met (cc := cX7_factor) (nL := 5) (ret := none) (L := [some (.ref (0)), none, none, none, none]) (by decide +kernel) rfl (And.intro rfl trivial) (Nat.le_of_ble_eq_true rfl) ?_
  unfold f_X7_factor
  refine x_aload_n dX7_factor_0 rfl rfl ?_
  refine x_getI (k := 0) (j := 7) dX7_factor_1 hM.1 rfl rfl (Nat.le_of_ble_eq_true rfl) (fun w h => List.mem_cons_of_mem _ (inlX7 w h)) w_X7_factor_f51 ?_
  refine x_if_eq (tgt := 8) dX7_factor_4 (by decide) ?_ ?_
  · refine x_aload_n dX7_factor_8 rfl rfl ?_
    refine x_b (fun r1_ S1 e1 => ?_)
    refine x_callVi (As := []) dX7_factor_9 (aMet_of e1 (m_X7_here hM S)) g_X7_factor_55 rfl hM.1 rfl dd_X7_here rfl rfl (Nat.le_of_ble_eq_true rfl) (Nat.le_trans (Nat.le_of_ble_eq_true rfl : 3 ≤ 6) hd0) (Nat.le_of_ble_eq_true rfl) ?_
    refine x_istore_n dX7_factor_12 rfl (Nat.le_of_ble_eq_true rfl) rfl ?_
    refine x_iload_n dX7_factor_13 rfl rfl ?_
    refine x_bipush (33 : Int32) dX7_factor_14 (by decide) ?_
    refine x_icmp_eq (tgt := 25) dX7_factor_16 (by decide) ?_ ?_
    · exact x_le (v_X7_factor_25 hM hdc hd0 c_X7_every hc_X7_every c_X7_factor hc_X7_factor c_X7_some hc_X7_some r1_ S1) (And.intro rfl (And.intro rfl trivial))
    · refine x_iload_n dX7_factor_19 rfl rfl ?_
      refine x_bipush (40 : Int32) dX7_factor_20 (by decide) ?_
      refine x_icmp_ne (tgt := 112) dX7_factor_22 (by decide) ?_ ?_
      · refine x_aload_n dX7_factor_112 rfl rfl ?_
        refine x_ldcS (i := 6) (tx := "tkhlow") dX7_factor_113 (by decide +kernel) ?_
        refine x_b (fun r2_ S2 e2 => ?_)
        refine x_callVi (As := [.ref (1000 + 6)]) dX7_factor_115 (aMet_of e2 (m_X7_among hM (6) (Nat.le_of_ble_eq_true rfl) S1)) g_X7_factor_89 rfl hM.1 rfl dd_X7_among rfl rfl (Nat.le_of_ble_eq_true rfl) (Nat.le_trans (Nat.le_of_ble_eq_true rfl : 6 ≤ 6) hd0) (Nat.le_of_ble_eq_true rfl) ?_
        refine x_istore_n dX7_factor_118 rfl (Nat.le_of_ble_eq_true rfl) rfl ?_
        refine x_aload_n dX7_factor_119 rfl rfl ?_
        refine x_iload_n dX7_factor_120 rfl rfl ?_
        refine x_iconst (-1 : Int32) dX7_factor_121 (by decide) ?_
        refine x_icmp_ne (tgt := 129) dX7_factor_122 (by decide) ?_ ?_
        · refine x_iconst (0 : Int32) dX7_factor_129 (by decide) ?_
          exact x_le (v_X7_factor_130 hM hdc hd0 c_X7_every hc_X7_every c_X7_factor hc_X7_factor c_X7_some hc_X7_some r2_ (0 : Int32) S2) (And.intro rfl (And.intro rfl trivial))
        · refine x_iconst (1 : Int32) dX7_factor_125 (by decide) ?_
          refine x_goto (tgt := 130) dX7_factor_126 (by decide) ?_
          exact x_le (v_X7_factor_130 hM hdc hd0 c_X7_every hc_X7_every c_X7_factor hc_X7_factor c_X7_some hc_X7_some r2_ (1 : Int32) S2) (And.intro rfl (And.intro rfl trivial))
      · exact x_le (v_X7_factor_25 hM hdc hd0 c_X7_every hc_X7_every c_X7_factor hc_X7_factor c_X7_some hc_X7_some r1_ S1) (And.intro rfl (And.intro rfl trivial))
  · exact x_vret dX7_factor_7 rfl
theorem g_X7_some_98 : GoodIn uX7_some (wsV yX7_some.cls 98 RX7 yX7_every uX7_every) := gU_V (wU_r15 _ (List.mem_of_getElem? (i := 18) rfl)) (wU_r15 _ (List.mem_of_getElem? (i := 19) rfl)) (wU_r15 _ (List.mem_of_getElem? (i := 20) rfl)) (wU_r1 _ (List.mem_of_getElem? (i := 5) rfl)) (wU_r16 _ (List.mem_of_getElem? (i := 1) rfl))
theorem w_X7_some_f51 : Cond.fieldLink yX7_some.cls 51 (TX7 7).1 (TX7 7).2.1 (TX7 7).2.2.1 ∈ uX7_some := List.mem_cons_of_mem _ (wU_r14 _ (List.mem_of_getElem? (i := 10) rfl))
theorem g_X7_some_55 : GoodIn uX7_some (wsV yX7_some.cls 55 RX7 yX7_here uX7_here) := gU_V (wU_r14 _ (List.mem_of_getElem? (i := 16) rfl)) (wU_r14 _ (List.mem_of_getElem? (i := 17) rfl)) (wU_r14 _ (List.mem_of_getElem? (i := 18) rfl)) (wU_r1 _ (List.mem_of_getElem? (i := 5) rfl)) (wU_r14 _ (List.mem_of_getElem? (i := 19) rfl))
theorem w_X7_some_f45 : Cond.fieldLink yX7_some.cls 45 (TX7 5).1 (TX7 5).2.1 (TX7 5).2.2.1 ∈ uX7_some := List.mem_cons_of_mem _ (wU_r14 _ (List.mem_of_getElem? (i := 9) rfl))
theorem g_X7_some_81 : GoodIn uX7_some (wsV yX7_some.cls 81 RX7 yX7_emits uX7_emits) := gU_V (wU_r15 _ (List.mem_of_getElem? (i := 21) rfl)) (wU_r15 _ (List.mem_of_getElem? (i := 22) rfl)) (wU_r15 _ (List.mem_of_getElem? (i := 23) rfl)) (wU_r1 _ (List.mem_of_getElem? (i := 5) rfl)) (wU_r16 _ (List.mem_of_getElem? (i := 0) rfl))
def f_X7_some_4 (c_X7_every : aSt → Option (Unit × aSt)) (c_X7_factor : aSt → Option (Unit × aSt)) (c_X7_some : aSt → Option (Unit × aSt))  : Nat → aSt → Option (Unit × aSt)
  | 0, _ => none
  | n + 1, S => (if (S.1 (0) 7) = 0 then (aB (f_X7_here S) (fun r2_ S2 => (if r2_ = (124 : Int32) then (aLt (aUi S2 (0) 5 ((S2.1 (0) 5) + (1 : Int32))) (fun S3 => (aB (c_X7_every S3) (fun r4_ S4 => (aB (f_X7_emits (-3 : Int32) S4) (fun r5_ S5 => (f_X7_some_4 c_X7_every c_X7_factor c_X7_some n S5))))))) else (some ((), S2))))) else (some ((), S)))
set_option maxRecDepth 20000 in
set_option maxHeartbeats 4000000 in
theorem v_X7_some_4 {G : aG} (hM : aMo G) {d dc : Nat} (hdc : dc + 1 ≤ d) (hd0 : 6 ≤ d) (c_X7_every : aSt → Option (Unit × aSt)) (hc_X7_every : ∀  (S : aSt), aMet G yX7_every uX7_every dc mk_v (c_X7_every  S) [.ref (0)] S) (c_X7_factor : aSt → Option (Unit × aSt)) (hc_X7_factor : ∀  (S : aSt), aMet G yX7_factor uX7_factor dc mk_v (c_X7_factor  S) [.ref (0)] S) (c_X7_some : aSt → Option (Unit × aSt)) (hc_X7_some : ∀  (S : aSt), aMet G yX7_some uX7_some dc mk_v (c_X7_some  S) [.ref (0)] S) : ∀ (n : Nat)  (S : aSt), aX G yX7_some cX7_some 1 none uX7_some d mk_v (f_X7_some_4 c_X7_every c_X7_factor c_X7_some n S) 4 [some (.ref (0))] [] S := by
  intro n
  induction n with
  | zero => intro  S; exact x_none
  | succ n ih =>
    intro  S
    unfold f_X7_some_4
    refine x_aload_n dX7_some_4 rfl rfl ?_
    refine x_getI (k := 0) (j := 7) dX7_some_5 hM.1 rfl rfl (Nat.le_of_ble_eq_true rfl) (fun w h => List.mem_cons_of_mem _ (inlX7 w h)) w_X7_some_f51 ?_
    refine x_if_ne (tgt := 43) dX7_some_8 (by decide) ?_ ?_
    · exact x_vret dX7_some_43 rfl
    · refine x_aload_n dX7_some_11 rfl rfl ?_
      refine x_b (fun r2_ S2 e2 => ?_)
      refine x_callVi (As := []) dX7_some_12 (aMet_of e2 (m_X7_here hM S)) g_X7_some_55 rfl hM.1 rfl dd_X7_here rfl rfl (Nat.le_of_ble_eq_true rfl) (Nat.le_trans (Nat.le_of_ble_eq_true rfl : 3 ≤ 6) hd0) (Nat.le_of_ble_eq_true rfl) ?_
      refine x_bipush (124 : Int32) dX7_some_15 (by decide) ?_
      refine x_icmp_ne (tgt := 43) dX7_some_17 (by decide) ?_ ?_
      · exact x_vret dX7_some_43 rfl
      · refine x_aload_n dX7_some_20 rfl rfl ?_
        refine x_dup dX7_some_21 rfl ?_
        refine x_getI (k := 0) (j := 5) dX7_some_22 hM.1 rfl rfl (Nat.le_of_ble_eq_true rfl) (fun w h => List.mem_cons_of_mem _ (inlX7 w h)) w_X7_some_f45 ?_
        refine x_iconst (1 : Int32) dX7_some_25 (by decide) ?_
        refine x_iadd dX7_some_26 ?_
        refine x_putI (k := 0) (j := 5) dX7_some_27 hM.1 rfl rfl (Nat.le_of_ble_eq_true rfl) (fun w h => List.mem_cons_of_mem _ (inlX7 w h)) w_X7_some_f45 tyX7 tyX7_ok nmX7 rfl (by decide +kernel) ?_
        refine x_ltS (fun S3 => ?_)
        refine x_aload_n dX7_some_30 rfl rfl ?_
        refine x_b (fun r4_ S4 e4 => ?_)
        refine x_callVv (As := []) dX7_some_31 (aMet_of e4 (hc_X7_every S3)) g_X7_some_98 rfl hM.1 rfl dd_X7_every rfl rfl (Nat.le_of_ble_eq_true rfl) hdc (Nat.le_of_ble_eq_true rfl) ?_
        refine x_aload_n dX7_some_34 rfl rfl ?_
        refine x_bipush (-3 : Int32) dX7_some_35 (by decide) ?_
        refine x_b (fun r5_ S5 e5 => ?_)
        refine x_callVv (As := [.int (-3 : Int32)]) dX7_some_37 (aMet_of e5 (m_X7_emits hM (-3 : Int32) S4)) g_X7_some_81 rfl hM.1 rfl dd_X7_emits rfl rfl (Nat.le_of_ble_eq_true rfl) (Nat.le_trans (Nat.le_of_ble_eq_true rfl : 3 ≤ 6) hd0) (Nat.le_of_ble_eq_true rfl) ?_
        refine x_goto (tgt := 4) dX7_some_40 (by decide) ?_
        exact x_le (ih  S5) (And.intro rfl trivial)
def f_X7_some (c_X7_every : aSt → Option (Unit × aSt)) (c_X7_factor : aSt → Option (Unit × aSt)) (c_X7_some : aSt → Option (Unit × aSt))  (S : aSt) : Option (Unit × aSt) := (aB (c_X7_every S) (fun r1_ S1 => (f_X7_some_4 c_X7_every c_X7_factor c_X7_some aF S1)))
set_option maxRecDepth 20000 in
set_option maxHeartbeats 4000000 in
theorem m_X7_some {G : aG} (hM : aMo G) {d dc : Nat} (hdc : dc + 1 ≤ d) (hd0 : 6 ≤ d) (c_X7_every : aSt → Option (Unit × aSt)) (hc_X7_every : ∀  (S : aSt), aMet G yX7_every uX7_every dc mk_v (c_X7_every  S) [.ref (0)] S) (c_X7_factor : aSt → Option (Unit × aSt)) (hc_X7_factor : ∀  (S : aSt), aMet G yX7_factor uX7_factor dc mk_v (c_X7_factor  S) [.ref (0)] S) (c_X7_some : aSt → Option (Unit × aSt)) (hc_X7_some : ∀  (S : aSt), aMet G yX7_some uX7_some dc mk_v (c_X7_some  S) [.ref (0)] S)  (S : aSt) : aMet G yX7_some uX7_some d mk_v (f_X7_some c_X7_every c_X7_factor c_X7_some S) [.ref (0)] S := by
  refine x_met (cc := cX7_some) (nL := 1) (ret := none) (L := [some (.ref (0))]) (by decide +kernel) rfl (And.intro rfl trivial) (Nat.le_of_ble_eq_true rfl) ?_
  unfold f_X7_some
  refine x_aload_n dX7_some_0 rfl rfl ?_
  refine x_b (fun r1_ S1 e1 => ?_)
  refine x_callVv (As := []) dX7_some_1 (aMet_of e1 (hc_X7_every S)) g_X7_some_98 rfl hM.1 rfl dd_X7_every rfl rfl (Nat.le_of_ble_eq_true rfl) hdc (Nat.le_of_ble_eq_true rfl) ?_
  exact x_le (v_X7_some_4 hM hdc hd0 c_X7_every hc_X7_every c_X7_factor hc_X7_factor c_X7_some hc_X7_some aF S1) (And.intro rfl trivial)
def g_X7_some : Nat → Nat → aSt → Option (Unit × aSt)
  | 0, _, _ => none
  | n + 1, 0, S => f_X7_every (fun  S => g_X7_some n 0  S) (fun  S => g_X7_some n 1  S) (fun  S => g_X7_some n 2  S)  S
  | n + 1, 1, S => f_X7_factor (fun  S => g_X7_some n 0  S) (fun  S => g_X7_some n 1  S) (fun  S => g_X7_some n 2  S)  S
  | n + 1, _, S => f_X7_some (fun  S => g_X7_some n 0  S) (fun  S => g_X7_some n 1  S) (fun  S => g_X7_some n 2  S)  S
theorem gm_X7_some {G : aG} (hM : aMo G) : ∀ n : Nat, (∀  (S : aSt), aMet G yX7_every uX7_every (6 + n) mk_v (g_X7_some n 0  S) [.ref (0)] S) ∧ (∀  (S : aSt), aMet G yX7_factor uX7_factor (6 + n) mk_v (g_X7_some n 1  S) [.ref (0)] S) ∧ (∀  (S : aSt), aMet G yX7_some uX7_some (6 + n) mk_v (g_X7_some n 2  S) [.ref (0)] S) := by
  intro n
  induction n with
  | zero => exact ⟨fun _ => aMet_none, fun _ => aMet_none, fun _ => aMet_none⟩
  | succ n ih => exact ⟨fun S => m_X7_every hM (d := 6 + (n + 1)) (dc := 6 + n) (Nat.le_refl _) (by omega) _ ih.1 _ ih.2.1 _ ih.2.2 S, fun S => m_X7_factor hM (d := 6 + (n + 1)) (dc := 6 + n) (Nat.le_refl _) (by omega) _ ih.1 _ ih.2.1 _ ih.2.2 S, fun S => m_X7_some hM (d := 6 + (n + 1)) (dc := 6 + n) (Nat.le_refl _) (by omega) _ ih.1 _ ih.2.1 _ ih.2.2 S⟩
def f_X7_every_k : aSt → Option (Unit × aSt) := g_X7_some 24 0
theorem m_X7_every_k {G : aG} (hM : aMo G) : ∀  (S : aSt), aMet G yX7_every uX7_every 30 mk_v (f_X7_every_k  S) [.ref (0)] S := (gm_X7_some hM 24).1
def f_X7_factor_k : aSt → Option (Unit × aSt) := g_X7_some 24 1
theorem m_X7_factor_k {G : aG} (hM : aMo G) : ∀  (S : aSt), aMet G yX7_factor uX7_factor 30 mk_v (f_X7_factor_k  S) [.ref (0)] S := (gm_X7_some hM 24).2.1
def f_X7_some_k : aSt → Option (Unit × aSt) := g_X7_some 24 2
theorem m_X7_some_k {G : aG} (hM : aMo G) : ∀  (S : aSt), aMet G yX7_some uX7_some 30 mk_v (f_X7_some_k  S) [.ref (0)] S := (gm_X7_some hM 24).2.2
theorem dd_X7_spells : yX7_spells.cls = RX7 ∧ yX7_spells.cls ≠ "java/lang/invoke/MethodHandle" ∧ yX7_spells.cls ≠ "java/lang/invoke/VarHandle" ∧ (parseMethodDescriptor yX7_spells.desc).map (fun d => d.parameters.length) = some 1 := by decide +kernel
theorem g_X7_much_101 : GoodIn uX7_much (wsV yX7_much.cls 101 RX7 yX7_spells uX7_spells) := gU_V (wU_r15 _ (List.mem_of_getElem? (i := 0) rfl)) (wU_r15 _ (List.mem_of_getElem? (i := 1) rfl)) (wU_r15 _ (List.mem_of_getElem? (i := 2) rfl)) (wU_r1 _ (List.mem_of_getElem? (i := 5) rfl)) (wU_r15 _ (List.mem_of_getElem? (i := 3) rfl))
theorem g_X7_much_95 : GoodIn uX7_much (wsV yX7_much.cls 95 RX7 yX7_figures uX7_figures) := gU_V (wU_r15 _ (List.mem_of_getElem? (i := 10) rfl)) (wU_r15 _ (List.mem_of_getElem? (i := 11) rfl)) (wU_r15 _ (List.mem_of_getElem? (i := 12) rfl)) (wU_r1 _ (List.mem_of_getElem? (i := 5) rfl)) (wU_r15 _ (List.mem_of_getElem? (i := 13) rfl))
theorem g_X7_much_68 : GoodIn uX7_much (wsV yX7_much.cls 68 RX7 yX7_must uX7_must) := gU_V (wU_r15 _ (List.mem_of_getElem? (i := 6) rfl)) (wU_r15 _ (List.mem_of_getElem? (i := 7) rfl)) (wU_r15 _ (List.mem_of_getElem? (i := 8) rfl)) (wU_r1 _ (List.mem_of_getElem? (i := 5) rfl)) (wU_r15 _ (List.mem_of_getElem? (i := 9) rfl))
theorem g_X7_much_84 : GoodIn uX7_much (wsV yX7_much.cls 84 RX7 yX7_some uX7_some) := gU_V (wU_r15 _ (List.mem_of_getElem? (i := 14) rfl)) (wU_r15 _ (List.mem_of_getElem? (i := 15) rfl)) (wU_r15 _ (List.mem_of_getElem? (i := 16) rfl)) (wU_r1 _ (List.mem_of_getElem? (i := 5) rfl)) (wU_r15 _ (List.mem_of_getElem? (i := 17) rfl))
theorem g_X7_much_81 : GoodIn uX7_much (wsV yX7_much.cls 81 RX7 yX7_emits uX7_emits) := gU_V (wU_r15 _ (List.mem_of_getElem? (i := 21) rfl)) (wU_r15 _ (List.mem_of_getElem? (i := 22) rfl)) (wU_r15 _ (List.mem_of_getElem? (i := 23) rfl)) (wU_r1 _ (List.mem_of_getElem? (i := 5) rfl)) (wU_r16 _ (List.mem_of_getElem? (i := 0) rfl))
def f_X7_much (p1 : Int32) (p2 : Nat) (S : aSt) : Option (Unit × aSt) := (aB (f_X7_spells (p2) S) (fun r1_ S1 => (aB (f_X7_figures S1) (fun r2_ S2 => (aB (f_X7_must (32 : Int32) S2) (fun r3_ S3 => (aB (f_X7_some_k S3) (fun r4_ S4 => (aB (f_X7_emits (p1 - r2_) S4) (fun r5_ S5 => (some ((), S5))))))))))))
set_option maxRecDepth 20000 in
set_option maxHeartbeats 4000000 in
theorem m_X7_much {G : aG} (hM : aMo G) (p1 : Int32) (p2 : Nat) (q2 : p2 < 13) (S : aSt) : aMet G yX7_much uX7_much 31 mk_v (f_X7_much p1 p2 S) [.ref (0), .int p1, .ref (1000 + p2)] S := by
  refine x_met (cc := cX7_much) (nL := 4) (ret := none) (L := [some (.ref (0)), some (.int p1), some (.ref (1000 + p2)), none]) (by decide +kernel) rfl (And.intro rfl (And.intro rfl (And.intro rfl trivial))) (Nat.le_of_ble_eq_true rfl) ?_
  unfold f_X7_much
  refine x_aload_n dX7_much_0 rfl rfl ?_
  refine x_aload_n dX7_much_1 rfl rfl ?_
  refine x_b (fun r1_ S1 e1 => ?_)
  refine x_callVv (As := [.ref (1000 + p2)]) dX7_much_2 (aMet_of e1 (m_X7_spells hM (p2) q2 S)) g_X7_much_101 rfl hM.1 rfl dd_X7_spells rfl rfl (Nat.le_of_ble_eq_true rfl) (Nat.le_of_ble_eq_true rfl) (Nat.le_of_ble_eq_true rfl) ?_
  refine x_aload_n dX7_much_5 rfl rfl ?_
  refine x_b (fun r2_ S2 e2 => ?_)
  refine x_callVi (As := []) dX7_much_6 (aMet_of e2 (m_X7_figures hM S1)) g_X7_much_95 rfl hM.1 rfl dd_X7_figures rfl rfl (Nat.le_of_ble_eq_true rfl) (Nat.le_of_ble_eq_true rfl) (Nat.le_of_ble_eq_true rfl) ?_
  refine x_istore_n dX7_much_9 rfl (Nat.le_of_ble_eq_true rfl) rfl ?_
  refine x_aload_n dX7_much_10 rfl rfl ?_
  refine x_bipush (32 : Int32) dX7_much_11 (by decide) ?_
  refine x_b (fun r3_ S3 e3 => ?_)
  refine x_callVv (As := [.int (32 : Int32)]) dX7_much_13 (aMet_of e3 (m_X7_must hM (32 : Int32) S2)) g_X7_much_68 rfl hM.1 rfl dd_X7_must rfl rfl (Nat.le_of_ble_eq_true rfl) (Nat.le_of_ble_eq_true rfl) (Nat.le_of_ble_eq_true rfl) ?_
  refine x_aload_n dX7_much_16 rfl rfl ?_
  refine x_b (fun r4_ S4 e4 => ?_)
  refine x_callVv (As := []) dX7_much_17 (aMet_of e4 (m_X7_some_k hM S3)) g_X7_much_84 rfl hM.1 rfl dd_X7_some rfl rfl (Nat.le_of_ble_eq_true rfl) (Nat.le_of_ble_eq_true rfl) (Nat.le_of_ble_eq_true rfl) ?_
  refine x_aload_n dX7_much_20 rfl rfl ?_
  refine x_iload_n dX7_much_21 rfl rfl ?_
  refine x_iload_n dX7_much_22 rfl rfl ?_
  refine x_isub dX7_much_23 ?_
  refine x_b (fun r5_ S5 e5 => ?_)
  refine x_callVv (As := [.int (p1 - r2_)]) dX7_much_24 (aMet_of e5 (m_X7_emits hM (p1 - r2_) S4)) g_X7_much_81 rfl hM.1 rfl dd_X7_emits rfl rfl (Nat.le_of_ble_eq_true rfl) (Nat.le_of_ble_eq_true rfl) (Nat.le_of_ble_eq_true rfl) ?_
  exact x_vret dX7_much_27 rfl
theorem g_X7_tellsHere_101 : GoodIn uX7_tellsHere (wsV yX7_tellsHere.cls 101 RX7 yX7_spells uX7_spells) := gU_V (wU_r15 _ (List.mem_of_getElem? (i := 0) rfl)) (wU_r15 _ (List.mem_of_getElem? (i := 1) rfl)) (wU_r15 _ (List.mem_of_getElem? (i := 2) rfl)) (wU_r1 _ (List.mem_of_getElem? (i := 5) rfl)) (wU_r15 _ (List.mem_of_getElem? (i := 3) rfl))
theorem g_X7_tellsHere_95 : GoodIn uX7_tellsHere (wsV yX7_tellsHere.cls 95 RX7 yX7_figures uX7_figures) := gU_V (wU_r15 _ (List.mem_of_getElem? (i := 10) rfl)) (wU_r15 _ (List.mem_of_getElem? (i := 11) rfl)) (wU_r15 _ (List.mem_of_getElem? (i := 12) rfl)) (wU_r1 _ (List.mem_of_getElem? (i := 5) rfl)) (wU_r15 _ (List.mem_of_getElem? (i := 13) rfl))
theorem w_X7_tellsHere_f51 : Cond.fieldLink yX7_tellsHere.cls 51 (TX7 7).1 (TX7 7).2.1 (TX7 7).2.2.1 ∈ uX7_tellsHere := List.mem_cons_of_mem _ (wU_r14 _ (List.mem_of_getElem? (i := 10) rfl))
theorem w_X7_tellsHere_f9 : Cond.fieldLink yX7_tellsHere.cls 9 (TX7 1).1 (TX7 1).2.1 (TX7 1).2.2.1 ∈ uX7_tellsHere := List.mem_cons_of_mem _ (wU_r4 _ (List.mem_of_getElem? (i := 14) rfl))
theorem w_X7_tellsHere_f72 : Cond.fieldLink yX7_tellsHere.cls 72 (TX7 4).1 (TX7 4).2.1 (TX7 4).2.2.1 ∈ uX7_tellsHere := List.mem_cons_of_mem _ (wU_r14 _ (List.mem_of_getElem? (i := 7) rfl))
def f_X7_tellsHere (p1 : Int32) (p2 : Nat) (S : aSt) : Option (Unit × aSt) := (aB (f_X7_spells (p2) S) (fun r1_ S1 => (aB (f_X7_figures S1) (fun r2_ S2 => (if (S2.1 (0) 7) = 0 then (if (p1 + (S2.1 (0) 4)) < 0 ∨ 979 ≤ ((p1 + (S2.1 (0) 4))).toNatClampNeg then none else (aLt (aUi S2 (1) ((p1 + (S2.1 (0) 4))).toNatClampNeg r2_) (fun S3 => (some ((), S3))))) else (some ((), S2)))))))
set_option maxRecDepth 20000 in
set_option maxHeartbeats 4000000 in
theorem m_X7_tellsHere {G : aG} (hM : aMo G) (p1 : Int32) (p2 : Nat) (q2 : p2 < 13) (S : aSt) : aMet G yX7_tellsHere uX7_tellsHere 6 mk_v (f_X7_tellsHere p1 p2 S) [.ref (0), .int p1, .ref (1000 + p2)] S := by
  refine x_met (cc := cX7_tellsHere) (nL := 4) (ret := none) (L := [some (.ref (0)), some (.int p1), some (.ref (1000 + p2)), none]) (by decide +kernel) rfl (And.intro rfl (And.intro rfl (And.intro rfl trivial))) (Nat.le_of_ble_eq_true rfl) ?_
  unfold f_X7_tellsHere
  refine x_aload_n dX7_tellsHere_0 rfl rfl ?_
  refine x_aload_n dX7_tellsHere_1 rfl rfl ?_
  refine x_b (fun r1_ S1 e1 => ?_)
  refine x_callVv (As := [.ref (1000 + p2)]) dX7_tellsHere_2 (aMet_of e1 (m_X7_spells hM (p2) q2 S)) g_X7_tellsHere_101 rfl hM.1 rfl dd_X7_spells rfl rfl (Nat.le_of_ble_eq_true rfl) (Nat.le_of_ble_eq_true rfl) (Nat.le_of_ble_eq_true rfl) ?_
  refine x_aload_n dX7_tellsHere_5 rfl rfl ?_
  refine x_b (fun r2_ S2 e2 => ?_)
  refine x_callVi (As := []) dX7_tellsHere_6 (aMet_of e2 (m_X7_figures hM S1)) g_X7_tellsHere_95 rfl hM.1 rfl dd_X7_figures rfl rfl (Nat.le_of_ble_eq_true rfl) (Nat.le_of_ble_eq_true rfl) (Nat.le_of_ble_eq_true rfl) ?_
  refine x_istore_n dX7_tellsHere_9 rfl (Nat.le_of_ble_eq_true rfl) rfl ?_
  refine x_aload_n dX7_tellsHere_10 rfl rfl ?_
  refine x_getI (k := 0) (j := 7) dX7_tellsHere_11 hM.1 rfl rfl (Nat.le_of_ble_eq_true rfl) (fun w h => List.mem_cons_of_mem _ (inlX7 w h)) w_X7_tellsHere_f51 ?_
  refine x_if_ne (tgt := 29) dX7_tellsHere_14 (by decide) ?_ ?_
  · exact x_vret dX7_tellsHere_29 rfl
  · refine x_aload_n dX7_tellsHere_17 rfl rfl ?_
    refine x_getR (r := 1) (k := 0) (j := 1) dX7_tellsHere_18 hM.1 rfl rfl (Nat.le_of_ble_eq_true rfl) (fun w h => List.mem_cons_of_mem _ (inlX7 w h)) w_X7_tellsHere_f9 ?_
    refine x_iload_n dX7_tellsHere_21 rfl rfl ?_
    refine x_aload_n dX7_tellsHere_22 rfl rfl ?_
    refine x_getI (k := 0) (j := 4) dX7_tellsHere_23 hM.1 rfl rfl (Nat.le_of_ble_eq_true rfl) (fun w h => List.mem_cons_of_mem _ (inlX7 w h)) w_X7_tellsHere_f72 ?_
    refine x_iadd dX7_tellsHere_26 ?_
    refine x_iload_n dX7_tellsHere_27 rfl rfl ?_
    refine x_iast dX7_tellsHere_28 hM.2.1 ?_
    refine x_ltS (fun S3 => ?_)
    exact x_vret dX7_tellsHere_29 rfl
theorem dd_X7_tellsHere : yX7_tellsHere.cls = RX7 ∧ yX7_tellsHere.cls ≠ "java/lang/invoke/MethodHandle" ∧ yX7_tellsHere.cls ≠ "java/lang/invoke/VarHandle" ∧ (parseMethodDescriptor yX7_tellsHere.desc).map (fun d => d.parameters.length) = some 2 := by decide +kernel
theorem dd_X7_much : yX7_much.cls = RX7 ∧ yX7_much.cls ≠ "java/lang/invoke/MethodHandle" ∧ yX7_much.cls ≠ "java/lang/invoke/VarHandle" ∧ (parseMethodDescriptor yX7_much.desc).map (fun d => d.parameters.length) = some 2 := by decide +kernel
theorem g_X7_clauseHere_55 : GoodIn uX7_clauseHere (wsV yX7_clauseHere.cls 55 RX7 yX7_here uX7_here) := gU_V (wU_r14 _ (List.mem_of_getElem? (i := 16) rfl)) (wU_r14 _ (List.mem_of_getElem? (i := 17) rfl)) (wU_r14 _ (List.mem_of_getElem? (i := 18) rfl)) (wU_r1 _ (List.mem_of_getElem? (i := 5) rfl)) (wU_r14 _ (List.mem_of_getElem? (i := 19) rfl))
theorem w_X7_clauseHere_f51 : Cond.fieldLink yX7_clauseHere.cls 51 (TX7 7).1 (TX7 7).2.1 (TX7 7).2.2.1 ∈ uX7_clauseHere := List.mem_cons_of_mem _ (wU_r14 _ (List.mem_of_getElem? (i := 10) rfl))
theorem g_X7_clauseHere_68 : GoodIn uX7_clauseHere (wsV yX7_clauseHere.cls 68 RX7 yX7_must uX7_must) := gU_V (wU_r15 _ (List.mem_of_getElem? (i := 6) rfl)) (wU_r15 _ (List.mem_of_getElem? (i := 7) rfl)) (wU_r15 _ (List.mem_of_getElem? (i := 8) rfl)) (wU_r1 _ (List.mem_of_getElem? (i := 5) rfl)) (wU_r15 _ (List.mem_of_getElem? (i := 9) rfl))
theorem g_X7_clauseHere_117 : GoodIn uX7_clauseHere (wsV yX7_clauseHere.cls 117 RX7 yX7_tellsHere uX7_tellsHere) := gU_V (wU_r16 _ (List.mem_of_getElem? (i := 10) rfl)) (wU_r16 _ (List.mem_of_getElem? (i := 11) rfl)) (wU_r16 _ (List.mem_of_getElem? (i := 12) rfl)) (wU_r1 _ (List.mem_of_getElem? (i := 5) rfl)) (wU_r16 _ (List.mem_of_getElem? (i := 13) rfl))
theorem g_X7_clauseHere_107 : GoodIn uX7_clauseHere (wsV yX7_clauseHere.cls 107 RX7 yX7_much uX7_much) := gU_V (wU_r14 _ (List.mem_of_getElem? (i := 20) rfl)) (wU_r14 _ (List.mem_of_getElem? (i := 21) rfl)) (wU_r14 _ (List.mem_of_getElem? (i := 22) rfl)) (wU_r1 _ (List.mem_of_getElem? (i := 5) rfl)) (wU_r14 _ (List.mem_of_getElem? (i := 23) rfl))
def f_X7_clauseHere  (S : aSt) : Option (Unit × aSt) := (aB (f_X7_here S) (fun r1_ S1 => (if r1_ = (104 : Int32) then (aB (f_X7_much (-10 : Int32) (8) S1) (fun r9_ S9 => (some ((), S9)))) else (if r1_ = (114 : Int32) then (aB (f_X7_tellsHere (205 : Int32) (12) S1) (fun r8_ S8 => (some ((), S8)))) else (if r1_ = (115 : Int32) then (aB (f_X7_much (-200 : Int32) (9) S1) (fun r7_ S7 => (some ((), S7)))) else (if r1_ = (119 : Int32) then (aB (f_X7_must (119 : Int32) S1) (fun r3_ S3 => (aB (f_X7_here S3) (fun r4_ S4 => (if r4_ = (105 : Int32) then (aB (f_X7_much (-400 : Int32) (10) S4) (fun r6_ S6 => (some ((), S6)))) else (aB (f_X7_tellsHere (200 : Int32) (11) S4) (fun r5_ S5 => (some ((), S5))))))))) else (aLt (aUi S1 (0) 7 (1 : Int32)) (fun S2 => (some ((), S2))))))))))
set_option maxRecDepth 20000 in
set_option maxHeartbeats 4000000 in
theorem m_X7_clauseHere {G : aG} (hM : aMo G)  (S : aSt) : aMet G yX7_clauseHere uX7_clauseHere 32 mk_v (f_X7_clauseHere S) [.ref (0)] S := by
  refine x_met (cc := cX7_clauseHere) (nL := 1) (ret := none) (L := [some (.ref (0))]) (by decide +kernel) rfl (And.intro rfl trivial) (Nat.le_of_ble_eq_true rfl) ?_
  unfold f_X7_clauseHere
  refine x_aload_n dX7_clauseHere_0 rfl rfl ?_
  refine x_b (fun r1_ S1 e1 => ?_)
  refine x_callVi (As := []) dX7_clauseHere_1 (aMet_of e1 (m_X7_here hM S)) g_X7_clauseHere_55 rfl hM.1 rfl dd_X7_here rfl rfl (Nat.le_of_ble_eq_true rfl) (Nat.le_of_ble_eq_true rfl) (Nat.le_of_ble_eq_true rfl) ?_
  refine x_sw (104 : Int32) ?_ (fun hv0 => ?_)
  · refine x_look (off := 44) (tgt := 48) dX7_clauseHere_4 (by decide +kernel) (by decide +kernel) (by decide) ?_
    refine x_aload_n dX7_clauseHere_48 rfl rfl ?_
    refine x_bipush (-10 : Int32) dX7_clauseHere_49 (by decide) ?_
    refine x_ldcS (i := 8) (tx := "hold ") dX7_clauseHere_51 (by decide +kernel) ?_
    refine x_b (fun r9_ S9 e9 => ?_)
    refine x_callVv (As := [.int (-10 : Int32), .ref (1000 + 8)]) dX7_clauseHere_53 (aMet_of e9 (m_X7_much hM (-10 : Int32) (8) (Nat.le_of_ble_eq_true rfl) S1)) g_X7_clauseHere_107 rfl hM.1 rfl dd_X7_much rfl rfl (Nat.le_of_ble_eq_true rfl) (Nat.le_of_ble_eq_true rfl) (Nat.le_of_ble_eq_true rfl) ?_
    refine x_goto (tgt := 127) dX7_clauseHere_56 (by decide) ?_
    exact x_vret dX7_clauseHere_127 rfl
  · refine x_sw (114 : Int32) ?_ (fun hv1 => ?_)
    · refine x_look (off := 106) (tgt := 110) dX7_clauseHere_4 (by decide +kernel) (by decide +kernel) (by decide) ?_
      refine x_aload_n dX7_clauseHere_110 rfl rfl ?_
      refine x_sipush (205 : Int32) dX7_clauseHere_111 (by decide) ?_
      refine x_ldcS (i := 12) (tx := "rope ") dX7_clauseHere_114 (by decide +kernel) ?_
      refine x_b (fun r8_ S8 e8 => ?_)
      refine x_callVv (As := [.int (205 : Int32), .ref (1000 + 12)]) dX7_clauseHere_116 (aMet_of e8 (m_X7_tellsHere hM (205 : Int32) (12) (Nat.le_of_ble_eq_true rfl) S1)) g_X7_clauseHere_117 rfl hM.1 rfl dd_X7_tellsHere rfl rfl (Nat.le_of_ble_eq_true rfl) (Nat.le_of_ble_eq_true rfl) (Nat.le_of_ble_eq_true rfl) ?_
      refine x_goto (tgt := 127) dX7_clauseHere_119 (by decide) ?_
      exact x_vret dX7_clauseHere_127 rfl
    · refine x_sw (115 : Int32) ?_ (fun hv2 => ?_)
      · refine x_look (off := 55) (tgt := 59) dX7_clauseHere_4 (by decide +kernel) (by decide +kernel) (by decide) ?_
        refine x_aload_n dX7_clauseHere_59 rfl rfl ?_
        refine x_sipush (-200 : Int32) dX7_clauseHere_60 (by decide) ?_
        refine x_ldcS (i := 9) (tx := "split ") dX7_clauseHere_63 (by decide +kernel) ?_
        refine x_b (fun r7_ S7 e7 => ?_)
        refine x_callVv (As := [.int (-200 : Int32), .ref (1000 + 9)]) dX7_clauseHere_65 (aMet_of e7 (m_X7_much hM (-200 : Int32) (9) (Nat.le_of_ble_eq_true rfl) S1)) g_X7_clauseHere_107 rfl hM.1 rfl dd_X7_much rfl rfl (Nat.le_of_ble_eq_true rfl) (Nat.le_of_ble_eq_true rfl) (Nat.le_of_ble_eq_true rfl) ?_
        refine x_goto (tgt := 127) dX7_clauseHere_68 (by decide) ?_
        exact x_vret dX7_clauseHere_127 rfl
      · refine x_sw (119 : Int32) ?_ (fun hv3 => ?_)
        · refine x_look (off := 67) (tgt := 71) dX7_clauseHere_4 (by decide +kernel) (by decide +kernel) (by decide) ?_
          refine x_aload_n dX7_clauseHere_71 rfl rfl ?_
          refine x_bipush (119 : Int32) dX7_clauseHere_72 (by decide) ?_
          refine x_b (fun r3_ S3 e3 => ?_)
          refine x_callVv (As := [.int (119 : Int32)]) dX7_clauseHere_74 (aMet_of e3 (m_X7_must hM (119 : Int32) S1)) g_X7_clauseHere_68 rfl hM.1 rfl dd_X7_must rfl rfl (Nat.le_of_ble_eq_true rfl) (Nat.le_of_ble_eq_true rfl) (Nat.le_of_ble_eq_true rfl) ?_
          refine x_aload_n dX7_clauseHere_77 rfl rfl ?_
          refine x_b (fun r4_ S4 e4 => ?_)
          refine x_callVi (As := []) dX7_clauseHere_78 (aMet_of e4 (m_X7_here hM S3)) g_X7_clauseHere_55 rfl hM.1 rfl dd_X7_here rfl rfl (Nat.le_of_ble_eq_true rfl) (Nat.le_of_ble_eq_true rfl) (Nat.le_of_ble_eq_true rfl) ?_
          refine x_bipush (105 : Int32) dX7_clauseHere_81 (by decide) ?_
          refine x_icmp_ne (tgt := 98) dX7_clauseHere_83 (by decide) ?_ ?_
          · refine x_aload_n dX7_clauseHere_98 rfl rfl ?_
            refine x_sipush (200 : Int32) dX7_clauseHere_99 (by decide) ?_
            refine x_ldcS (i := 11) (tx := "edge ") dX7_clauseHere_102 (by decide +kernel) ?_
            refine x_b (fun r5_ S5 e5 => ?_)
            refine x_callVv (As := [.int (200 : Int32), .ref (1000 + 11)]) dX7_clauseHere_104 (aMet_of e5 (m_X7_tellsHere hM (200 : Int32) (11) (Nat.le_of_ble_eq_true rfl) S4)) g_X7_clauseHere_117 rfl hM.1 rfl dd_X7_tellsHere rfl rfl (Nat.le_of_ble_eq_true rfl) (Nat.le_of_ble_eq_true rfl) (Nat.le_of_ble_eq_true rfl) ?_
            refine x_goto (tgt := 127) dX7_clauseHere_107 (by decide) ?_
            exact x_vret dX7_clauseHere_127 rfl
          · refine x_aload_n dX7_clauseHere_86 rfl rfl ?_
            refine x_sipush (-400 : Int32) dX7_clauseHere_87 (by decide) ?_
            refine x_ldcS (i := 10) (tx := "ind ") dX7_clauseHere_90 (by decide +kernel) ?_
            refine x_b (fun r6_ S6 e6 => ?_)
            refine x_callVv (As := [.int (-400 : Int32), .ref (1000 + 10)]) dX7_clauseHere_92 (aMet_of e6 (m_X7_much hM (-400 : Int32) (10) (Nat.le_of_ble_eq_true rfl) S4)) g_X7_clauseHere_107 rfl hM.1 rfl dd_X7_much rfl rfl (Nat.le_of_ble_eq_true rfl) (Nat.le_of_ble_eq_true rfl) (Nat.le_of_ble_eq_true rfl) ?_
            refine x_goto (tgt := 127) dX7_clauseHere_95 (by decide) ?_
            exact x_vret dX7_clauseHere_127 rfl
        · refine x_look (off := 118) (tgt := 122) dX7_clauseHere_4 (by decide +kernel) (a_lookN [(104 : Int32), (114 : Int32), (115 : Int32), (119 : Int32)] (by decide +kernel) (List.forall_mem_cons.mpr ⟨hv0, (List.forall_mem_cons.mpr ⟨hv1, (List.forall_mem_cons.mpr ⟨hv2, (List.forall_mem_cons.mpr ⟨hv3, (fun _ h => absurd h List.not_mem_nil)⟩)⟩)⟩)⟩)) (by decide) ?_
          refine x_aload_n dX7_clauseHere_122 rfl rfl ?_
          refine x_iconst (1 : Int32) dX7_clauseHere_123 (by decide) ?_
          refine x_putZc (k := 0) (j := 7) dX7_clauseHere_124 hM.1 rfl rfl (Nat.le_of_ble_eq_true rfl) (fun w h => List.mem_cons_of_mem _ (inlX7 w h)) w_X7_clauseHere_f51 tyX7 tyX7_ok nmX7 rfl (by decide +kernel) (by decide) ?_
          refine x_ltS (fun S2 => ?_)
          exact x_vret dX7_clauseHere_127 rfl
theorem dd_X7_clauseHere : yX7_clauseHere.cls = RX7 ∧ yX7_clauseHere.cls ≠ "java/lang/invoke/MethodHandle" ∧ yX7_clauseHere.cls ≠ "java/lang/invoke/VarHandle" ∧ (parseMethodDescriptor yX7_clauseHere.desc).map (fun d => d.parameters.length) = some 0 := by decide +kernel
theorem w_X7_wood_f9 : Cond.fieldLink yX7_wood.cls 9 (TX7 1).1 (TX7 1).2.1 (TX7 1).2.2.1 ∈ uX7_wood := List.mem_cons_of_mem _ (wU_r4 _ (List.mem_of_getElem? (i := 14) rfl))
theorem w_X7_wood_f72 : Cond.fieldLink yX7_wood.cls 72 (TX7 4).1 (TX7 4).2.1 (TX7 4).2.2.1 ∈ uX7_wood := List.mem_cons_of_mem _ (wU_r14 _ (List.mem_of_getElem? (i := 7) rfl))
theorem w_X7_wood_f48 : Cond.fieldLink yX7_wood.cls 48 (TX7 6).1 (TX7 6).2.1 (TX7 6).2.2.1 ∈ uX7_wood := List.mem_cons_of_mem _ (wU_r14 _ (List.mem_of_getElem? (i := 8) rfl))
theorem w_X7_wood_f45 : Cond.fieldLink yX7_wood.cls 45 (TX7 5).1 (TX7 5).2.1 (TX7 5).2.2.1 ∈ uX7_wood := List.mem_cons_of_mem _ (wU_r14 _ (List.mem_of_getElem? (i := 9) rfl))
theorem w_X7_wood_f51 : Cond.fieldLink yX7_wood.cls 51 (TX7 7).1 (TX7 7).2.1 (TX7 7).2.2.1 ∈ uX7_wood := List.mem_cons_of_mem _ (wU_r14 _ (List.mem_of_getElem? (i := 10) rfl))
theorem w_X7_wood_f75 : Cond.fieldLink yX7_wood.cls 75 (TX7 8).1 (TX7 8).2.1 (TX7 8).2.2.1 ∈ uX7_wood := List.mem_cons_of_mem _ (wU_r14 _ (List.mem_of_getElem? (i := 11) rfl))
theorem g_X7_wood_122 : GoodIn uX7_wood (wsV yX7_wood.cls 122 RX7 yX7_clauseHere uX7_clauseHere) := gU_V (wU_r14 _ (List.mem_of_getElem? (i := 12) rfl)) (wU_r14 _ (List.mem_of_getElem? (i := 13) rfl)) (wU_r14 _ (List.mem_of_getElem? (i := 14) rfl)) (wU_r1 _ (List.mem_of_getElem? (i := 5) rfl)) (wU_r14 _ (List.mem_of_getElem? (i := 15) rfl))
theorem g_X7_wood_55 : GoodIn uX7_wood (wsV yX7_wood.cls 55 RX7 yX7_here uX7_here) := gU_V (wU_r14 _ (List.mem_of_getElem? (i := 16) rfl)) (wU_r14 _ (List.mem_of_getElem? (i := 17) rfl)) (wU_r14 _ (List.mem_of_getElem? (i := 18) rfl)) (wU_r1 _ (List.mem_of_getElem? (i := 5) rfl)) (wU_r14 _ (List.mem_of_getElem? (i := 19) rfl))
def f_X7_wood_163   (S : aSt) : Option (Int32 × aSt) := (some (((-10 : Int32) - (S.1 (0) 5)), S))
set_option maxRecDepth 20000 in
set_option maxHeartbeats 4000000 in
theorem v_X7_wood_163 {G : aG} (hM : aMo G)  (S : aSt) : aX G yX7_wood cX7_wood 2 (some .int) uX7_wood 33 mk_i (f_X7_wood_163 S) 163 [some (.ref (0)), none] [] S := by
  unfold f_X7_wood_163
  refine x_bipush (-10 : Int32) dX7_wood_163 (by decide) ?_
  refine x_aload_n dX7_wood_165 rfl rfl ?_
  refine x_getI (k := 0) (j := 5) dX7_wood_166 hM.1 rfl rfl (Nat.le_of_ble_eq_true rfl) (fun w h => List.mem_cons_of_mem _ (inlX7 w h)) w_X7_wood_f45 ?_
  refine x_isub dX7_wood_169 ?_
  exact x_iret dX7_wood_170 rfl
def f_X7_wood_145   (S : aSt) : Option (Int32 × aSt) := (if (S.1 (0) 7) = 0 then (if (S.1 (0) 5) = (S.1 (0) 6) then (aLt (aUi S (1) 1 ((S.1 (1) 1) + (1 : Int32))) (fun S15 => (aLt (aUi S15 (1) 4 (S15.1 (0) 4)) (fun S16 => (some ((S16.1 (0) 4), S16)))))) else (f_X7_wood_163 S)) else (f_X7_wood_163 S))
set_option maxRecDepth 20000 in
set_option maxHeartbeats 4000000 in
theorem v_X7_wood_145 {G : aG} (hM : aMo G)  (S : aSt) : aX G yX7_wood cX7_wood 2 (some .int) uX7_wood 33 mk_i (f_X7_wood_145 S) 145 [some (.ref (0)), none] [] S := by
  unfold f_X7_wood_145
  refine x_aload_n dX7_wood_145 rfl rfl ?_
  refine x_getI (k := 0) (j := 7) dX7_wood_146 hM.1 rfl rfl (Nat.le_of_ble_eq_true rfl) (fun w h => List.mem_cons_of_mem _ (inlX7 w h)) w_X7_wood_f51 ?_
  refine x_if_ne (tgt := 163) dX7_wood_149 (by decide) ?_ ?_
  · exact x_le (v_X7_wood_163 hM S) (And.intro rfl trivial)
  · refine x_aload_n dX7_wood_152 rfl rfl ?_
    refine x_getI (k := 0) (j := 5) dX7_wood_153 hM.1 rfl rfl (Nat.le_of_ble_eq_true rfl) (fun w h => List.mem_cons_of_mem _ (inlX7 w h)) w_X7_wood_f45 ?_
    refine x_aload_n dX7_wood_156 rfl rfl ?_
    refine x_getI (k := 0) (j := 6) dX7_wood_157 hM.1 rfl rfl (Nat.le_of_ble_eq_true rfl) (fun w h => List.mem_cons_of_mem _ (inlX7 w h)) w_X7_wood_f48 ?_
    refine x_icmp_eq (tgt := 171) dX7_wood_160 (by decide) ?_ ?_
    · refine x_aload_n dX7_wood_171 rfl rfl ?_
      refine x_getR (r := 1) (k := 0) (j := 1) dX7_wood_172 hM.1 rfl rfl (Nat.le_of_ble_eq_true rfl) (fun w h => List.mem_cons_of_mem _ (inlX7 w h)) w_X7_wood_f9 ?_
      refine x_iconst (1 : Int32) dX7_wood_175 (by decide) ?_
      refine x_dup2 dX7_wood_176 rfl rfl ?_
      refine x_ialdc (j := 1) dX7_wood_177 hM.2.1 (by unfold vp_in; decide) (by decide) ?_
      refine x_iconst (1 : Int32) dX7_wood_178 (by decide) ?_
      refine x_iadd dX7_wood_179 ?_
      refine x_iastc (j := 1) dX7_wood_180 hM.2.1 (by unfold vp_in; decide) (by decide) ?_
      refine x_ltS (fun S15 => ?_)
      refine x_aload_n dX7_wood_181 rfl rfl ?_
      refine x_getR (r := 1) (k := 0) (j := 1) dX7_wood_182 hM.1 rfl rfl (Nat.le_of_ble_eq_true rfl) (fun w h => List.mem_cons_of_mem _ (inlX7 w h)) w_X7_wood_f9 ?_
      refine x_iconst (4 : Int32) dX7_wood_185 (by decide) ?_
      refine x_aload_n dX7_wood_186 rfl rfl ?_
      refine x_getI (k := 0) (j := 4) dX7_wood_187 hM.1 rfl rfl (Nat.le_of_ble_eq_true rfl) (fun w h => List.mem_cons_of_mem _ (inlX7 w h)) w_X7_wood_f72 ?_
      refine x_iastc (j := 4) dX7_wood_190 hM.2.1 (by unfold vp_in; decide) (by decide) ?_
      refine x_ltS (fun S16 => ?_)
      refine x_aload_n dX7_wood_191 rfl rfl ?_
      refine x_getI (k := 0) (j := 4) dX7_wood_192 hM.1 rfl rfl (Nat.le_of_ble_eq_true rfl) (fun w h => List.mem_cons_of_mem _ (inlX7 w h)) w_X7_wood_f72 ?_
      exact x_iret dX7_wood_195 rfl
    · exact x_le (v_X7_wood_163 hM S) (And.intro rfl trivial)
def f_X7_wood_103  : Nat → Int32 → aSt → Option (Int32 × aSt)
  | 0, _, _ => none
  | n + 1, l1, S => (if (S.1 (0) 7) = 0 then (if (10 : Int32) ≤ l1 then (f_X7_wood_145 S) else (aB (f_X7_here S) (fun r11_ S11 => (if r11_ = (59 : Int32) then (aLt (aUi S11 (0) 5 ((S11.1 (0) 5) + (1 : Int32))) (fun S12 => (aB (f_X7_clauseHere S12) (fun r13_ S13 => (aLt (l1 + (1 : Int32)) (fun x14 => (f_X7_wood_103 n x14 S13))))))) else (f_X7_wood_145 S11))))) else (f_X7_wood_145 S))
set_option maxRecDepth 20000 in
set_option maxHeartbeats 4000000 in
theorem v_X7_wood_103 {G : aG} (hM : aMo G) : ∀ (n : Nat) (l1 : Int32) (S : aSt), aX G yX7_wood cX7_wood 2 (some .int) uX7_wood 33 mk_i (f_X7_wood_103 n l1 S) 103 [some (.ref (0)), some (.int l1)] [] S := by
  intro n
  induction n with
  | zero => intro l1 S; exact x_none
  | succ n ih =>
    intro l1 S
    unfold f_X7_wood_103
    refine x_aload_n dX7_wood_103 rfl rfl ?_
    refine x_getI (k := 0) (j := 7) dX7_wood_104 hM.1 rfl rfl (Nat.le_of_ble_eq_true rfl) (fun w h => List.mem_cons_of_mem _ (inlX7 w h)) w_X7_wood_f51 ?_
    refine x_if_ne (tgt := 145) dX7_wood_107 (by decide) ?_ ?_
    · exact x_le (v_X7_wood_145 hM S) (And.intro rfl trivial)
    · refine x_iload_n dX7_wood_110 rfl rfl ?_
      refine x_bipush (10 : Int32) dX7_wood_111 (by decide) ?_
      refine x_icmp_ge (tgt := 145) dX7_wood_113 (by decide) ?_ ?_
      · exact x_le (v_X7_wood_145 hM S) (And.intro rfl trivial)
      · refine x_aload_n dX7_wood_116 rfl rfl ?_
        refine x_b (fun r11_ S11 e11 => ?_)
        refine x_callVi (As := []) dX7_wood_117 (aMet_of e11 (m_X7_here hM S)) g_X7_wood_55 rfl hM.1 rfl dd_X7_here rfl rfl (Nat.le_of_ble_eq_true rfl) (Nat.le_of_ble_eq_true rfl) (Nat.le_of_ble_eq_true rfl) ?_
        refine x_bipush (59 : Int32) dX7_wood_120 (by decide) ?_
        refine x_icmp_ne (tgt := 145) dX7_wood_122 (by decide) ?_ ?_
        · exact x_le (v_X7_wood_145 hM S11) (And.intro rfl trivial)
        · refine x_aload_n dX7_wood_125 rfl rfl ?_
          refine x_dup dX7_wood_126 rfl ?_
          refine x_getI (k := 0) (j := 5) dX7_wood_127 hM.1 rfl rfl (Nat.le_of_ble_eq_true rfl) (fun w h => List.mem_cons_of_mem _ (inlX7 w h)) w_X7_wood_f45 ?_
          refine x_iconst (1 : Int32) dX7_wood_130 (by decide) ?_
          refine x_iadd dX7_wood_131 ?_
          refine x_putI (k := 0) (j := 5) dX7_wood_132 hM.1 rfl rfl (Nat.le_of_ble_eq_true rfl) (fun w h => List.mem_cons_of_mem _ (inlX7 w h)) w_X7_wood_f45 tyX7 tyX7_ok nmX7 rfl (by decide +kernel) ?_
          refine x_ltS (fun S12 => ?_)
          refine x_aload_n dX7_wood_135 rfl rfl ?_
          refine x_b (fun r13_ S13 e13 => ?_)
          refine x_callVv (As := []) dX7_wood_136 (aMet_of e13 (m_X7_clauseHere hM S12)) g_X7_wood_122 rfl hM.1 rfl dd_X7_clauseHere rfl rfl (Nat.le_of_ble_eq_true rfl) (Nat.le_of_ble_eq_true rfl) (Nat.le_of_ble_eq_true rfl) ?_
          refine x_iincL (w := (1 : Int32)) dX7_wood_139 rfl (by decide) (Nat.le_of_ble_eq_true rfl) rfl (fun x14 => ?_)
          refine x_goto (tgt := 103) dX7_wood_142 (by decide) ?_
          exact x_le (ih x14 S13) (And.intro rfl (And.intro rfl trivial))
def f_X7_wood  (S : aSt) : Option (Int32 × aSt) := (if (S.1 (1) 1) = (5 : Int32) then (some ((-4 : Int32), S)) else (aLt (aUi S (0) 4 (S.1 (1) 1)) (fun S1 => (aLt (aUi S1 (0) 6 (S1.1 (1) 3)) (fun S2 => (aLt (aUi S2 (1) 3 (0 : Int32)) (fun S3 => (if ((200 : Int32) + (S3.1 (0) 4)) < 0 ∨ 979 ≤ (((200 : Int32) + (S3.1 (0) 4))).toNatClampNeg then none else (aLt (aUi S3 (1) (((200 : Int32) + (S3.1 (0) 4))).toNatClampNeg (3 : Int32)) (fun S4 => (if ((205 : Int32) + (S4.1 (0) 4)) < 0 ∨ 979 ≤ (((205 : Int32) + (S4.1 (0) 4))).toNatClampNeg then none else (aLt (aUi S4 (1) (((205 : Int32) + (S4.1 (0) 4))).toNatClampNeg (2 : Int32)) (fun S5 => (if ((274 : Int32) + (S5.1 (0) 4)) < 0 ∨ 979 ≤ (((274 : Int32) + (S5.1 (0) 4))).toNatClampNeg then none else (aLt (aUi S5 (1) (((274 : Int32) + (S5.1 (0) 4))).toNatClampNeg (0 : Int32)) (fun S6 => (aLt (aUi S6 (0) 5 (0 : Int32)) (fun S7 => (aLt (aUi S7 (0) 7 (0 : Int32)) (fun S8 => (aLt (aUi S8 (0) 8 (0 : Int32)) (fun S9 => (aB (f_X7_clauseHere S9) (fun r10_ S10 => (f_X7_wood_103 aF (1 : Int32) S10)))))))))))))))))))))))))
set_option maxRecDepth 20000 in
set_option maxHeartbeats 4000000 in
theorem m_X7_wood {G : aG} (hM : aMo G)  (S : aSt) : aMet G yX7_wood uX7_wood 33 mk_i (f_X7_wood S) [.ref (0)] S := by
  refine x_met (cc := cX7_wood) (nL := 2) (ret := (some .int)) (L := [some (.ref (0)), none]) (by decide +kernel) rfl (And.intro rfl trivial) (Nat.le_of_ble_eq_true rfl) ?_
  unfold f_X7_wood
  refine x_aload_n dX7_wood_0 rfl rfl ?_
  refine x_getR (r := 1) (k := 0) (j := 1) dX7_wood_1 hM.1 rfl rfl (Nat.le_of_ble_eq_true rfl) (fun w h => List.mem_cons_of_mem _ (inlX7 w h)) w_X7_wood_f9 ?_
  refine x_iconst (1 : Int32) dX7_wood_4 (by decide) ?_
  refine x_ialdc (j := 1) dX7_wood_5 hM.2.1 (by unfold vp_in; decide) (by decide) ?_
  refine x_iconst (5 : Int32) dX7_wood_6 (by decide) ?_
  refine x_icmp_ne (tgt := 13) dX7_wood_7 (by decide) ?_ ?_
  · refine x_aload_n dX7_wood_13 rfl rfl ?_
    refine x_aload_n dX7_wood_14 rfl rfl ?_
    refine x_getR (r := 1) (k := 0) (j := 1) dX7_wood_15 hM.1 rfl rfl (Nat.le_of_ble_eq_true rfl) (fun w h => List.mem_cons_of_mem _ (inlX7 w h)) w_X7_wood_f9 ?_
    refine x_iconst (1 : Int32) dX7_wood_18 (by decide) ?_
    refine x_ialdc (j := 1) dX7_wood_19 hM.2.1 (by unfold vp_in; decide) (by decide) ?_
    refine x_putI (k := 0) (j := 4) dX7_wood_20 hM.1 rfl rfl (Nat.le_of_ble_eq_true rfl) (fun w h => List.mem_cons_of_mem _ (inlX7 w h)) w_X7_wood_f72 tyX7 tyX7_ok nmX7 rfl (by decide +kernel) ?_
    refine x_ltS (fun S1 => ?_)
    refine x_aload_n dX7_wood_23 rfl rfl ?_
    refine x_aload_n dX7_wood_24 rfl rfl ?_
    refine x_getR (r := 1) (k := 0) (j := 1) dX7_wood_25 hM.1 rfl rfl (Nat.le_of_ble_eq_true rfl) (fun w h => List.mem_cons_of_mem _ (inlX7 w h)) w_X7_wood_f9 ?_
    refine x_iconst (3 : Int32) dX7_wood_28 (by decide) ?_
    refine x_ialdc (j := 3) dX7_wood_29 hM.2.1 (by unfold vp_in; decide) (by decide) ?_
    refine x_putI (k := 0) (j := 6) dX7_wood_30 hM.1 rfl rfl (Nat.le_of_ble_eq_true rfl) (fun w h => List.mem_cons_of_mem _ (inlX7 w h)) w_X7_wood_f48 tyX7 tyX7_ok nmX7 rfl (by decide +kernel) ?_
    refine x_ltS (fun S2 => ?_)
    refine x_aload_n dX7_wood_33 rfl rfl ?_
    refine x_getR (r := 1) (k := 0) (j := 1) dX7_wood_34 hM.1 rfl rfl (Nat.le_of_ble_eq_true rfl) (fun w h => List.mem_cons_of_mem _ (inlX7 w h)) w_X7_wood_f9 ?_
    refine x_iconst (3 : Int32) dX7_wood_37 (by decide) ?_
    refine x_iconst (0 : Int32) dX7_wood_38 (by decide) ?_
    refine x_iastc (j := 3) dX7_wood_39 hM.2.1 (by unfold vp_in; decide) (by decide) ?_
    refine x_ltS (fun S3 => ?_)
    refine x_aload_n dX7_wood_40 rfl rfl ?_
    refine x_getR (r := 1) (k := 0) (j := 1) dX7_wood_41 hM.1 rfl rfl (Nat.le_of_ble_eq_true rfl) (fun w h => List.mem_cons_of_mem _ (inlX7 w h)) w_X7_wood_f9 ?_
    refine x_sipush (200 : Int32) dX7_wood_44 (by decide) ?_
    refine x_aload_n dX7_wood_47 rfl rfl ?_
    refine x_getI (k := 0) (j := 4) dX7_wood_48 hM.1 rfl rfl (Nat.le_of_ble_eq_true rfl) (fun w h => List.mem_cons_of_mem _ (inlX7 w h)) w_X7_wood_f72 ?_
    refine x_iadd dX7_wood_51 ?_
    refine x_iconst (3 : Int32) dX7_wood_52 (by decide) ?_
    refine x_iast dX7_wood_53 hM.2.1 ?_
    refine x_ltS (fun S4 => ?_)
    refine x_aload_n dX7_wood_54 rfl rfl ?_
    refine x_getR (r := 1) (k := 0) (j := 1) dX7_wood_55 hM.1 rfl rfl (Nat.le_of_ble_eq_true rfl) (fun w h => List.mem_cons_of_mem _ (inlX7 w h)) w_X7_wood_f9 ?_
    refine x_sipush (205 : Int32) dX7_wood_58 (by decide) ?_
    refine x_aload_n dX7_wood_61 rfl rfl ?_
    refine x_getI (k := 0) (j := 4) dX7_wood_62 hM.1 rfl rfl (Nat.le_of_ble_eq_true rfl) (fun w h => List.mem_cons_of_mem _ (inlX7 w h)) w_X7_wood_f72 ?_
    refine x_iadd dX7_wood_65 ?_
    refine x_iconst (2 : Int32) dX7_wood_66 (by decide) ?_
    refine x_iast dX7_wood_67 hM.2.1 ?_
    refine x_ltS (fun S5 => ?_)
    refine x_aload_n dX7_wood_68 rfl rfl ?_
    refine x_getR (r := 1) (k := 0) (j := 1) dX7_wood_69 hM.1 rfl rfl (Nat.le_of_ble_eq_true rfl) (fun w h => List.mem_cons_of_mem _ (inlX7 w h)) w_X7_wood_f9 ?_
    refine x_sipush (274 : Int32) dX7_wood_72 (by decide) ?_
    refine x_aload_n dX7_wood_75 rfl rfl ?_
    refine x_getI (k := 0) (j := 4) dX7_wood_76 hM.1 rfl rfl (Nat.le_of_ble_eq_true rfl) (fun w h => List.mem_cons_of_mem _ (inlX7 w h)) w_X7_wood_f72 ?_
    refine x_iadd dX7_wood_79 ?_
    refine x_iconst (0 : Int32) dX7_wood_80 (by decide) ?_
    refine x_iast dX7_wood_81 hM.2.1 ?_
    refine x_ltS (fun S6 => ?_)
    refine x_aload_n dX7_wood_82 rfl rfl ?_
    refine x_iconst (0 : Int32) dX7_wood_83 (by decide) ?_
    refine x_putI (k := 0) (j := 5) dX7_wood_84 hM.1 rfl rfl (Nat.le_of_ble_eq_true rfl) (fun w h => List.mem_cons_of_mem _ (inlX7 w h)) w_X7_wood_f45 tyX7 tyX7_ok nmX7 rfl (by decide +kernel) ?_
    refine x_ltS (fun S7 => ?_)
    refine x_aload_n dX7_wood_87 rfl rfl ?_
    refine x_iconst (0 : Int32) dX7_wood_88 (by decide) ?_
    refine x_putZc (k := 0) (j := 7) dX7_wood_89 hM.1 rfl rfl (Nat.le_of_ble_eq_true rfl) (fun w h => List.mem_cons_of_mem _ (inlX7 w h)) w_X7_wood_f51 tyX7 tyX7_ok nmX7 rfl (by decide +kernel) (by decide) ?_
    refine x_ltS (fun S8 => ?_)
    refine x_aload_n dX7_wood_92 rfl rfl ?_
    refine x_iconst (0 : Int32) dX7_wood_93 (by decide) ?_
    refine x_putI (k := 0) (j := 8) dX7_wood_94 hM.1 rfl rfl (Nat.le_of_ble_eq_true rfl) (fun w h => List.mem_cons_of_mem _ (inlX7 w h)) w_X7_wood_f75 tyX7 tyX7_ok nmX7 rfl (by decide +kernel) ?_
    refine x_ltS (fun S9 => ?_)
    refine x_iconst (1 : Int32) dX7_wood_97 (by decide) ?_
    refine x_istore_n dX7_wood_98 rfl (Nat.le_of_ble_eq_true rfl) rfl ?_
    refine x_aload_n dX7_wood_99 rfl rfl ?_
    refine x_b (fun r10_ S10 e10 => ?_)
    refine x_callVv (As := []) dX7_wood_100 (aMet_of e10 (m_X7_clauseHere hM S9)) g_X7_wood_122 rfl hM.1 rfl dd_X7_clauseHere rfl rfl (Nat.le_of_ble_eq_true rfl) (Nat.le_of_ble_eq_true rfl) (Nat.le_of_ble_eq_true rfl) ?_
    exact x_le (v_X7_wood_103 hM aF (1 : Int32) S10) (And.intro rfl (And.intro rfl trivial))
  · refine x_bipush (-4 : Int32) dX7_wood_10 (by decide) ?_
    exact x_iret dX7_wood_12 rfl

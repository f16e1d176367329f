/-! written by program: what the bytecode does, and the walk -/
theorem w_X6_waysByStrip_f42 : Cond.fieldLink yX6_waysByStrip.cls 42 (TX6 4).1 (TX6 4).2.1 (TX6 4).2.2.1 ∈ uX6_waysByStrip := List.mem_cons_of_mem _ (wU_r2 _ (List.mem_of_getElem? (i := 8) rfl))
theorem w_X6_waysByStrip_f145 : Cond.fieldLink yX6_waysByStrip.cls 145 (TX4 9).1 (TX4 9).2.1 (TX4 9).2.2.1 ∈ uX6_waysByStrip := List.mem_cons_of_mem _ (wU_r20 _ (List.mem_of_getElem? (i := 1) rfl))
theorem w_X6_waysByStrip_f28 : Cond.fieldLink yX6_waysByStrip.cls 28 (TX6 2).1 (TX6 2).2.1 (TX6 2).2.2.1 ∈ uX6_waysByStrip := List.mem_cons_of_mem _ (wU_r2 _ (List.mem_of_getElem? (i := 0) rfl))
theorem w_X6_waysByStrip_f12 : Cond.fieldLink yX6_waysByStrip.cls 12 (TX6 0).1 (TX6 0).2.1 (TX6 0).2.2.1 ∈ uX6_waysByStrip := List.mem_cons_of_mem _ (wU_r1 _ (List.mem_of_getElem? (i := 16) rfl))
theorem w_X6_waysByStrip_f79 : Cond.fieldLink yX6_waysByStrip.cls 79 (TX2 8).1 (TX2 8).2.1 (TX2 8).2.2.1 ∈ uX6_waysByStrip := List.mem_cons_of_mem _ (wU_r6 _ (List.mem_of_getElem? (i := 13) rfl))
theorem g_X6_waysByStrip_194 : GoodIn uX6_waysByStrip (wsV yX6_waysByStrip.cls 194 RX1 yX1_push uX1_push) := gU_V (wU_r28 _ (List.mem_of_getElem? (i := 16) rfl)) (wU_r22 _ (List.mem_of_getElem? (i := 7) rfl)) (wU_r22 _ (List.mem_of_getElem? (i := 8) rfl)) (wU_r1 _ (List.mem_of_getElem? (i := 23) rfl)) (wU_r22 _ (List.mem_of_getElem? (i := 9) rfl))
theorem w_X6_waysByStrip_f168 : Cond.fieldLink yX6_waysByStrip.cls 168 (TX1 5).1 (TX1 5).2.1 (TX1 5).2.2.1 ∈ uX6_waysByStrip := List.mem_cons_of_mem _ (wU_r20 _ (List.mem_of_getElem? (i := 15) rfl))
theorem g_X6_waysByStrip_197 : GoodIn uX6_waysByStrip (va_wsS yX6_waysByStrip.cls 197 yX6_bitOf uX6_bitOf) := gU_S (wU_r28 _ (List.mem_of_getElem? (i := 17) rfl)) (wU_r24 _ (List.mem_of_getElem? (i := 3) rfl)) (wU_r1 _ (List.mem_of_getElem? (i := 2) rfl)) (wU_r24 _ (List.mem_of_getElem? (i := 4) rfl))
def f_X6_waysByStrip_23 (r14 : Int32 → Int32 → aSt → Option (Int32 × aSt)) : Nat → Int32 → Int32 → Int32 → aSt → Option (Int32 × aSt)
  | 0, _, _, _, _ => none
  | n + 1, l2, l3, l4, S => (if (9 : Int32) < l4 then (aLt (l3 + (1 : Int32)) (fun x2 => (r14 l2 x2 S))) else (aLt (aUi S (32 + 1) 1 l3) (fun S3 => (aLt (aUi S3 (32 + 1) 2 l4) (fun S4 => (aB (f_X1_push (1 + 3) (32) (-1 : Int32) S4) (fun r5_ S5 => (aB (f_X6_bitOf (S5.1 (29) 5) S5) (fun r6_ S6 => (aLt (l2 ||| r6_) (fun x7 => (aLt (l4 + (1 : Int32)) (fun x8 => (f_X6_waysByStrip_23 r14 n x7 l3 x8 S6))))))))))))))
set_option maxRecDepth 20000 in
set_option maxHeartbeats 4000000 in
theorem v_X6_waysByStrip_23 {G : aG} {K : Option Nat} (hF : aFt G K) (r14 : Int32 → Int32 → aSt → Option (Int32 × aSt)) (hr14 : ∀ (l2 : Int32) (l3 : Int32) (S : aSt), aX G yX6_waysByStrip cX6_waysByStrip 5 (some .int) uX6_waysByStrip 6 mk_i (r14 l2 l3 S) 14 [some (.ref (0)), none, some (.int l2), some (.int l3), none] [] S) : ∀ (n : Nat) (l2 : Int32) (l3 : Int32) (l4 : Int32) (S : aSt), aX G yX6_waysByStrip cX6_waysByStrip 5 (some .int) uX6_waysByStrip 6 mk_i (f_X6_waysByStrip_23 r14 n l2 l3 l4 S) 23 [some (.ref (0)), none, some (.int l2), some (.int l3), some (.int l4)] [] S := by
  intro n
  induction n with
  | zero => intro l2 l3 l4 S; exact x_none
  | succ n ih =>
    intro l2 l3 l4 S
    unfold f_X6_waysByStrip_23
    refine x_iload dX6_waysByStrip_23 rfl ?_
    refine x_bipush (9 : Int32) dX6_waysByStrip_25 (by decide) ?_
    refine x_icmp_gt (tgt := 89) dX6_waysByStrip_27 (by decide) ?_ ?_
    · refine x_iincL (w := (1 : Int32)) dX6_waysByStrip_89 rfl (by decide) (Nat.le_of_ble_eq_true rfl) rfl (fun x2 => ?_)
      refine x_goto (tgt := 14) dX6_waysByStrip_92 (by decide) ?_
      exact x_le (hr14 l2 x2 S) (And.intro rfl (And.intro rfl (And.intro rfl trivial)))
    · refine x_aload_n dX6_waysByStrip_30 rfl rfl ?_
      refine x_getR (r := 32) (k := 0) (j := 4) dX6_waysByStrip_31 hF.1 rfl rfl (Nat.le_of_ble_eq_true rfl) (fun w h => List.mem_cons_of_mem _ (inlX6 w h)) w_X6_waysByStrip_f42 ?_
      refine x_getR (r := 32 + 1) (k := 32) (j := 9) dX6_waysByStrip_34 hF.2.2.2.2.2.1.1 rfl rfl (Nat.le_of_ble_eq_true rfl) (fun w h => List.mem_cons_of_mem _ (inlX4 w h)) w_X6_waysByStrip_f145 ?_
      refine x_iconst (1 : Int32) dX6_waysByStrip_37 (by decide) ?_
      refine x_iload_n dX6_waysByStrip_38 rfl rfl ?_
      refine x_iastc (j := 1) dX6_waysByStrip_39 hF.2.2.2.2.2.1.2 (by unfold vp_in; decide) (by decide) ?_
      refine x_ltS (fun S3 => ?_)
      refine x_aload_n dX6_waysByStrip_40 rfl rfl ?_
      refine x_getR (r := 32) (k := 0) (j := 4) dX6_waysByStrip_41 hF.1 rfl rfl (Nat.le_of_ble_eq_true rfl) (fun w h => List.mem_cons_of_mem _ (inlX6 w h)) w_X6_waysByStrip_f42 ?_
      refine x_getR (r := 32 + 1) (k := 32) (j := 9) dX6_waysByStrip_44 hF.2.2.2.2.2.1.1 rfl rfl (Nat.le_of_ble_eq_true rfl) (fun w h => List.mem_cons_of_mem _ (inlX4 w h)) w_X6_waysByStrip_f145 ?_
      refine x_iconst (2 : Int32) dX6_waysByStrip_47 (by decide) ?_
      refine x_iload dX6_waysByStrip_48 rfl ?_
      refine x_iastc (j := 2) dX6_waysByStrip_50 hF.2.2.2.2.2.1.2 (by unfold vp_in; decide) (by decide) ?_
      refine x_ltS (fun S4 => ?_)
      refine x_aload_n dX6_waysByStrip_51 rfl rfl ?_
      refine x_getR (r := 29) (k := 0) (j := 2) dX6_waysByStrip_52 hF.1 rfl rfl (Nat.le_of_ble_eq_true rfl) (fun w h => List.mem_cons_of_mem _ (inlX6 w h)) w_X6_waysByStrip_f28 ?_
      refine x_aload_n dX6_waysByStrip_55 rfl rfl ?_
      refine x_getR (r := 1) (k := 0) (j := 0) dX6_waysByStrip_56 hF.1 rfl rfl (Nat.le_of_ble_eq_true rfl) (fun w h => List.mem_cons_of_mem _ (inlX6 w h)) w_X6_waysByStrip_f12 ?_
      refine x_getR (r := 1 + 3) (k := 1) (j := 8) dX6_waysByStrip_59 hF.2.1.1 rfl rfl (Nat.le_of_ble_eq_true rfl) (fun w h => List.mem_cons_of_mem _ (inlX2 w h)) w_X6_waysByStrip_f79 ?_
      refine x_aload_n dX6_waysByStrip_62 rfl rfl ?_
      refine x_getR (r := 32) (k := 0) (j := 4) dX6_waysByStrip_63 hF.1 rfl rfl (Nat.le_of_ble_eq_true rfl) (fun w h => List.mem_cons_of_mem _ (inlX6 w h)) w_X6_waysByStrip_f42 ?_
      refine x_iconst (-1 : Int32) dX6_waysByStrip_66 (by decide) ?_
      refine x_b (fun r5_ S5 e5 => ?_)
      refine x_callVv (As := [.ref (1 + 3), .ref (32), .int (-1 : Int32)]) dX6_waysByStrip_67 (aMet_of e5 (m_X1_push hF.2.2.2.1 (1 + 3) hF.2.1.2.2.2.1 (32) hF.2.2.2.2.2.1 (-1 : Int32) S4)) g_X6_waysByStrip_194 rfl hF.2.2.2.1 rfl dd_X1_push rfl rfl (Nat.le_of_ble_eq_true rfl) (Nat.le_of_ble_eq_true rfl) (Nat.le_of_ble_eq_true rfl) ?_
      refine x_iload_n dX6_waysByStrip_70 rfl rfl ?_
      refine x_aload_n dX6_waysByStrip_71 rfl rfl ?_
      refine x_getR (r := 29) (k := 0) (j := 2) dX6_waysByStrip_72 hF.1 rfl rfl (Nat.le_of_ble_eq_true rfl) (fun w h => List.mem_cons_of_mem _ (inlX6 w h)) w_X6_waysByStrip_f28 ?_
      refine x_getI (k := 29) (j := 5) dX6_waysByStrip_75 hF.2.2.2.1 rfl rfl (Nat.le_of_ble_eq_true rfl) (fun w h => List.mem_cons_of_mem _ (inlX1 w h)) w_X6_waysByStrip_f168 ?_
      refine x_b (fun r6_ S6 e6 => ?_)
      refine x_callSi (As := [.int (S5.1 (29) 5)]) dX6_waysByStrip_78 (aMet_of e6 (m_X6_bitOf (S5.1 (29) 5) S5)) g_X6_waysByStrip_197 rfl dd_X6_bitOf rfl rfl (Nat.le_of_ble_eq_true rfl) (Nat.le_of_ble_eq_true rfl) (Nat.le_of_ble_eq_true rfl) ?_
      refine x_ior dX6_waysByStrip_81 ?_
      refine x_lti (fun x7 => ?_)
      refine x_istore_n dX6_waysByStrip_82 rfl (Nat.le_of_ble_eq_true rfl) rfl ?_
      refine x_iincL (w := (1 : Int32)) dX6_waysByStrip_83 rfl (by decide) (Nat.le_of_ble_eq_true rfl) rfl (fun x8 => ?_)
      refine x_goto (tgt := 23) dX6_waysByStrip_86 (by decide) ?_
      exact x_le (ih x7 l3 x8 S6) (And.intro rfl (And.intro rfl (And.intro rfl (And.intro rfl trivial))))
def f_X6_waysByStrip_14  : Nat → Int32 → Int32 → aSt → Option (Int32 × aSt)
  | 0, _, _, _ => none
  | n + 1, l2, l3, S => (if (9 : Int32) < l3 then (some (l2, S)) else (f_X6_waysByStrip_23 (fun l2 l3 S => (f_X6_waysByStrip_14 n l2 l3 S)) aF l2 l3 (0 : Int32) S))
set_option maxRecDepth 20000 in
set_option maxHeartbeats 4000000 in
theorem v_X6_waysByStrip_14 {G : aG} {K : Option Nat} (hF : aFt G K) : ∀ (n : Nat) (l2 : Int32) (l3 : Int32) (S : aSt), aX G yX6_waysByStrip cX6_waysByStrip 5 (some .int) uX6_waysByStrip 6 mk_i (f_X6_waysByStrip_14 n l2 l3 S) 14 [some (.ref (0)), none, some (.int l2), some (.int l3), none] [] S := by
  intro n
  induction n with
  | zero => intro l2 l3 S; exact x_none
  | succ n ih =>
    intro l2 l3 S
    unfold f_X6_waysByStrip_14
    refine x_iload_n dX6_waysByStrip_14 rfl rfl ?_
    refine x_bipush (9 : Int32) dX6_waysByStrip_15 (by decide) ?_
    refine x_icmp_gt (tgt := 95) dX6_waysByStrip_17 (by decide) ?_ ?_
    · refine x_iload_n dX6_waysByStrip_95 rfl rfl ?_
      exact x_iret dX6_waysByStrip_96 rfl
    · refine x_iconst (0 : Int32) dX6_waysByStrip_20 (by decide) ?_
      refine x_istore dX6_waysByStrip_21 (Nat.le_of_ble_eq_true rfl) rfl ?_
      exact x_le (v_X6_waysByStrip_23 hF (fun l2 l3 S => (f_X6_waysByStrip_14 n l2 l3 S)) ih aF l2 l3 (0 : Int32) S) (And.intro rfl (And.intro rfl (And.intro rfl (And.intro rfl trivial))))
def f_X6_waysByStrip (p1 : Int32) (S : aSt) : Option (Int32 × aSt) := (aLt (aUi S (32 + 1) 3 p1) (fun S1 => (f_X6_waysByStrip_14 aF (0 : Int32) (0 : Int32) S1)))
set_option maxRecDepth 20000 in
set_option maxHeartbeats 4000000 in
theorem m_X6_waysByStrip {G : aG} {K : Option Nat} (hF : aFt G K) (p1 : Int32) (S : aSt) : aMet G yX6_waysByStrip uX6_waysByStrip 6 mk_i (f_X6_waysByStrip p1 S) [.ref (0), .int p1] S := by
  refine x_met (cc := cX6_waysByStrip) (nL := 5) (ret := (some .int)) (L := [some (.ref (0)), some (.int p1), none, none, none]) (by decide +kernel) rfl (And.intro rfl (And.intro rfl trivial)) (Nat.le_of_ble_eq_true rfl) ?_
  unfold f_X6_waysByStrip
  refine x_aload_n dX6_waysByStrip_0 rfl rfl ?_
  refine x_getR (r := 32) (k := 0) (j := 4) dX6_waysByStrip_1 hF.1 rfl rfl (Nat.le_of_ble_eq_true rfl) (fun w h => List.mem_cons_of_mem _ (inlX6 w h)) w_X6_waysByStrip_f42 ?_
  refine x_getR (r := 32 + 1) (k := 32) (j := 9) dX6_waysByStrip_4 hF.2.2.2.2.2.1.1 rfl rfl (Nat.le_of_ble_eq_true rfl) (fun w h => List.mem_cons_of_mem _ (inlX4 w h)) w_X6_waysByStrip_f145 ?_
  refine x_iconst (3 : Int32) dX6_waysByStrip_7 (by decide) ?_
  refine x_iload_n dX6_waysByStrip_8 rfl rfl ?_
  refine x_iastc (j := 3) dX6_waysByStrip_9 hF.2.2.2.2.2.1.2 (by unfold vp_in; decide) (by decide) ?_
  refine x_ltS (fun S1 => ?_)
  refine x_iconst (0 : Int32) dX6_waysByStrip_10 (by decide) ?_
  refine x_istore_n dX6_waysByStrip_11 rfl (Nat.le_of_ble_eq_true rfl) rfl ?_
  refine x_iconst (0 : Int32) dX6_waysByStrip_12 (by decide) ?_
  refine x_istore_n dX6_waysByStrip_13 rfl (Nat.le_of_ble_eq_true rfl) rfl ?_
  exact x_le (v_X6_waysByStrip_14 hF aF (0 : Int32) (0 : Int32) S1) (And.intro rfl (And.intro rfl (And.intro rfl trivial)))
theorem dd_X6_waysByStrip : yX6_waysByStrip.cls = RX6 ∧ yX6_waysByStrip.cls ≠ "java/lang/invoke/MethodHandle" ∧ yX6_waysByStrip.cls ≠ "java/lang/invoke/VarHandle" ∧ (parseMethodDescriptor yX6_waysByStrip.desc).map (fun d => d.parameters.length) = some 1 := by decide +kernel
theorem w_X6_waysByWedges_f28 : Cond.fieldLink yX6_waysByWedges.cls 28 (TX6 2).1 (TX6 2).2.1 (TX6 2).2.2.1 ∈ uX6_waysByWedges := List.mem_cons_of_mem _ (wU_r2 _ (List.mem_of_getElem? (i := 0) rfl))
theorem w_X6_waysByWedges_f12 : Cond.fieldLink yX6_waysByWedges.cls 12 (TX6 0).1 (TX6 0).2.1 (TX6 0).2.2.1 ∈ uX6_waysByWedges := List.mem_cons_of_mem _ (wU_r1 _ (List.mem_of_getElem? (i := 16) rfl))
theorem w_X6_waysByWedges_f79 : Cond.fieldLink yX6_waysByWedges.cls 79 (TX2 8).1 (TX2 8).2.1 (TX2 8).2.2.1 ∈ uX6_waysByWedges := List.mem_cons_of_mem _ (wU_r6 _ (List.mem_of_getElem? (i := 13) rfl))
theorem w_X6_waysByWedges_f42 : Cond.fieldLink yX6_waysByWedges.cls 42 (TX6 4).1 (TX6 4).2.1 (TX6 4).2.2.1 ∈ uX6_waysByWedges := List.mem_cons_of_mem _ (wU_r2 _ (List.mem_of_getElem? (i := 8) rfl))
theorem g_X6_waysByWedges_190 : GoodIn uX6_waysByWedges (wsV yX6_waysByWedges.cls 190 RX1 yX1_weigh uX1_weigh) := gU_V (wU_r28 _ (List.mem_of_getElem? (i := 15) rfl)) (wU_r21 _ (List.mem_of_getElem? (i := 4) rfl)) (wU_r21 _ (List.mem_of_getElem? (i := 5) rfl)) (wU_r1 _ (List.mem_of_getElem? (i := 23) rfl)) (wU_r21 _ (List.mem_of_getElem? (i := 6) rfl))
theorem g_X6_waysByWedges_200 : GoodIn uX6_waysByWedges (wsV yX6_waysByWedges.cls 200 RX6 yX6_waysByStrip uX6_waysByStrip) := gU_V (wU_r28 _ (List.mem_of_getElem? (i := 18) rfl)) (wU_r28 _ (List.mem_of_getElem? (i := 19) rfl)) (wU_r28 _ (List.mem_of_getElem? (i := 20) rfl)) (wU_r1 _ (List.mem_of_getElem? (i := 2) rfl)) (wU_r28 _ (List.mem_of_getElem? (i := 21) rfl))
theorem w_X6_waysByWedges_f145 : Cond.fieldLink yX6_waysByWedges.cls 145 (TX4 9).1 (TX4 9).2.1 (TX4 9).2.2.1 ∈ uX6_waysByWedges := List.mem_cons_of_mem _ (wU_r20 _ (List.mem_of_getElem? (i := 1) rfl))
theorem g_X6_waysByWedges_194 : GoodIn uX6_waysByWedges (wsV yX6_waysByWedges.cls 194 RX1 yX1_push uX1_push) := gU_V (wU_r28 _ (List.mem_of_getElem? (i := 16) rfl)) (wU_r22 _ (List.mem_of_getElem? (i := 7) rfl)) (wU_r22 _ (List.mem_of_getElem? (i := 8) rfl)) (wU_r1 _ (List.mem_of_getElem? (i := 23) rfl)) (wU_r22 _ (List.mem_of_getElem? (i := 9) rfl))
theorem w_X6_waysByWedges_f165 : Cond.fieldLink yX6_waysByWedges.cls 165 (TX1 4).1 (TX1 4).2.1 (TX1 4).2.2.1 ∈ uX6_waysByWedges := List.mem_cons_of_mem _ (wU_r20 _ (List.mem_of_getElem? (i := 14) rfl))
theorem w_X6_waysByWedges_f168 : Cond.fieldLink yX6_waysByWedges.cls 168 (TX1 5).1 (TX1 5).2.1 (TX1 5).2.2.1 ∈ uX6_waysByWedges := List.mem_cons_of_mem _ (wU_r20 _ (List.mem_of_getElem? (i := 15) rfl))
theorem g_X6_waysByWedges_197 : GoodIn uX6_waysByWedges (va_wsS yX6_waysByWedges.cls 197 yX6_bitOf uX6_bitOf) := gU_S (wU_r28 _ (List.mem_of_getElem? (i := 17) rfl)) (wU_r24 _ (List.mem_of_getElem? (i := 3) rfl)) (wU_r1 _ (List.mem_of_getElem? (i := 2) rfl)) (wU_r24 _ (List.mem_of_getElem? (i := 4) rfl))
def f_X6_waysByWedges_102 (r25 : Int32 → Int32 → Int32 → Int32 → aSt → Option (Int32 × aSt)) (l1 : Int32) (l2 : Int32) (l3 : Int32) (l4 : Int32) (S : aSt) : Option (Int32 × aSt) := (aLt (l4 + (1 : Int32)) (fun x7 => (r25 l1 l2 l3 x7 S)))
set_option maxRecDepth 20000 in
set_option maxHeartbeats 4000000 in
theorem v_X6_waysByWedges_102 {G : aG} {K : Option Nat} (hF : aFt G K) (r25 : Int32 → Int32 → Int32 → Int32 → aSt → Option (Int32 × aSt)) (hr25 : ∀ (l1 : Int32) (l2 : Int32) (l3 : Int32) (l4 : Int32) (S : aSt), aX G yX6_waysByWedges cX6_waysByWedges 5 (some .int) uX6_waysByWedges 7 mk_i (r25 l1 l2 l3 l4 S) 25 [some (.ref (0)), some (.int l1), some (.int l2), some (.int l3), some (.int l4)] [] S) (l1 : Int32) (l2 : Int32) (l3 : Int32) (l4 : Int32) (S : aSt) : aX G yX6_waysByWedges cX6_waysByWedges 5 (some .int) uX6_waysByWedges 7 mk_i (f_X6_waysByWedges_102 r25 l1 l2 l3 l4 S) 102 [some (.ref (0)), some (.int l1), some (.int l2), some (.int l3), some (.int l4)] [] S := by
  unfold f_X6_waysByWedges_102
  refine x_iincL (w := (1 : Int32)) dX6_waysByWedges_102 rfl (by decide) (Nat.le_of_ble_eq_true rfl) rfl (fun x7 => ?_)
  refine x_goto (tgt := 25) dX6_waysByWedges_105 (by decide) ?_
  exact x_le (hr25 l1 l2 l3 x7 S) (And.intro rfl (And.intro rfl (And.intro rfl (And.intro rfl (And.intro rfl trivial)))))
def f_X6_waysByWedges_25  : Nat → Int32 → Int32 → Int32 → Int32 → aSt → Option (Int32 × aSt)
  | 0, _, _, _, _, _ => none
  | n + 1, l1, l2, l3, l4, S => (if l1 < l4 then (if l3 = (-1 : Int32) then (some (l2, S)) else (aB (f_X6_waysByStrip l3 S) (fun r2_ S2 => (some ((l2 ||| r2_), S2))))) else (aLt (aUi S (32 + 1) 3 l4) (fun S3 => (aB (f_X1_push (1 + 3) (32) (-1 : Int32) S3) (fun r4_ S4 => (if (S4.1 (29) 4) = (4 : Int32) then (aB (f_X6_bitOf (S4.1 (29) 5) S4) (fun r5_ S5 => (aLt (l2 ||| r5_) (fun x6 => (f_X6_waysByWedges_102 (fun l1 l2 l3 l4 S => (f_X6_waysByWedges_25 n l1 l2 l3 l4 S)) l1 x6 l3 l4 S5))))) else (if (S4.1 (29) 4) = (2 : Int32) then (f_X6_waysByWedges_102 (fun l1 l2 l3 l4 S => (f_X6_waysByWedges_25 n l1 l2 l3 l4 S)) l1 l2 l3 l4 S4) else (f_X6_waysByWedges_102 (fun l1 l2 l3 l4 S => (f_X6_waysByWedges_25 n l1 l2 l3 l4 S)) l1 l2 l4 l4 S4))))))))
set_option maxRecDepth 20000 in
set_option maxHeartbeats 4000000 in
theorem v_X6_waysByWedges_25 {G : aG} {K : Option Nat} (hF : aFt G K) : ∀ (n : Nat) (l1 : Int32) (l2 : Int32) (l3 : Int32) (l4 : Int32) (S : aSt), aX G yX6_waysByWedges cX6_waysByWedges 5 (some .int) uX6_waysByWedges 7 mk_i (f_X6_waysByWedges_25 n l1 l2 l3 l4 S) 25 [some (.ref (0)), some (.int l1), some (.int l2), some (.int l3), some (.int l4)] [] S := by
  intro n
  induction n with
  | zero => intro l1 l2 l3 l4 S; exact x_none
  | succ n ih =>
    intro l1 l2 l3 l4 S
    unfold f_X6_waysByWedges_25
    refine x_iload dX6_waysByWedges_25 rfl ?_
    refine x_iload_n dX6_waysByWedges_27 rfl rfl ?_
    refine x_icmp_gt (tgt := 108) dX6_waysByWedges_28 (by decide) ?_ ?_
    · refine x_iload_n dX6_waysByWedges_108 rfl rfl ?_
      refine x_iconst (-1 : Int32) dX6_waysByWedges_109 (by decide) ?_
      refine x_icmp_ne (tgt := 117) dX6_waysByWedges_110 (by decide) ?_ ?_
      · refine x_iload_n dX6_waysByWedges_117 rfl rfl ?_
        refine x_aload_n dX6_waysByWedges_118 rfl rfl ?_
        refine x_iload_n dX6_waysByWedges_119 rfl rfl ?_
        refine x_b (fun r2_ S2 e2 => ?_)
        refine x_callVi (As := [.int l3]) dX6_waysByWedges_120 (aMet_of e2 (m_X6_waysByStrip hF l3 S)) g_X6_waysByWedges_200 rfl hF.1 rfl dd_X6_waysByStrip rfl rfl (Nat.le_of_ble_eq_true rfl) (Nat.le_of_ble_eq_true rfl) (Nat.le_of_ble_eq_true rfl) ?_
        refine x_ior dX6_waysByWedges_123 ?_
        exact x_iret dX6_waysByWedges_124 rfl
      · refine x_iload_n dX6_waysByWedges_113 rfl rfl ?_
        refine x_goto (tgt := 124) dX6_waysByWedges_114 (by decide) ?_
        exact x_iret dX6_waysByWedges_124 rfl
    · refine x_aload_n dX6_waysByWedges_31 rfl rfl ?_
      refine x_getR (r := 32) (k := 0) (j := 4) dX6_waysByWedges_32 hF.1 rfl rfl (Nat.le_of_ble_eq_true rfl) (fun w h => List.mem_cons_of_mem _ (inlX6 w h)) w_X6_waysByWedges_f42 ?_
      refine x_getR (r := 32 + 1) (k := 32) (j := 9) dX6_waysByWedges_35 hF.2.2.2.2.2.1.1 rfl rfl (Nat.le_of_ble_eq_true rfl) (fun w h => List.mem_cons_of_mem _ (inlX4 w h)) w_X6_waysByWedges_f145 ?_
      refine x_iconst (3 : Int32) dX6_waysByWedges_38 (by decide) ?_
      refine x_iload dX6_waysByWedges_39 rfl ?_
      refine x_iastc (j := 3) dX6_waysByWedges_41 hF.2.2.2.2.2.1.2 (by unfold vp_in; decide) (by decide) ?_
      refine x_ltS (fun S3 => ?_)
      refine x_aload_n dX6_waysByWedges_42 rfl rfl ?_
      refine x_getR (r := 29) (k := 0) (j := 2) dX6_waysByWedges_43 hF.1 rfl rfl (Nat.le_of_ble_eq_true rfl) (fun w h => List.mem_cons_of_mem _ (inlX6 w h)) w_X6_waysByWedges_f28 ?_
      refine x_aload_n dX6_waysByWedges_46 rfl rfl ?_
      refine x_getR (r := 1) (k := 0) (j := 0) dX6_waysByWedges_47 hF.1 rfl rfl (Nat.le_of_ble_eq_true rfl) (fun w h => List.mem_cons_of_mem _ (inlX6 w h)) w_X6_waysByWedges_f12 ?_
      refine x_getR (r := 1 + 3) (k := 1) (j := 8) dX6_waysByWedges_50 hF.2.1.1 rfl rfl (Nat.le_of_ble_eq_true rfl) (fun w h => List.mem_cons_of_mem _ (inlX2 w h)) w_X6_waysByWedges_f79 ?_
      refine x_aload_n dX6_waysByWedges_53 rfl rfl ?_
      refine x_getR (r := 32) (k := 0) (j := 4) dX6_waysByWedges_54 hF.1 rfl rfl (Nat.le_of_ble_eq_true rfl) (fun w h => List.mem_cons_of_mem _ (inlX6 w h)) w_X6_waysByWedges_f42 ?_
      refine x_iconst (-1 : Int32) dX6_waysByWedges_57 (by decide) ?_
      refine x_b (fun r4_ S4 e4 => ?_)
      refine x_callVv (As := [.ref (1 + 3), .ref (32), .int (-1 : Int32)]) dX6_waysByWedges_58 (aMet_of e4 (m_X1_push hF.2.2.2.1 (1 + 3) hF.2.1.2.2.2.1 (32) hF.2.2.2.2.2.1 (-1 : Int32) S3)) g_X6_waysByWedges_194 rfl hF.2.2.2.1 rfl dd_X1_push rfl rfl (Nat.le_of_ble_eq_true rfl) (Nat.le_of_ble_eq_true rfl) (Nat.le_of_ble_eq_true rfl) ?_
      refine x_aload_n dX6_waysByWedges_61 rfl rfl ?_
      refine x_getR (r := 29) (k := 0) (j := 2) dX6_waysByWedges_62 hF.1 rfl rfl (Nat.le_of_ble_eq_true rfl) (fun w h => List.mem_cons_of_mem _ (inlX6 w h)) w_X6_waysByWedges_f28 ?_
      refine x_getI (k := 29) (j := 4) dX6_waysByWedges_65 hF.2.2.2.1 rfl rfl (Nat.le_of_ble_eq_true rfl) (fun w h => List.mem_cons_of_mem _ (inlX1 w h)) w_X6_waysByWedges_f165 ?_
      refine x_iconst (4 : Int32) dX6_waysByWedges_68 (by decide) ?_
      refine x_icmp_ne (tgt := 88) dX6_waysByWedges_69 (by decide) ?_ ?_
      · refine x_aload_n dX6_waysByWedges_88 rfl rfl ?_
        refine x_getR (r := 29) (k := 0) (j := 2) dX6_waysByWedges_89 hF.1 rfl rfl (Nat.le_of_ble_eq_true rfl) (fun w h => List.mem_cons_of_mem _ (inlX6 w h)) w_X6_waysByWedges_f28 ?_
        refine x_getI (k := 29) (j := 4) dX6_waysByWedges_92 hF.2.2.2.1 rfl rfl (Nat.le_of_ble_eq_true rfl) (fun w h => List.mem_cons_of_mem _ (inlX1 w h)) w_X6_waysByWedges_f165 ?_
        refine x_iconst (2 : Int32) dX6_waysByWedges_95 (by decide) ?_
        refine x_icmp_eq (tgt := 102) dX6_waysByWedges_96 (by decide) ?_ ?_
        · exact x_le (v_X6_waysByWedges_102 hF (fun l1 l2 l3 l4 S => (f_X6_waysByWedges_25 n l1 l2 l3 l4 S)) ih l1 l2 l3 l4 S4) (And.intro rfl (And.intro rfl (And.intro rfl (And.intro rfl (And.intro rfl trivial)))))
        · refine x_iload dX6_waysByWedges_99 rfl ?_
          refine x_istore_n dX6_waysByWedges_101 rfl (Nat.le_of_ble_eq_true rfl) rfl ?_
          exact x_le (v_X6_waysByWedges_102 hF (fun l1 l2 l3 l4 S => (f_X6_waysByWedges_25 n l1 l2 l3 l4 S)) ih l1 l2 l4 l4 S4) (And.intro rfl (And.intro rfl (And.intro rfl (And.intro rfl (And.intro rfl trivial)))))
      · refine x_iload_n dX6_waysByWedges_72 rfl rfl ?_
        refine x_aload_n dX6_waysByWedges_73 rfl rfl ?_
        refine x_getR (r := 29) (k := 0) (j := 2) dX6_waysByWedges_74 hF.1 rfl rfl (Nat.le_of_ble_eq_true rfl) (fun w h => List.mem_cons_of_mem _ (inlX6 w h)) w_X6_waysByWedges_f28 ?_
        refine x_getI (k := 29) (j := 5) dX6_waysByWedges_77 hF.2.2.2.1 rfl rfl (Nat.le_of_ble_eq_true rfl) (fun w h => List.mem_cons_of_mem _ (inlX1 w h)) w_X6_waysByWedges_f168 ?_
        refine x_b (fun r5_ S5 e5 => ?_)
        refine x_callSi (As := [.int (S4.1 (29) 5)]) dX6_waysByWedges_80 (aMet_of e5 (m_X6_bitOf (S4.1 (29) 5) S4)) g_X6_waysByWedges_197 rfl dd_X6_bitOf rfl rfl (Nat.le_of_ble_eq_true rfl) (Nat.le_of_ble_eq_true rfl) (Nat.le_of_ble_eq_true rfl) ?_
        refine x_ior dX6_waysByWedges_83 ?_
        refine x_lti (fun x6 => ?_)
        refine x_istore_n dX6_waysByWedges_84 rfl (Nat.le_of_ble_eq_true rfl) rfl ?_
        refine x_goto (tgt := 102) dX6_waysByWedges_85 (by decide) ?_
        exact x_le (v_X6_waysByWedges_102 hF (fun l1 l2 l3 l4 S => (f_X6_waysByWedges_25 n l1 l2 l3 l4 S)) ih l1 x6 l3 l4 S5) (And.intro rfl (And.intro rfl (And.intro rfl (And.intro rfl (And.intro rfl trivial)))))
def f_X6_waysByWedges (p1 : Int32) (S : aSt) : Option (Int32 × aSt) := (aB (f_X1_weigh (1 + 3) (32) S) (fun r1_ S1 => (f_X6_waysByWedges_25 aF p1 (0 : Int32) (-1 : Int32) (0 : Int32) S1)))
set_option maxRecDepth 20000 in
set_option maxHeartbeats 4000000 in
theorem m_X6_waysByWedges {G : aG} {K : Option Nat} (hF : aFt G K) (p1 : Int32) (S : aSt) : aMet G yX6_waysByWedges uX6_waysByWedges 7 mk_i (f_X6_waysByWedges p1 S) [.ref (0), .int p1] S := by
  refine x_met (cc := cX6_waysByWedges) (nL := 5) (ret := (some .int)) (L := [some (.ref (0)), some (.int p1), none, none, none]) (by decide +kernel) rfl (And.intro rfl (And.intro rfl trivial)) (Nat.le_of_ble_eq_true rfl) ?_
  unfold f_X6_waysByWedges
  refine x_aload_n dX6_waysByWedges_0 rfl rfl ?_
  refine x_getR (r := 29) (k := 0) (j := 2) dX6_waysByWedges_1 hF.1 rfl rfl (Nat.le_of_ble_eq_true rfl) (fun w h => List.mem_cons_of_mem _ (inlX6 w h)) w_X6_waysByWedges_f28 ?_
  refine x_aload_n dX6_waysByWedges_4 rfl rfl ?_
  refine x_getR (r := 1) (k := 0) (j := 0) dX6_waysByWedges_5 hF.1 rfl rfl (Nat.le_of_ble_eq_true rfl) (fun w h => List.mem_cons_of_mem _ (inlX6 w h)) w_X6_waysByWedges_f12 ?_
  refine x_getR (r := 1 + 3) (k := 1) (j := 8) dX6_waysByWedges_8 hF.2.1.1 rfl rfl (Nat.le_of_ble_eq_true rfl) (fun w h => List.mem_cons_of_mem _ (inlX2 w h)) w_X6_waysByWedges_f79 ?_
  refine x_aload_n dX6_waysByWedges_11 rfl rfl ?_
  refine x_getR (r := 32) (k := 0) (j := 4) dX6_waysByWedges_12 hF.1 rfl rfl (Nat.le_of_ble_eq_true rfl) (fun w h => List.mem_cons_of_mem _ (inlX6 w h)) w_X6_waysByWedges_f42 ?_
  refine x_b (fun r1_ S1 e1 => ?_)
  refine x_callVv (As := [.ref (1 + 3), .ref (32)]) dX6_waysByWedges_15 (aMet_of e1 (m_X1_weigh hF.2.2.2.1 (1 + 3) hF.2.1.2.2.2.1 (32) hF.2.2.2.2.2.1 S)) g_X6_waysByWedges_190 rfl hF.2.2.2.1 rfl dd_X1_weigh rfl rfl (Nat.le_of_ble_eq_true rfl) (Nat.le_of_ble_eq_true rfl) (Nat.le_of_ble_eq_true rfl) ?_
  refine x_iconst (0 : Int32) dX6_waysByWedges_18 (by decide) ?_
  refine x_istore_n dX6_waysByWedges_19 rfl (Nat.le_of_ble_eq_true rfl) rfl ?_
  refine x_iconst (-1 : Int32) dX6_waysByWedges_20 (by decide) ?_
  refine x_istore_n dX6_waysByWedges_21 rfl (Nat.le_of_ble_eq_true rfl) rfl ?_
  refine x_iconst (0 : Int32) dX6_waysByWedges_22 (by decide) ?_
  refine x_istore dX6_waysByWedges_23 (Nat.le_of_ble_eq_true rfl) rfl ?_
  exact x_le (v_X6_waysByWedges_25 hF aF p1 (0 : Int32) (-1 : Int32) (0 : Int32) S1) (And.intro rfl (And.intro rfl (And.intro rfl (And.intro rfl (And.intro rfl trivial)))))
theorem dd_X6_waysByWedges : yX6_waysByWedges.cls = RX6 ∧ yX6_waysByWedges.cls ≠ "java/lang/invoke/MethodHandle" ∧ yX6_waysByWedges.cls ≠ "java/lang/invoke/VarHandle" ∧ (parseMethodDescriptor yX6_waysByWedges.desc).map (fun d => d.parameters.length) = some 1 := by decide +kernel
theorem w_X6_wide_f12 : Cond.fieldLink yX6_wide.cls 12 (TX6 0).1 (TX6 0).2.1 (TX6 0).2.2.1 ∈ uX6_wide := List.mem_cons_of_mem _ (wU_r1 _ (List.mem_of_getElem? (i := 16) rfl))
theorem g_X6_wide_116 : GoodIn uX6_wide (wsV yX6_wide.cls 116 RX2 yX2_find uX2_find) := gU_V (wU_r18 _ (List.mem_of_getElem? (i := 17) rfl)) (wU_r18 _ (List.mem_of_getElem? (i := 18) rfl)) (wU_r18 _ (List.mem_of_getElem? (i := 19) rfl)) (wU_r1 _ (List.mem_of_getElem? (i := 15) rfl)) (wU_r18 _ (List.mem_of_getElem? (i := 20) rfl))
theorem g_X6_wide_57 : GoodIn uX6_wide (va_wsS yX6_wide.cls 57 yX6_outside uX6_outside) := gU_S (wU_r5 _ (List.mem_of_getElem? (i := 21) rfl)) (wU_r5 _ (List.mem_of_getElem? (i := 22) rfl)) (wU_r1 _ (List.mem_of_getElem? (i := 2) rfl)) (wU_r5 _ (List.mem_of_getElem? (i := 23) rfl))
theorem w_X6_wide_f141 : Cond.fieldLink yX6_wide.cls 141 (TX4 8).1 (TX4 8).2.1 (TX4 8).2.2.1 ∈ uX6_wide := List.mem_cons_of_mem _ (wU_r19 _ (List.mem_of_getElem? (i := 16) rfl))
theorem w_X6_wide_f42 : Cond.fieldLink yX6_wide.cls 42 (TX6 4).1 (TX6 4).2.1 (TX6 4).2.2.1 ∈ uX6_wide := List.mem_cons_of_mem _ (wU_r2 _ (List.mem_of_getElem? (i := 8) rfl))
theorem g_X6_wide_183 : GoodIn uX6_wide (wsV yX6_wide.cls 183 RX4 yX4_copyFrom uX4_copyFrom) := gU_V (wU_r28 _ (List.mem_of_getElem? (i := 5) rfl)) (wU_r28 _ (List.mem_of_getElem? (i := 6) rfl)) (wU_r28 _ (List.mem_of_getElem? (i := 7) rfl)) (wU_r2 _ (List.mem_of_getElem? (i := 7) rfl)) (wU_r28 _ (List.mem_of_getElem? (i := 8) rfl))
theorem w_X6_wide_f145 : Cond.fieldLink yX6_wide.cls 145 (TX4 9).1 (TX4 9).2.1 (TX4 9).2.2.1 ∈ uX6_wide := List.mem_cons_of_mem _ (wU_r20 _ (List.mem_of_getElem? (i := 1) rfl))
theorem g_X6_wide_186 : GoodIn uX6_wide (wsV yX6_wide.cls 186 RX6 yX6_waysByWedges uX6_waysByWedges) := gU_V (wU_r28 _ (List.mem_of_getElem? (i := 11) rfl)) (wU_r28 _ (List.mem_of_getElem? (i := 12) rfl)) (wU_r28 _ (List.mem_of_getElem? (i := 13) rfl)) (wU_r1 _ (List.mem_of_getElem? (i := 2) rfl)) (wU_r28 _ (List.mem_of_getElem? (i := 14) rfl))
def f_X6_wide_61  : Nat → Int32 → Int32 → Int32 → aSt → Option (Int32 × aSt)
  | 0, _, _, _, _ => none
  | n + 1, l2, l4, l5, S => (if (8 : Int32) ≤ l5 then (some (l4, S)) else (aLt (aUi S (32 + 1) 0 l5) (fun S5 => (aB (f_X6_waysByWedges l2 S5) (fun r6_ S6 => (aLt (l4 ||| r6_) (fun x7 => (aLt (l5 + (1 : Int32)) (fun x8 => (f_X6_wide_61 n l2 x7 x8 S6))))))))))
set_option maxRecDepth 20000 in
set_option maxHeartbeats 4000000 in
theorem v_X6_wide_61 {G : aG} {K : Option Nat} (hF : aFt G K) : ∀ (n : Nat) (l2 : Int32) (l4 : Int32) (l5 : Int32) (S : aSt), aX G yX6_wide cX6_wide 6 (some .int) uX6_wide 8 mk_i (f_X6_wide_61 n l2 l4 l5 S) 61 [some (.ref (0)), none, some (.int l2), none, some (.int l4), some (.int l5)] [] S := by
  intro n
  induction n with
  | zero => intro l2 l4 l5 S; exact x_none
  | succ n ih =>
    intro l2 l4 l5 S
    unfold f_X6_wide_61
    refine x_iload dX6_wide_61 rfl ?_
    refine x_bipush (8 : Int32) dX6_wide_63 (by decide) ?_
    refine x_icmp_ge (tgt := 95) dX6_wide_65 (by decide) ?_ ?_
    · refine x_iload dX6_wide_95 rfl ?_
      exact x_iret dX6_wide_97 rfl
    · refine x_aload_n dX6_wide_68 rfl rfl ?_
      refine x_getR (r := 32) (k := 0) (j := 4) dX6_wide_69 hF.1 rfl rfl (Nat.le_of_ble_eq_true rfl) (fun w h => List.mem_cons_of_mem _ (inlX6 w h)) w_X6_wide_f42 ?_
      refine x_getR (r := 32 + 1) (k := 32) (j := 9) dX6_wide_72 hF.2.2.2.2.2.1.1 rfl rfl (Nat.le_of_ble_eq_true rfl) (fun w h => List.mem_cons_of_mem _ (inlX4 w h)) w_X6_wide_f145 ?_
      refine x_iconst (0 : Int32) dX6_wide_75 (by decide) ?_
      refine x_iload dX6_wide_76 rfl ?_
      refine x_iastc (j := 0) dX6_wide_78 hF.2.2.2.2.2.1.2 (by unfold vp_in; decide) (by decide) ?_
      refine x_ltS (fun S5 => ?_)
      refine x_iload dX6_wide_79 rfl ?_
      refine x_aload_n dX6_wide_81 rfl rfl ?_
      refine x_iload_n dX6_wide_82 rfl rfl ?_
      refine x_b (fun r6_ S6 e6 => ?_)
      refine x_callVi (As := [.int l2]) dX6_wide_83 (aMet_of e6 (m_X6_waysByWedges hF l2 S5)) g_X6_wide_186 rfl hF.1 rfl dd_X6_waysByWedges rfl rfl (Nat.le_of_ble_eq_true rfl) (Nat.le_of_ble_eq_true rfl) (Nat.le_of_ble_eq_true rfl) ?_
      refine x_ior dX6_wide_86 ?_
      refine x_lti (fun x7 => ?_)
      refine x_istore dX6_wide_87 (Nat.le_of_ble_eq_true rfl) rfl ?_
      refine x_iincL (w := (1 : Int32)) dX6_wide_89 rfl (by decide) (Nat.le_of_ble_eq_true rfl) rfl (fun x8 => ?_)
      refine x_goto (tgt := 61) dX6_wide_92 (by decide) ?_
      exact x_le (ih l2 x7 x8 S6) (And.intro rfl (And.intro rfl (And.intro rfl (And.intro rfl trivial))))
def f_X6_wide (p1 : Int32) (p2 : Int32) (S : aSt) : Option (Int32 × aSt) := (aB (f_X2_find (1) p1 S) (fun r1_ S1 => aO r1_ (some ((-1 : Int32), S1)) (fun a1_ => (aB (f_X6_outside p2 (9 : Int32) S1) (fun r2_ S2 => (if r2_ = 0 then (if (S2.1 (a1_) 8) = 0 then (some ((-3 : Int32), S2)) else (aB (f_X4_copyFrom (32) (a1_) S2) (fun r3_ S3 => (aLt (aUi S3 (32 + 1) 5 (0 : Int32)) (fun S4 => (f_X6_wide_61 aF p2 (0 : Int32) (0 : Int32) S4)))))) else (some ((-2 : Int32), S2))))))))
set_option maxRecDepth 20000 in
set_option maxHeartbeats 4000000 in
theorem m_X6_wide {G : aG} {K : Option Nat} (hF : aFt G K) (p1 : Int32) (p2 : Int32) (S : aSt) : aMet G yX6_wide uX6_wide 8 mk_i (f_X6_wide p1 p2 S) [.ref (0), .int p1, .int p2] S := by
  refine x_met (cc := cX6_wide) (nL := 6) (ret := (some .int)) (L := [some (.ref (0)), some (.int p1), some (.int p2), none, none, none]) (by decide +kernel) rfl (And.intro rfl (And.intro rfl (And.intro rfl trivial))) (Nat.le_of_ble_eq_true rfl) ?_
  unfold f_X6_wide
  refine x_aload_n dX6_wide_0 rfl rfl ?_
  refine x_getR (r := 1) (k := 0) (j := 0) dX6_wide_1 hF.1 rfl rfl (Nat.le_of_ble_eq_true rfl) (fun w h => List.mem_cons_of_mem _ (inlX6 w h)) w_X6_wide_f12 ?_
  refine x_iload_n dX6_wide_4 rfl rfl ?_
  refine x_b (fun r1_ S1 e1 => ?_)
  cases r1_ with
  | none =>
    refine x_oN ?_
    refine x_callVn (As := [.int p1]) dX6_wide_5 (aMet_of e1 (m_X2_find (1) hF.2.1 p1 S)) g_X6_wide_116 rfl hF.2.1.1 rfl dd_X2_find rfl rfl (Nat.le_of_ble_eq_true rfl) (Nat.le_of_ble_eq_true rfl) (Nat.le_of_ble_eq_true rfl) ?_
    refine x_astore_nN dX6_wide_8 rfl (Nat.le_of_ble_eq_true rfl) rfl ?_
    refine x_aload_nN dX6_wide_9 rfl rfl ?_
    refine x_ifnonnullN dX6_wide_10 ?_
    refine x_iconst (-1 : Int32) dX6_wide_13 (by decide) ?_
    exact x_iret dX6_wide_14 rfl
  | some a1_ =>
    have h1_ := find_tr hF.2.1 e1
    refine x_oS ?_
    refine x_callVr (As := [.int p1]) dX6_wide_5 (aMet_of e1 (m_X2_find (1) hF.2.1 p1 S)) g_X6_wide_116 rfl hF.2.1.1 rfl dd_X2_find rfl rfl (Nat.le_of_ble_eq_true rfl) (Nat.le_of_ble_eq_true rfl) (Nat.le_of_ble_eq_true rfl) ?_
    refine x_astore_n dX6_wide_8 rfl (Nat.le_of_ble_eq_true rfl) rfl ?_
    refine x_aload_n dX6_wide_9 rfl rfl ?_
    refine x_ifnonnull (tgt := 15) dX6_wide_10 (by decide) ?_
    refine x_iload_n dX6_wide_15 rfl rfl ?_
    refine x_bipush (9 : Int32) dX6_wide_16 (by decide) ?_
    refine x_b (fun r2_ S2 e2 => ?_)
    refine x_callSi (As := [.int p2, .int (9 : Int32)]) dX6_wide_18 (aMet_of e2 (m_X6_outside p2 (9 : Int32) S1)) g_X6_wide_57 rfl dd_X6_outside rfl rfl (Nat.le_of_ble_eq_true rfl) (Nat.le_of_ble_eq_true rfl) (Nat.le_of_ble_eq_true rfl) ?_
    refine x_if_eq (tgt := 27) dX6_wide_21 (by decide) ?_ ?_
    · refine x_aload_n dX6_wide_27 rfl rfl ?_
      refine x_getI (k := a1_) (j := 8) dX6_wide_28 h1_.1 rfl rfl (Nat.le_of_ble_eq_true rfl) (fun w h => List.mem_cons_of_mem _ (inlX4 w h)) w_X6_wide_f141 ?_
      refine x_if_ne (tgt := 37) dX6_wide_31 (by decide) ?_ ?_
      · refine x_aload_n dX6_wide_37 rfl rfl ?_
        refine x_getR (r := 32) (k := 0) (j := 4) dX6_wide_38 hF.1 rfl rfl (Nat.le_of_ble_eq_true rfl) (fun w h => List.mem_cons_of_mem _ (inlX6 w h)) w_X6_wide_f42 ?_
        refine x_aload_n dX6_wide_41 rfl rfl ?_
        refine x_b (fun r3_ S3 e3 => ?_)
        refine x_callVv (As := [.ref (a1_)]) dX6_wide_42 (aMet_of e3 (m_X4_copyFrom (32) hF.2.2.2.2.2.1 (a1_) h1_ S2)) g_X6_wide_183 rfl hF.2.2.2.2.2.1.1 rfl dd_X4_copyFrom rfl rfl (Nat.le_of_ble_eq_true rfl) (Nat.le_of_ble_eq_true rfl) (Nat.le_of_ble_eq_true rfl) ?_
        refine x_aload_n dX6_wide_45 rfl rfl ?_
        refine x_getR (r := 32) (k := 0) (j := 4) dX6_wide_46 hF.1 rfl rfl (Nat.le_of_ble_eq_true rfl) (fun w h => List.mem_cons_of_mem _ (inlX6 w h)) w_X6_wide_f42 ?_
        refine x_getR (r := 32 + 1) (k := 32) (j := 9) dX6_wide_49 hF.2.2.2.2.2.1.1 rfl rfl (Nat.le_of_ble_eq_true rfl) (fun w h => List.mem_cons_of_mem _ (inlX4 w h)) w_X6_wide_f145 ?_
        refine x_iconst (5 : Int32) dX6_wide_52 (by decide) ?_
        refine x_iconst (0 : Int32) dX6_wide_53 (by decide) ?_
        refine x_iastc (j := 5) dX6_wide_54 hF.2.2.2.2.2.1.2 (by unfold vp_in; decide) (by decide) ?_
        refine x_ltS (fun S4 => ?_)
        refine x_iconst (0 : Int32) dX6_wide_55 (by decide) ?_
        refine x_istore dX6_wide_56 (Nat.le_of_ble_eq_true rfl) rfl ?_
        refine x_iconst (0 : Int32) dX6_wide_58 (by decide) ?_
        refine x_istore dX6_wide_59 (Nat.le_of_ble_eq_true rfl) rfl ?_
        exact x_le (v_X6_wide_61 hF aF p2 (0 : Int32) (0 : Int32) S4) (And.intro rfl (And.intro rfl (And.intro rfl (And.intro rfl trivial))))
      · refine x_bipush (-3 : Int32) dX6_wide_34 (by decide) ?_
        exact x_iret dX6_wide_36 rfl
    · refine x_bipush (-2 : Int32) dX6_wide_24 (by decide) ?_
      exact x_iret dX6_wide_26 rfl
theorem w_X6_leastStrip_f42 : Cond.fieldLink yX6_leastStrip.cls 42 (TX6 4).1 (TX6 4).2.1 (TX6 4).2.2.1 ∈ uX6_leastStrip := List.mem_cons_of_mem _ (wU_r2 _ (List.mem_of_getElem? (i := 8) rfl))
theorem w_X6_leastStrip_f145 : Cond.fieldLink yX6_leastStrip.cls 145 (TX4 9).1 (TX4 9).2.1 (TX4 9).2.2.1 ∈ uX6_leastStrip := List.mem_cons_of_mem _ (wU_r20 _ (List.mem_of_getElem? (i := 1) rfl))
theorem w_X6_leastStrip_f28 : Cond.fieldLink yX6_leastStrip.cls 28 (TX6 2).1 (TX6 2).2.1 (TX6 2).2.2.1 ∈ uX6_leastStrip := List.mem_cons_of_mem _ (wU_r2 _ (List.mem_of_getElem? (i := 0) rfl))
theorem w_X6_leastStrip_f12 : Cond.fieldLink yX6_leastStrip.cls 12 (TX6 0).1 (TX6 0).2.1 (TX6 0).2.2.1 ∈ uX6_leastStrip := List.mem_cons_of_mem _ (wU_r1 _ (List.mem_of_getElem? (i := 16) rfl))
theorem w_X6_leastStrip_f79 : Cond.fieldLink yX6_leastStrip.cls 79 (TX2 8).1 (TX2 8).2.1 (TX2 8).2.2.1 ∈ uX6_leastStrip := List.mem_cons_of_mem _ (wU_r6 _ (List.mem_of_getElem? (i := 13) rfl))
theorem g_X6_leastStrip_194 : GoodIn uX6_leastStrip (wsV yX6_leastStrip.cls 194 RX1 yX1_push uX1_push) := gU_V (wU_r28 _ (List.mem_of_getElem? (i := 16) rfl)) (wU_r22 _ (List.mem_of_getElem? (i := 7) rfl)) (wU_r22 _ (List.mem_of_getElem? (i := 8) rfl)) (wU_r1 _ (List.mem_of_getElem? (i := 23) rfl)) (wU_r22 _ (List.mem_of_getElem? (i := 9) rfl))
theorem w_X6_leastStrip_f165 : Cond.fieldLink yX6_leastStrip.cls 165 (TX1 4).1 (TX1 4).2.1 (TX1 4).2.2.1 ∈ uX6_leastStrip := List.mem_cons_of_mem _ (wU_r20 _ (List.mem_of_getElem? (i := 14) rfl))
def f_X6_leastStrip_10 (r2 : Int32 → aSt → Option (Int32 × aSt)) : Nat → Int32 → Int32 → aSt → Option (Int32 × aSt)
  | 0, _, _, _ => none
  | n + 1, l1, l2, S => (if (9 : Int32) < l2 then (aLt (l1 + (1 : Int32)) (fun x1 => (r2 x1 S))) else (aLt (aUi S (32 + 1) 1 l1) (fun S2 => (aLt (aUi S2 (32 + 1) 2 l2) (fun S3 => (aB (f_X1_push (1 + 3) (32) (-1 : Int32) S3) (fun r4_ S4 => (if (S4.1 (29) 4) = 0 then (some ((((10 : Int32) * l1) + l2), S4)) else (aLt (l2 + (1 : Int32)) (fun x5 => (f_X6_leastStrip_10 r2 n l1 x5 S4)))))))))))
set_option maxRecDepth 20000 in
set_option maxHeartbeats 4000000 in
theorem v_X6_leastStrip_10 {G : aG} {K : Option Nat} (hF : aFt G K) (r2 : Int32 → aSt → Option (Int32 × aSt)) (hr2 : ∀ (l1 : Int32) (S : aSt), aX G yX6_leastStrip cX6_leastStrip 3 (some .int) uX6_leastStrip 6 mk_i (r2 l1 S) 2 [some (.ref (0)), some (.int l1), none] [] S) : ∀ (n : Nat) (l1 : Int32) (l2 : Int32) (S : aSt), aX G yX6_leastStrip cX6_leastStrip 3 (some .int) uX6_leastStrip 6 mk_i (f_X6_leastStrip_10 r2 n l1 l2 S) 10 [some (.ref (0)), some (.int l1), some (.int l2)] [] S := by
  intro n
  induction n with
  | zero => intro l1 l2 S; exact x_none
  | succ n ih =>
    intro l1 l2 S
    unfold f_X6_leastStrip_10
    refine x_iload_n dX6_leastStrip_10 rfl rfl ?_
    refine x_bipush (9 : Int32) dX6_leastStrip_11 (by decide) ?_
    refine x_icmp_gt (tgt := 78) dX6_leastStrip_13 (by decide) ?_ ?_
    · refine x_iincL (w := (1 : Int32)) dX6_leastStrip_78 rfl (by decide) (Nat.le_of_ble_eq_true rfl) rfl (fun x1 => ?_)
      refine x_goto (tgt := 2) dX6_leastStrip_81 (by decide) ?_
      exact x_le (hr2 x1 S) (And.intro rfl (And.intro rfl trivial))
    · refine x_aload_n dX6_leastStrip_16 rfl rfl ?_
      refine x_getR (r := 32) (k := 0) (j := 4) dX6_leastStrip_17 hF.1 rfl rfl (Nat.le_of_ble_eq_true rfl) (fun w h => List.mem_cons_of_mem _ (inlX6 w h)) w_X6_leastStrip_f42 ?_
      refine x_getR (r := 32 + 1) (k := 32) (j := 9) dX6_leastStrip_20 hF.2.2.2.2.2.1.1 rfl rfl (Nat.le_of_ble_eq_true rfl) (fun w h => List.mem_cons_of_mem _ (inlX4 w h)) w_X6_leastStrip_f145 ?_
      refine x_iconst (1 : Int32) dX6_leastStrip_23 (by decide) ?_
      refine x_iload_n dX6_leastStrip_24 rfl rfl ?_
      refine x_iastc (j := 1) dX6_leastStrip_25 hF.2.2.2.2.2.1.2 (by unfold vp_in; decide) (by decide) ?_
      refine x_ltS (fun S2 => ?_)
      refine x_aload_n dX6_leastStrip_26 rfl rfl ?_
      refine x_getR (r := 32) (k := 0) (j := 4) dX6_leastStrip_27 hF.1 rfl rfl (Nat.le_of_ble_eq_true rfl) (fun w h => List.mem_cons_of_mem _ (inlX6 w h)) w_X6_leastStrip_f42 ?_
      refine x_getR (r := 32 + 1) (k := 32) (j := 9) dX6_leastStrip_30 hF.2.2.2.2.2.1.1 rfl rfl (Nat.le_of_ble_eq_true rfl) (fun w h => List.mem_cons_of_mem _ (inlX4 w h)) w_X6_leastStrip_f145 ?_
      refine x_iconst (2 : Int32) dX6_leastStrip_33 (by decide) ?_
      refine x_iload_n dX6_leastStrip_34 rfl rfl ?_
      refine x_iastc (j := 2) dX6_leastStrip_35 hF.2.2.2.2.2.1.2 (by unfold vp_in; decide) (by decide) ?_
      refine x_ltS (fun S3 => ?_)
      refine x_aload_n dX6_leastStrip_36 rfl rfl ?_
      refine x_getR (r := 29) (k := 0) (j := 2) dX6_leastStrip_37 hF.1 rfl rfl (Nat.le_of_ble_eq_true rfl) (fun w h => List.mem_cons_of_mem _ (inlX6 w h)) w_X6_leastStrip_f28 ?_
      refine x_aload_n dX6_leastStrip_40 rfl rfl ?_
      refine x_getR (r := 1) (k := 0) (j := 0) dX6_leastStrip_41 hF.1 rfl rfl (Nat.le_of_ble_eq_true rfl) (fun w h => List.mem_cons_of_mem _ (inlX6 w h)) w_X6_leastStrip_f12 ?_
      refine x_getR (r := 1 + 3) (k := 1) (j := 8) dX6_leastStrip_44 hF.2.1.1 rfl rfl (Nat.le_of_ble_eq_true rfl) (fun w h => List.mem_cons_of_mem _ (inlX2 w h)) w_X6_leastStrip_f79 ?_
      refine x_aload_n dX6_leastStrip_47 rfl rfl ?_
      refine x_getR (r := 32) (k := 0) (j := 4) dX6_leastStrip_48 hF.1 rfl rfl (Nat.le_of_ble_eq_true rfl) (fun w h => List.mem_cons_of_mem _ (inlX6 w h)) w_X6_leastStrip_f42 ?_
      refine x_iconst (-1 : Int32) dX6_leastStrip_51 (by decide) ?_
      refine x_b (fun r4_ S4 e4 => ?_)
      refine x_callVv (As := [.ref (1 + 3), .ref (32), .int (-1 : Int32)]) dX6_leastStrip_52 (aMet_of e4 (m_X1_push hF.2.2.2.1 (1 + 3) hF.2.1.2.2.2.1 (32) hF.2.2.2.2.2.1 (-1 : Int32) S3)) g_X6_leastStrip_194 rfl hF.2.2.2.1 rfl dd_X1_push rfl rfl (Nat.le_of_ble_eq_true rfl) (Nat.le_of_ble_eq_true rfl) (Nat.le_of_ble_eq_true rfl) ?_
      refine x_aload_n dX6_leastStrip_55 rfl rfl ?_
      refine x_getR (r := 29) (k := 0) (j := 2) dX6_leastStrip_56 hF.1 rfl rfl (Nat.le_of_ble_eq_true rfl) (fun w h => List.mem_cons_of_mem _ (inlX6 w h)) w_X6_leastStrip_f28 ?_
      refine x_getI (k := 29) (j := 4) dX6_leastStrip_59 hF.2.2.2.1 rfl rfl (Nat.le_of_ble_eq_true rfl) (fun w h => List.mem_cons_of_mem _ (inlX1 w h)) w_X6_leastStrip_f165 ?_
      refine x_if_ne (tgt := 72) dX6_leastStrip_62 (by decide) ?_ ?_
      · refine x_iincL (w := (1 : Int32)) dX6_leastStrip_72 rfl (by decide) (Nat.le_of_ble_eq_true rfl) rfl (fun x5 => ?_)
        refine x_goto (tgt := 10) dX6_leastStrip_75 (by decide) ?_
        exact x_le (ih l1 x5 S4) (And.intro rfl (And.intro rfl (And.intro rfl trivial)))
      · refine x_bipush (10 : Int32) dX6_leastStrip_65 (by decide) ?_
        refine x_iload_n dX6_leastStrip_67 rfl rfl ?_
        refine x_imul dX6_leastStrip_68 ?_
        refine x_iload_n dX6_leastStrip_69 rfl rfl ?_
        refine x_iadd dX6_leastStrip_70 ?_
        exact x_iret dX6_leastStrip_71 rfl
def f_X6_leastStrip_2  : Nat → Int32 → aSt → Option (Int32 × aSt)
  | 0, _, _ => none
  | n + 1, l1, S => (if (9 : Int32) < l1 then (some ((-5 : Int32), S)) else (f_X6_leastStrip_10 (fun l1 S => (f_X6_leastStrip_2 n l1 S)) aF l1 (0 : Int32) S))
set_option maxRecDepth 20000 in
set_option maxHeartbeats 4000000 in
theorem v_X6_leastStrip_2 {G : aG} {K : Option Nat} (hF : aFt G K) : ∀ (n : Nat) (l1 : Int32) (S : aSt), aX G yX6_leastStrip cX6_leastStrip 3 (some .int) uX6_leastStrip 6 mk_i (f_X6_leastStrip_2 n l1 S) 2 [some (.ref (0)), some (.int l1), none] [] S := by
  intro n
  induction n with
  | zero => intro l1 S; exact x_none
  | succ n ih =>
    intro l1 S
    unfold f_X6_leastStrip_2
    refine x_iload_n dX6_leastStrip_2 rfl rfl ?_
    refine x_bipush (9 : Int32) dX6_leastStrip_3 (by decide) ?_
    refine x_icmp_gt (tgt := 84) dX6_leastStrip_5 (by decide) ?_ ?_
    · refine x_bipush (-5 : Int32) dX6_leastStrip_84 (by decide) ?_
      exact x_iret dX6_leastStrip_86 rfl
    · refine x_iconst (0 : Int32) dX6_leastStrip_8 (by decide) ?_
      refine x_istore_n dX6_leastStrip_9 rfl (Nat.le_of_ble_eq_true rfl) rfl ?_
      exact x_le (v_X6_leastStrip_10 hF (fun l1 S => (f_X6_leastStrip_2 n l1 S)) ih aF l1 (0 : Int32) S) (And.intro rfl (And.intro rfl (And.intro rfl trivial)))
def f_X6_leastStrip  (S : aSt) : Option (Int32 × aSt) := (f_X6_leastStrip_2 aF (0 : Int32) S)
set_option maxRecDepth 20000 in
set_option maxHeartbeats 4000000 in
theorem m_X6_leastStrip {G : aG} {K : Option Nat} (hF : aFt G K)  (S : aSt) : aMet G yX6_leastStrip uX6_leastStrip 6 mk_i (f_X6_leastStrip S) [.ref (0)] S := by
  refine x_met (cc := cX6_leastStrip) (nL := 3) (ret := (some .int)) (L := [some (.ref (0)), none, none]) (by decide +kernel) rfl (And.intro rfl trivial) (Nat.le_of_ble_eq_true rfl) ?_
  unfold f_X6_leastStrip
  refine x_iconst (0 : Int32) dX6_leastStrip_0 (by decide) ?_
  refine x_istore_n dX6_leastStrip_1 rfl (Nat.le_of_ble_eq_true rfl) rfl ?_
  exact x_le (v_X6_leastStrip_2 hF aF (0 : Int32) S) (And.intro rfl (And.intro rfl trivial))
theorem dd_X6_leastStrip : yX6_leastStrip.cls = RX6 ∧ yX6_leastStrip.cls ≠ "java/lang/invoke/MethodHandle" ∧ yX6_leastStrip.cls ≠ "java/lang/invoke/VarHandle" ∧ (parseMethodDescriptor yX6_leastStrip.desc).map (fun d => d.parameters.length) = some 0 := by decide +kernel
theorem w_X6_least_f12 : Cond.fieldLink yX6_least.cls 12 (TX6 0).1 (TX6 0).2.1 (TX6 0).2.2.1 ∈ uX6_least := List.mem_cons_of_mem _ (wU_r1 _ (List.mem_of_getElem? (i := 16) rfl))
theorem g_X6_least_116 : GoodIn uX6_least (wsV yX6_least.cls 116 RX2 yX2_find uX2_find) := gU_V (wU_r18 _ (List.mem_of_getElem? (i := 17) rfl)) (wU_r18 _ (List.mem_of_getElem? (i := 18) rfl)) (wU_r18 _ (List.mem_of_getElem? (i := 19) rfl)) (wU_r1 _ (List.mem_of_getElem? (i := 15) rfl)) (wU_r18 _ (List.mem_of_getElem? (i := 20) rfl))
theorem g_X6_least_57 : GoodIn uX6_least (va_wsS yX6_least.cls 57 yX6_outside uX6_outside) := gU_S (wU_r5 _ (List.mem_of_getElem? (i := 21) rfl)) (wU_r5 _ (List.mem_of_getElem? (i := 22) rfl)) (wU_r1 _ (List.mem_of_getElem? (i := 2) rfl)) (wU_r5 _ (List.mem_of_getElem? (i := 23) rfl))
theorem w_X6_least_f141 : Cond.fieldLink yX6_least.cls 141 (TX4 8).1 (TX4 8).2.1 (TX4 8).2.2.1 ∈ uX6_least := List.mem_cons_of_mem _ (wU_r19 _ (List.mem_of_getElem? (i := 16) rfl))
theorem w_X6_least_f42 : Cond.fieldLink yX6_least.cls 42 (TX6 4).1 (TX6 4).2.1 (TX6 4).2.2.1 ∈ uX6_least := List.mem_cons_of_mem _ (wU_r2 _ (List.mem_of_getElem? (i := 8) rfl))
theorem g_X6_least_183 : GoodIn uX6_least (wsV yX6_least.cls 183 RX4 yX4_copyFrom uX4_copyFrom) := gU_V (wU_r28 _ (List.mem_of_getElem? (i := 5) rfl)) (wU_r28 _ (List.mem_of_getElem? (i := 6) rfl)) (wU_r28 _ (List.mem_of_getElem? (i := 7) rfl)) (wU_r2 _ (List.mem_of_getElem? (i := 7) rfl)) (wU_r28 _ (List.mem_of_getElem? (i := 8) rfl))
theorem w_X6_least_f145 : Cond.fieldLink yX6_least.cls 145 (TX4 9).1 (TX4 9).2.1 (TX4 9).2.2.1 ∈ uX6_least := List.mem_cons_of_mem _ (wU_r20 _ (List.mem_of_getElem? (i := 1) rfl))
theorem w_X6_least_f28 : Cond.fieldLink yX6_least.cls 28 (TX6 2).1 (TX6 2).2.1 (TX6 2).2.2.1 ∈ uX6_least := List.mem_cons_of_mem _ (wU_r2 _ (List.mem_of_getElem? (i := 0) rfl))
theorem w_X6_least_f79 : Cond.fieldLink yX6_least.cls 79 (TX2 8).1 (TX2 8).2.1 (TX2 8).2.2.1 ∈ uX6_least := List.mem_cons_of_mem _ (wU_r6 _ (List.mem_of_getElem? (i := 13) rfl))
theorem g_X6_least_190 : GoodIn uX6_least (wsV yX6_least.cls 190 RX1 yX1_weigh uX1_weigh) := gU_V (wU_r28 _ (List.mem_of_getElem? (i := 15) rfl)) (wU_r21 _ (List.mem_of_getElem? (i := 4) rfl)) (wU_r21 _ (List.mem_of_getElem? (i := 5) rfl)) (wU_r1 _ (List.mem_of_getElem? (i := 23) rfl)) (wU_r21 _ (List.mem_of_getElem? (i := 6) rfl))
theorem g_X6_least_203 : GoodIn uX6_least (wsV yX6_least.cls 203 RX6 yX6_leastStrip uX6_leastStrip) := gU_V (wU_r29 _ (List.mem_of_getElem? (i := 18) rfl)) (wU_r29 _ (List.mem_of_getElem? (i := 19) rfl)) (wU_r29 _ (List.mem_of_getElem? (i := 20) rfl)) (wU_r1 _ (List.mem_of_getElem? (i := 2) rfl)) (wU_r29 _ (List.mem_of_getElem? (i := 21) rfl))
def f_X6_least_83  : Nat → Int32 → aSt → Option (Int32 × aSt)
  | 0, _, _ => none
  | n + 1, l4, S => (if (9 : Int32) < l4 then (some ((-5 : Int32), S)) else (aLt (aUi S (32 + 1) 3 l4) (fun S7 => (aB (f_X6_leastStrip S7) (fun r8_ S8 => (if r8_ = (-5 : Int32) then (aLt (l4 + (1 : Int32)) (fun x9 => (f_X6_least_83 n x9 S8))) else (some ((((100 : Int32) * l4) + r8_), S8))))))))
set_option maxRecDepth 20000 in
set_option maxHeartbeats 4000000 in
theorem v_X6_least_83 {G : aG} {K : Option Nat} (hF : aFt G K) : ∀ (n : Nat) (l4 : Int32) (S : aSt), aX G yX6_least cX6_least 6 (some .int) uX6_least 7 mk_i (f_X6_least_83 n l4 S) 83 [some (.ref (0)), none, none, none, some (.int l4), none] [] S := by
  intro n
  induction n with
  | zero => intro l4 S; exact x_none
  | succ n ih =>
    intro l4 S
    unfold f_X6_least_83
    refine x_iload dX6_least_83 rfl ?_
    refine x_bipush (9 : Int32) dX6_least_85 (by decide) ?_
    refine x_icmp_gt (tgt := 129) dX6_least_87 (by decide) ?_ ?_
    · refine x_bipush (-5 : Int32) dX6_least_129 (by decide) ?_
      exact x_iret dX6_least_131 rfl
    · refine x_aload_n dX6_least_90 rfl rfl ?_
      refine x_getR (r := 32) (k := 0) (j := 4) dX6_least_91 hF.1 rfl rfl (Nat.le_of_ble_eq_true rfl) (fun w h => List.mem_cons_of_mem _ (inlX6 w h)) w_X6_least_f42 ?_
      refine x_getR (r := 32 + 1) (k := 32) (j := 9) dX6_least_94 hF.2.2.2.2.2.1.1 rfl rfl (Nat.le_of_ble_eq_true rfl) (fun w h => List.mem_cons_of_mem _ (inlX4 w h)) w_X6_least_f145 ?_
      refine x_iconst (3 : Int32) dX6_least_97 (by decide) ?_
      refine x_iload dX6_least_98 rfl ?_
      refine x_iastc (j := 3) dX6_least_100 hF.2.2.2.2.2.1.2 (by unfold vp_in; decide) (by decide) ?_
      refine x_ltS (fun S7 => ?_)
      refine x_aload_n dX6_least_101 rfl rfl ?_
      refine x_b (fun r8_ S8 e8 => ?_)
      refine x_callVi (As := []) dX6_least_102 (aMet_of e8 (m_X6_leastStrip hF S7)) g_X6_least_203 rfl hF.1 rfl dd_X6_leastStrip rfl rfl (Nat.le_of_ble_eq_true rfl) (Nat.le_of_ble_eq_true rfl) (Nat.le_of_ble_eq_true rfl) ?_
      refine x_istore dX6_least_105 (Nat.le_of_ble_eq_true rfl) rfl ?_
      refine x_iload dX6_least_107 rfl ?_
      refine x_bipush (-5 : Int32) dX6_least_109 (by decide) ?_
      refine x_icmp_eq (tgt := 123) dX6_least_111 (by decide) ?_ ?_
      · refine x_iincL (w := (1 : Int32)) dX6_least_123 rfl (by decide) (Nat.le_of_ble_eq_true rfl) rfl (fun x9 => ?_)
        refine x_goto (tgt := 83) dX6_least_126 (by decide) ?_
        exact x_le (ih x9 S8) (And.intro rfl (And.intro rfl trivial))
      · refine x_bipush (100 : Int32) dX6_least_114 (by decide) ?_
        refine x_iload dX6_least_116 rfl ?_
        refine x_imul dX6_least_118 ?_
        refine x_iload dX6_least_119 rfl ?_
        refine x_iadd dX6_least_121 ?_
        exact x_iret dX6_least_122 rfl
def f_X6_least (p1 : Int32) (p2 : Int32) (S : aSt) : Option (Int32 × aSt) := (aB (f_X2_find (1) p1 S) (fun r1_ S1 => aO r1_ (some ((-1 : Int32), S1)) (fun a1_ => (aB (f_X6_outside p2 (7 : Int32) S1) (fun r2_ S2 => (if r2_ = 0 then (if (S2.1 (a1_) 8) = 0 then (some ((-3 : Int32), S2)) else (aB (f_X4_copyFrom (32) (a1_) S2) (fun r3_ S3 => (aLt (aUi S3 (32 + 1) 0 p2) (fun S4 => (aLt (aUi S4 (32 + 1) 5 (0 : Int32)) (fun S5 => (aB (f_X1_weigh (1 + 3) (32) S5) (fun r6_ S6 => (f_X6_least_83 aF (0 : Int32) S6)))))))))) else (some ((-1 : Int32), S2))))))))
set_option maxRecDepth 20000 in
set_option maxHeartbeats 4000000 in
theorem m_X6_least {G : aG} {K : Option Nat} (hF : aFt G K) (p1 : Int32) (p2 : Int32) (S : aSt) : aMet G yX6_least uX6_least 7 mk_i (f_X6_least p1 p2 S) [.ref (0), .int p1, .int p2] S := by
  refine x_met (cc := cX6_least) (nL := 6) (ret := (some .int)) (L := [some (.ref (0)), some (.int p1), some (.int p2), none, none, none]) (by decide +kernel) rfl (And.intro rfl (And.intro rfl (And.intro rfl trivial))) (Nat.le_of_ble_eq_true rfl) ?_
  unfold f_X6_least
  refine x_aload_n dX6_least_0 rfl rfl ?_
  refine x_getR (r := 1) (k := 0) (j := 0) dX6_least_1 hF.1 rfl rfl (Nat.le_of_ble_eq_true rfl) (fun w h => List.mem_cons_of_mem _ (inlX6 w h)) w_X6_least_f12 ?_
  refine x_iload_n dX6_least_4 rfl rfl ?_
  refine x_b (fun r1_ S1 e1 => ?_)
  cases r1_ with
  | none =>
    refine x_oN ?_
    refine x_callVn (As := [.int p1]) dX6_least_5 (aMet_of e1 (m_X2_find (1) hF.2.1 p1 S)) g_X6_least_116 rfl hF.2.1.1 rfl dd_X2_find rfl rfl (Nat.le_of_ble_eq_true rfl) (Nat.le_of_ble_eq_true rfl) (Nat.le_of_ble_eq_true rfl) ?_
    refine x_astore_nN dX6_least_8 rfl (Nat.le_of_ble_eq_true rfl) rfl ?_
    refine x_aload_nN dX6_least_9 rfl rfl ?_
    refine x_ifnullN (tgt := 22) dX6_least_10 (by decide) ?_
    refine x_iconst (-1 : Int32) dX6_least_22 (by decide) ?_
    exact x_iret dX6_least_23 rfl
  | some a1_ =>
    have h1_ := find_tr hF.2.1 e1
    refine x_oS ?_
    refine x_callVr (As := [.int p1]) dX6_least_5 (aMet_of e1 (m_X2_find (1) hF.2.1 p1 S)) g_X6_least_116 rfl hF.2.1.1 rfl dd_X2_find rfl rfl (Nat.le_of_ble_eq_true rfl) (Nat.le_of_ble_eq_true rfl) (Nat.le_of_ble_eq_true rfl) ?_
    refine x_astore_n dX6_least_8 rfl (Nat.le_of_ble_eq_true rfl) rfl ?_
    refine x_aload_n dX6_least_9 rfl rfl ?_
    refine x_ifnull dX6_least_10 ?_
    refine x_iload_n dX6_least_13 rfl rfl ?_
    refine x_bipush (7 : Int32) dX6_least_14 (by decide) ?_
    refine x_b (fun r2_ S2 e2 => ?_)
    refine x_callSi (As := [.int p2, .int (7 : Int32)]) dX6_least_16 (aMet_of e2 (m_X6_outside p2 (7 : Int32) S1)) g_X6_least_57 rfl dd_X6_outside rfl rfl (Nat.le_of_ble_eq_true rfl) (Nat.le_of_ble_eq_true rfl) (Nat.le_of_ble_eq_true rfl) ?_
    refine x_if_eq (tgt := 24) dX6_least_19 (by decide) ?_ ?_
    · refine x_aload_n dX6_least_24 rfl rfl ?_
      refine x_getI (k := a1_) (j := 8) dX6_least_25 h1_.1 rfl rfl (Nat.le_of_ble_eq_true rfl) (fun w h => List.mem_cons_of_mem _ (inlX4 w h)) w_X6_least_f141 ?_
      refine x_if_ne (tgt := 34) dX6_least_28 (by decide) ?_ ?_
      · refine x_aload_n dX6_least_34 rfl rfl ?_
        refine x_getR (r := 32) (k := 0) (j := 4) dX6_least_35 hF.1 rfl rfl (Nat.le_of_ble_eq_true rfl) (fun w h => List.mem_cons_of_mem _ (inlX6 w h)) w_X6_least_f42 ?_
        refine x_aload_n dX6_least_38 rfl rfl ?_
        refine x_b (fun r3_ S3 e3 => ?_)
        refine x_callVv (As := [.ref (a1_)]) dX6_least_39 (aMet_of e3 (m_X4_copyFrom (32) hF.2.2.2.2.2.1 (a1_) h1_ S2)) g_X6_least_183 rfl hF.2.2.2.2.2.1.1 rfl dd_X4_copyFrom rfl rfl (Nat.le_of_ble_eq_true rfl) (Nat.le_of_ble_eq_true rfl) (Nat.le_of_ble_eq_true rfl) ?_
        refine x_aload_n dX6_least_42 rfl rfl ?_
        refine x_getR (r := 32) (k := 0) (j := 4) dX6_least_43 hF.1 rfl rfl (Nat.le_of_ble_eq_true rfl) (fun w h => List.mem_cons_of_mem _ (inlX6 w h)) w_X6_least_f42 ?_
        refine x_getR (r := 32 + 1) (k := 32) (j := 9) dX6_least_46 hF.2.2.2.2.2.1.1 rfl rfl (Nat.le_of_ble_eq_true rfl) (fun w h => List.mem_cons_of_mem _ (inlX4 w h)) w_X6_least_f145 ?_
        refine x_iconst (0 : Int32) dX6_least_49 (by decide) ?_
        refine x_iload_n dX6_least_50 rfl rfl ?_
        refine x_iastc (j := 0) dX6_least_51 hF.2.2.2.2.2.1.2 (by unfold vp_in; decide) (by decide) ?_
        refine x_ltS (fun S4 => ?_)
        refine x_aload_n dX6_least_52 rfl rfl ?_
        refine x_getR (r := 32) (k := 0) (j := 4) dX6_least_53 hF.1 rfl rfl (Nat.le_of_ble_eq_true rfl) (fun w h => List.mem_cons_of_mem _ (inlX6 w h)) w_X6_least_f42 ?_
        refine x_getR (r := 32 + 1) (k := 32) (j := 9) dX6_least_56 hF.2.2.2.2.2.1.1 rfl rfl (Nat.le_of_ble_eq_true rfl) (fun w h => List.mem_cons_of_mem _ (inlX4 w h)) w_X6_least_f145 ?_
        refine x_iconst (5 : Int32) dX6_least_59 (by decide) ?_
        refine x_iconst (0 : Int32) dX6_least_60 (by decide) ?_
        refine x_iastc (j := 5) dX6_least_61 hF.2.2.2.2.2.1.2 (by unfold vp_in; decide) (by decide) ?_
        refine x_ltS (fun S5 => ?_)
        refine x_aload_n dX6_least_62 rfl rfl ?_
        refine x_getR (r := 29) (k := 0) (j := 2) dX6_least_63 hF.1 rfl rfl (Nat.le_of_ble_eq_true rfl) (fun w h => List.mem_cons_of_mem _ (inlX6 w h)) w_X6_least_f28 ?_
        refine x_aload_n dX6_least_66 rfl rfl ?_
        refine x_getR (r := 1) (k := 0) (j := 0) dX6_least_67 hF.1 rfl rfl (Nat.le_of_ble_eq_true rfl) (fun w h => List.mem_cons_of_mem _ (inlX6 w h)) w_X6_least_f12 ?_
        refine x_getR (r := 1 + 3) (k := 1) (j := 8) dX6_least_70 hF.2.1.1 rfl rfl (Nat.le_of_ble_eq_true rfl) (fun w h => List.mem_cons_of_mem _ (inlX2 w h)) w_X6_least_f79 ?_
        refine x_aload_n dX6_least_73 rfl rfl ?_
        refine x_getR (r := 32) (k := 0) (j := 4) dX6_least_74 hF.1 rfl rfl (Nat.le_of_ble_eq_true rfl) (fun w h => List.mem_cons_of_mem _ (inlX6 w h)) w_X6_least_f42 ?_
        refine x_b (fun r6_ S6 e6 => ?_)
        refine x_callVv (As := [.ref (1 + 3), .ref (32)]) dX6_least_77 (aMet_of e6 (m_X1_weigh hF.2.2.2.1 (1 + 3) hF.2.1.2.2.2.1 (32) hF.2.2.2.2.2.1 S5)) g_X6_least_190 rfl hF.2.2.2.1 rfl dd_X1_weigh rfl rfl (Nat.le_of_ble_eq_true rfl) (Nat.le_of_ble_eq_true rfl) (Nat.le_of_ble_eq_true rfl) ?_
        refine x_iconst (0 : Int32) dX6_least_80 (by decide) ?_
        refine x_istore dX6_least_81 (Nat.le_of_ble_eq_true rfl) rfl ?_
        exact x_le (v_X6_least_83 hF aF (0 : Int32) S6) (And.intro rfl (And.intro rfl trivial))
      · refine x_bipush (-3 : Int32) dX6_least_31 (by decide) ?_
        exact x_iret dX6_least_33 rfl
    · refine x_iconst (-1 : Int32) dX6_least_22 (by decide) ?_
      exact x_iret dX6_least_23 rfl
theorem dd_X6_commonDivisor : yX6_commonDivisor.cls ≠ "java/lang/invoke/MethodHandle" ∧ yX6_commonDivisor.cls ≠ "java/lang/invoke/VarHandle" ∧ (parseMethodDescriptor yX6_commonDivisor.desc).map (fun d => d.parameters.length) = some 2 := by decide +kernel
theorem dd_X2_weightOf : yX2_weightOf.cls = RX2 ∧ yX2_weightOf.cls ≠ "java/lang/invoke/MethodHandle" ∧ yX2_weightOf.cls ≠ "java/lang/invoke/VarHandle" ∧ (parseMethodDescriptor yX2_weightOf.desc).map (fun d => d.parameters.length) = some 1 := by decide +kernel
theorem w_X6_sure_f12 : Cond.fieldLink yX6_sure.cls 12 (TX6 0).1 (TX6 0).2.1 (TX6 0).2.2.1 ∈ uX6_sure := List.mem_cons_of_mem _ (wU_r1 _ (List.mem_of_getElem? (i := 16) rfl))
theorem g_X6_sure_116 : GoodIn uX6_sure (wsV yX6_sure.cls 116 RX2 yX2_find uX2_find) := gU_V (wU_r18 _ (List.mem_of_getElem? (i := 17) rfl)) (wU_r18 _ (List.mem_of_getElem? (i := 18) rfl)) (wU_r18 _ (List.mem_of_getElem? (i := 19) rfl)) (wU_r1 _ (List.mem_of_getElem? (i := 15) rfl)) (wU_r18 _ (List.mem_of_getElem? (i := 20) rfl))
theorem w_X6_sure_k177 : Cond.constantLong yX6_sure.cls 177 (-9223372036854775808 : Int64) ∈ uX6_sure := List.mem_cons_of_mem _ (wU_r27 _ (List.mem_of_getElem? (i := 10) rfl))
theorem g_X6_sure_57 : GoodIn uX6_sure (va_wsS yX6_sure.cls 57 yX6_outside uX6_outside) := gU_S (wU_r5 _ (List.mem_of_getElem? (i := 21) rfl)) (wU_r5 _ (List.mem_of_getElem? (i := 22) rfl)) (wU_r1 _ (List.mem_of_getElem? (i := 2) rfl)) (wU_r5 _ (List.mem_of_getElem? (i := 23) rfl))
theorem w_X6_sure_f141 : Cond.fieldLink yX6_sure.cls 141 (TX4 8).1 (TX4 8).2.1 (TX4 8).2.2.1 ∈ uX6_sure := List.mem_cons_of_mem _ (wU_r19 _ (List.mem_of_getElem? (i := 16) rfl))
theorem g_X6_sure_210 : GoodIn uX6_sure (va_wsS yX6_sure.cls 210 yX6_commonDivisor uX6_commonDivisor) := gU_S (wU_r30 _ (List.mem_of_getElem? (i := 19) rfl)) (wU_r30 _ (List.mem_of_getElem? (i := 20) rfl)) (wU_r1 _ (List.mem_of_getElem? (i := 2) rfl)) (wU_r30 _ (List.mem_of_getElem? (i := 21) rfl))
theorem g_X6_sure_207 : GoodIn uX6_sure (wsV yX6_sure.cls 207 RX2 yX2_weightOf uX2_weightOf) := gU_V (wU_r30 _ (List.mem_of_getElem? (i := 14) rfl)) (wU_r30 _ (List.mem_of_getElem? (i := 15) rfl)) (wU_r30 _ (List.mem_of_getElem? (i := 16) rfl)) (wU_r1 _ (List.mem_of_getElem? (i := 15) rfl)) (wU_r30 _ (List.mem_of_getElem? (i := 17) rfl))
theorem w_X6_sure_f28 : Cond.fieldLink yX6_sure.cls 28 (TX6 2).1 (TX6 2).2.1 (TX6 2).2.2.1 ∈ uX6_sure := List.mem_cons_of_mem _ (wU_r2 _ (List.mem_of_getElem? (i := 0) rfl))
theorem g_X6_sure_149 : GoodIn uX6_sure (wsV yX6_sure.cls 149 RX1 yX1_run uX1_run) := gU_V (wU_r20 _ (List.mem_of_getElem? (i := 18) rfl)) (wU_r20 _ (List.mem_of_getElem? (i := 19) rfl)) (wU_r20 _ (List.mem_of_getElem? (i := 20) rfl)) (wU_r1 _ (List.mem_of_getElem? (i := 23) rfl)) (wU_r20 _ (List.mem_of_getElem? (i := 21) rfl))
theorem w_X6_sure_f171 : Cond.fieldLink yX6_sure.cls 171 (TX1 7).1 (TX1 7).2.1 (TX1 7).2.2.1 ∈ uX6_sure := List.mem_cons_of_mem _ (wU_r20 _ (List.mem_of_getElem? (i := 16) rfl))
theorem w_X6_sure_f49 : Cond.fieldLink yX6_sure.cls 49 (TX2 0).1 (TX2 0).2.1 (TX2 0).2.2.1 ∈ uX6_sure := List.mem_cons_of_mem _ (wU_r5 _ (List.mem_of_getElem? (i := 3) rfl))
theorem w_X6_sure_f165 : Cond.fieldLink yX6_sure.cls 165 (TX1 4).1 (TX1 4).2.1 (TX1 4).2.2.1 ∈ uX6_sure := List.mem_cons_of_mem _ (wU_r20 _ (List.mem_of_getElem? (i := 14) rfl))
def f_X6_sure_182  (l7 : Int32) (s0 : Int32) (S : aSt) : Option (Int64 × aSt) := (if l7 = 0 then none else (some (((s0 / l7)).toInt64, S)))
set_option maxRecDepth 20000 in
set_option maxHeartbeats 4000000 in
theorem v_X6_sure_182 {G : aG} {K : Option Nat} (hF : aFt G K) (l7 : Int32) (s0 : Int32) (S : aSt) : aX G yX6_sure cX6_sure 10 (some .long) uX6_sure 8 mk_l (f_X6_sure_182 l7 s0 S) 182 [none, none, none, none, none, none, none, some (.int l7), none, none] [.int s0] S := by
  unfold f_X6_sure_182
  refine x_iload dX6_sure_182 rfl ?_
  refine x_idiv dX6_sure_184 ?_
  refine x_i2l dX6_sure_185 ?_
  exact x_lret dX6_sure_186 rfl
def f_X6_sure_156 (r53 : Int32 → Int32 → Nat → Int32 → Int32 → Int32 → aSt → Option (Int64 × aSt)) (l2 : Int32) (l3 : Int32) (l4 : Nat) (l5 : Int32) (l6 : Int32) (l7 : Int32) (S : aSt) : Option (Int64 × aSt) := (aLt (l7 + (1 : Int32)) (fun x7 => (r53 l2 l3 (l4) l5 l6 x7 S)))
set_option maxRecDepth 20000 in
set_option maxHeartbeats 4000000 in
theorem v_X6_sure_156 {G : aG} {K : Option Nat} (hF : aFt G K) (r53 : Int32 → Int32 → Nat → Int32 → Int32 → Int32 → aSt → Option (Int64 × aSt)) (hr53 : ∀ (l2 : Int32) (l3 : Int32) (l4 : Nat) (ql4 : aTr G l4) (l5 : Int32) (l6 : Int32) (l7 : Int32) (S : aSt), aX G yX6_sure cX6_sure 10 (some .long) uX6_sure 8 mk_l (r53 l2 l3 l4 l5 l6 l7 S) 53 [some (.ref (0)), none, some (.int l2), some (.int l3), some (.ref (l4)), some (.int l5), some (.int l6), some (.int l7), none, none] [] S) (l2 : Int32) (l3 : Int32) (l4 : Nat) (ql4 : aTr G l4) (l5 : Int32) (l6 : Int32) (l7 : Int32) (S : aSt) : aX G yX6_sure cX6_sure 10 (some .long) uX6_sure 8 mk_l (f_X6_sure_156 r53 l2 l3 l4 l5 l6 l7 S) 156 [some (.ref (0)), none, some (.int l2), some (.int l3), some (.ref (l4)), some (.int l5), some (.int l6), some (.int l7), none, none] [] S := by
  unfold f_X6_sure_156
  refine x_iincL (w := (1 : Int32)) dX6_sure_156 rfl (by decide) (Nat.le_of_ble_eq_true rfl) rfl (fun x7 => ?_)
  refine x_goto (tgt := 53) dX6_sure_159 (by decide) ?_
  exact x_le (hr53 l2 l3 (l4) ql4 l5 l6 x7 S) (And.intro rfl (And.intro rfl (And.intro rfl (And.intro rfl (And.intro rfl (And.intro rfl (And.intro rfl trivial)))))))
def f_X6_sure_153 (r53 : Int32 → Int32 → Nat → Int32 → Int32 → Int32 → aSt → Option (Int64 × aSt)) (l2 : Int32) (l3 : Int32) (l4 : Nat) (l5 : Int32) (l7 : Int32) (s0 : Int32) (s1 : Int32) (S : aSt) : Option (Int64 × aSt) := (aLt (s1 + s0) (fun x8 => (f_X6_sure_156 r53 l2 l3 (l4) l5 x8 l7 S)))
set_option maxRecDepth 20000 in
set_option maxHeartbeats 4000000 in
theorem v_X6_sure_153 {G : aG} {K : Option Nat} (hF : aFt G K) (r53 : Int32 → Int32 → Nat → Int32 → Int32 → Int32 → aSt → Option (Int64 × aSt)) (hr53 : ∀ (l2 : Int32) (l3 : Int32) (l4 : Nat) (ql4 : aTr G l4) (l5 : Int32) (l6 : Int32) (l7 : Int32) (S : aSt), aX G yX6_sure cX6_sure 10 (some .long) uX6_sure 8 mk_l (r53 l2 l3 l4 l5 l6 l7 S) 53 [some (.ref (0)), none, some (.int l2), some (.int l3), some (.ref (l4)), some (.int l5), some (.int l6), some (.int l7), none, none] [] S) (l2 : Int32) (l3 : Int32) (l4 : Nat) (ql4 : aTr G l4) (l5 : Int32) (l7 : Int32) (s0 : Int32) (s1 : Int32) (S : aSt) : aX G yX6_sure cX6_sure 10 (some .long) uX6_sure 8 mk_l (f_X6_sure_153 r53 l2 l3 l4 l5 l7 s0 s1 S) 153 [some (.ref (0)), none, some (.int l2), some (.int l3), some (.ref (l4)), some (.int l5), none, some (.int l7), none, none] [.int s0, .int s1] S := by
  unfold f_X6_sure_153
  refine x_iadd dX6_sure_153 ?_
  refine x_lti (fun x8 => ?_)
  refine x_istore dX6_sure_154 (Nat.le_of_ble_eq_true rfl) rfl ?_
  exact x_le (v_X6_sure_156 hF r53 hr53 l2 l3 (l4) ql4 l5 x8 l7 S) (And.intro rfl (And.intro rfl (And.intro rfl (And.intro rfl (And.intro rfl (And.intro rfl (And.intro rfl trivial)))))))
def f_X6_sure_138 (r53 : Int32 → Int32 → Nat → Int32 → Int32 → Int32 → aSt → Option (Int64 × aSt)) (l2 : Int32) (l3 : Int32) (l4 : Nat) (l5 : Int32) (l6 : Int32) (l7 : Int32) (l8 : Int32) (s0 : Int32) (S : aSt) : Option (Int64 × aSt) := (if s0 = 0 then (f_X6_sure_153 r53 l2 l3 (l4) l5 l7 (0 : Int32) l6 S) else (f_X6_sure_153 r53 l2 l3 (l4) l5 l7 l8 l6 S))
set_option maxRecDepth 20000 in
set_option maxHeartbeats 4000000 in
theorem v_X6_sure_138 {G : aG} {K : Option Nat} (hF : aFt G K) (r53 : Int32 → Int32 → Nat → Int32 → Int32 → Int32 → aSt → Option (Int64 × aSt)) (hr53 : ∀ (l2 : Int32) (l3 : Int32) (l4 : Nat) (ql4 : aTr G l4) (l5 : Int32) (l6 : Int32) (l7 : Int32) (S : aSt), aX G yX6_sure cX6_sure 10 (some .long) uX6_sure 8 mk_l (r53 l2 l3 l4 l5 l6 l7 S) 53 [some (.ref (0)), none, some (.int l2), some (.int l3), some (.ref (l4)), some (.int l5), some (.int l6), some (.int l7), none, none] [] S) (l2 : Int32) (l3 : Int32) (l4 : Nat) (ql4 : aTr G l4) (l5 : Int32) (l6 : Int32) (l7 : Int32) (l8 : Int32) (s0 : Int32) (S : aSt) : aX G yX6_sure cX6_sure 10 (some .long) uX6_sure 8 mk_l (f_X6_sure_138 r53 l2 l3 l4 l5 l6 l7 l8 s0 S) 138 [some (.ref (0)), none, some (.int l2), some (.int l3), some (.ref (l4)), some (.int l5), some (.int l6), some (.int l7), some (.int l8), none] [.int s0] S := by
  unfold f_X6_sure_138
  refine x_istore dX6_sure_138 (Nat.le_of_ble_eq_true rfl) rfl ?_
  refine x_iload dX6_sure_140 rfl ?_
  refine x_iload dX6_sure_142 rfl ?_
  refine x_if_eq (tgt := 152) dX6_sure_144 (by decide) ?_ ?_
  · refine x_iconst (0 : Int32) dX6_sure_152 (by decide) ?_
    exact x_le (v_X6_sure_153 hF r53 hr53 l2 l3 (l4) ql4 l5 l7 (0 : Int32) l6 S) (And.intro rfl (And.intro rfl (And.intro rfl (And.intro rfl (And.intro rfl (And.intro rfl trivial))))))
  · refine x_iload dX6_sure_147 rfl ?_
    refine x_goto (tgt := 153) dX6_sure_149 (by decide) ?_
    exact x_le (v_X6_sure_153 hF r53 hr53 l2 l3 (l4) ql4 l5 l7 l8 l6 S) (And.intro rfl (And.intro rfl (And.intro rfl (And.intro rfl (And.intro rfl (And.intro rfl trivial))))))
def f_X6_sure_53  : Nat → Int32 → Int32 → Nat → Int32 → Int32 → Int32 → aSt → Option (Int64 × aSt)
  | 0, _, _, _, _, _, _, _ => none
  | n + 1, l2, l3, l4, l5, l6, l7, S => (if (8 : Int32) ≤ l7 then (aB (f_X6_commonDivisor l5 l6 S) (fun r4_ S4 => (if l3 = 0 then (f_X6_sure_182 r4_ l6 S4) else (f_X6_sure_182 r4_ l5 S4)))) else (aB (f_X2_weightOf (1) l7 S) (fun r5_ S5 => (if r5_ ≤ 0 then (f_X6_sure_156 (fun l2 l3 l4 l5 l6 l7 S => (f_X6_sure_53 n l2 l3 l4 l5 l6 l7 S)) l2 l3 (l4) l5 l6 l7 S5) else (aB (f_X1_run (1) (l4) l7 S5) (fun r6_ S6 => (if l2 = 0 then (if (S6.1 (29) 4) = 0 then (f_X6_sure_138 (fun l2 l3 l4 l5 l6 l7 S => (f_X6_sure_53 n l2 l3 l4 l5 l6 l7 S)) l2 l3 (l4) l5 l6 l7 r5_ (1 : Int32) S6) else (f_X6_sure_138 (fun l2 l3 l4 l5 l6 l7 S => (f_X6_sure_53 n l2 l3 l4 l5 l6 l7 S)) l2 l3 (l4) l5 l6 l7 r5_ (0 : Int32) S6)) else (if (lg_cmp ((S6.2 (29) 7) &&& (S6.2 (1) 0)) (0 : Int64)) = 0 then (f_X6_sure_138 (fun l2 l3 l4 l5 l6 l7 S => (f_X6_sure_53 n l2 l3 l4 l5 l6 l7 S)) l2 l3 (l4) l5 l6 l7 r5_ (0 : Int32) S6) else (f_X6_sure_138 (fun l2 l3 l4 l5 l6 l7 S => (f_X6_sure_53 n l2 l3 l4 l5 l6 l7 S)) l2 l3 (l4) l5 l6 l7 r5_ (1 : Int32) S6)))))))))
set_option maxRecDepth 20000 in
set_option maxHeartbeats 4000000 in
theorem v_X6_sure_53 {G : aG} {K : Option Nat} (hF : aFt G K) : ∀ (n : Nat) (l2 : Int32) (l3 : Int32) (l4 : Nat) (ql4 : aTr G l4) (l5 : Int32) (l6 : Int32) (l7 : Int32) (S : aSt), aX G yX6_sure cX6_sure 10 (some .long) uX6_sure 8 mk_l (f_X6_sure_53 n l2 l3 l4 l5 l6 l7 S) 53 [some (.ref (0)), none, some (.int l2), some (.int l3), some (.ref (l4)), some (.int l5), some (.int l6), some (.int l7), none, none] [] S := by
  intro n
  induction n with
  | zero => intro l2 l3 l4 ql4 l5 l6 l7 S; exact x_none
  | succ n ih =>
    intro l2 l3 l4 ql4 l5 l6 l7 S
    unfold f_X6_sure_53
    refine x_iload dX6_sure_53 rfl ?_
    refine x_bipush (8 : Int32) dX6_sure_55 (by decide) ?_
    refine x_icmp_ge (tgt := 162) dX6_sure_57 (by decide) ?_ ?_
    · refine x_iload dX6_sure_162 rfl ?_
      refine x_iload dX6_sure_164 rfl ?_
      refine x_b (fun r4_ S4 e4 => ?_)
      refine x_callSi (As := [.int l5, .int l6]) dX6_sure_166 (aMet_of e4 (m_X6_commonDivisor l5 l6 S)) g_X6_sure_210 rfl dd_X6_commonDivisor rfl rfl (Nat.le_of_ble_eq_true rfl) (Nat.le_of_ble_eq_true rfl) (Nat.le_of_ble_eq_true rfl) ?_
      refine x_istore dX6_sure_169 (Nat.le_of_ble_eq_true rfl) rfl ?_
      refine x_iload_n dX6_sure_171 rfl rfl ?_
      refine x_if_ne (tgt := 180) dX6_sure_172 (by decide) ?_ ?_
      · refine x_iload dX6_sure_180 rfl ?_
        exact x_le (v_X6_sure_182 hF r4_ l5 S4) (And.intro rfl trivial)
      · refine x_iload dX6_sure_175 rfl ?_
        refine x_goto (tgt := 182) dX6_sure_177 (by decide) ?_
        exact x_le (v_X6_sure_182 hF r4_ l6 S4) (And.intro rfl trivial)
    · refine x_aload_n dX6_sure_60 rfl rfl ?_
      refine x_getR (r := 1) (k := 0) (j := 0) dX6_sure_61 hF.1 rfl rfl (Nat.le_of_ble_eq_true rfl) (fun w h => List.mem_cons_of_mem _ (inlX6 w h)) w_X6_sure_f12 ?_
      refine x_iload dX6_sure_64 rfl ?_
      refine x_b (fun r5_ S5 e5 => ?_)
      refine x_callVi (As := [.int l7]) dX6_sure_66 (aMet_of e5 (m_X2_weightOf (1) hF.2.1 l7 S)) g_X6_sure_207 rfl hF.2.1.1 rfl dd_X2_weightOf rfl rfl (Nat.le_of_ble_eq_true rfl) (Nat.le_of_ble_eq_true rfl) (Nat.le_of_ble_eq_true rfl) ?_
      refine x_istore dX6_sure_69 (Nat.le_of_ble_eq_true rfl) rfl ?_
      refine x_iload dX6_sure_71 rfl ?_
      refine x_if_le (tgt := 156) dX6_sure_73 (by decide) ?_ ?_
      · exact x_le (v_X6_sure_156 hF (fun l2 l3 l4 l5 l6 l7 S => (f_X6_sure_53 n l2 l3 l4 l5 l6 l7 S)) ih l2 l3 (l4) ql4 l5 l6 l7 S5) (And.intro rfl (And.intro rfl (And.intro rfl (And.intro rfl (And.intro rfl (And.intro rfl (And.intro rfl trivial)))))))
      · refine x_aload_n dX6_sure_76 rfl rfl ?_
        refine x_getR (r := 29) (k := 0) (j := 2) dX6_sure_77 hF.1 rfl rfl (Nat.le_of_ble_eq_true rfl) (fun w h => List.mem_cons_of_mem _ (inlX6 w h)) w_X6_sure_f28 ?_
        refine x_aload_n dX6_sure_80 rfl rfl ?_
        refine x_getR (r := 1) (k := 0) (j := 0) dX6_sure_81 hF.1 rfl rfl (Nat.le_of_ble_eq_true rfl) (fun w h => List.mem_cons_of_mem _ (inlX6 w h)) w_X6_sure_f12 ?_
        refine x_aload dX6_sure_84 rfl ?_
        refine x_iload dX6_sure_86 rfl ?_
        refine x_b (fun r6_ S6 e6 => ?_)
        refine x_callVv (As := [.ref (1), .ref (l4), .int l7]) dX6_sure_88 (aMet_of e6 (m_X1_run hF.2.2.2.1 (1) hF.2.1 (l4) ql4 l7 S5)) g_X6_sure_149 rfl hF.2.2.2.1 rfl dd_X1_run rfl rfl (Nat.le_of_ble_eq_true rfl) (Nat.le_of_ble_eq_true rfl) (Nat.le_of_ble_eq_true rfl) ?_
        refine x_iload_n dX6_sure_91 rfl rfl ?_
        refine x_if_ne (tgt := 113) dX6_sure_92 (by decide) ?_ ?_
        · refine x_aload_n dX6_sure_113 rfl rfl ?_
          refine x_getR (r := 29) (k := 0) (j := 2) dX6_sure_114 hF.1 rfl rfl (Nat.le_of_ble_eq_true rfl) (fun w h => List.mem_cons_of_mem _ (inlX6 w h)) w_X6_sure_f28 ?_
          refine x_getJ (k := 29) (j := 7) dX6_sure_117 hF.2.2.2.1 rfl rfl (Nat.le_of_ble_eq_true rfl) (fun w h => List.mem_cons_of_mem _ (inlX1 w h)) w_X6_sure_f171 ?_
          refine x_aload_n dX6_sure_120 rfl rfl ?_
          refine x_getR (r := 1) (k := 0) (j := 0) dX6_sure_121 hF.1 rfl rfl (Nat.le_of_ble_eq_true rfl) (fun w h => List.mem_cons_of_mem _ (inlX6 w h)) w_X6_sure_f12 ?_
          refine x_getJ (k := 1) (j := 0) dX6_sure_124 hF.2.1.1 rfl rfl (Nat.le_of_ble_eq_true rfl) (fun w h => List.mem_cons_of_mem _ (inlX2 w h)) w_X6_sure_f49 ?_
          refine x_land dX6_sure_127 ?_
          refine x_lconst (0 : Int64) dX6_sure_128 (by decide) ?_
          refine x_lcmp dX6_sure_129 ?_
          refine x_if_eq (tgt := 137) dX6_sure_130 (by decide) ?_ ?_
          · refine x_iconst (0 : Int32) dX6_sure_137 (by decide) ?_
            exact x_le (v_X6_sure_138 hF (fun l2 l3 l4 l5 l6 l7 S => (f_X6_sure_53 n l2 l3 l4 l5 l6 l7 S)) ih l2 l3 (l4) ql4 l5 l6 l7 r5_ (0 : Int32) S6) (And.intro rfl (And.intro rfl (And.intro rfl (And.intro rfl (And.intro rfl (And.intro rfl (And.intro rfl (And.intro rfl trivial))))))))
          · refine x_iconst (1 : Int32) dX6_sure_133 (by decide) ?_
            refine x_goto (tgt := 138) dX6_sure_134 (by decide) ?_
            exact x_le (v_X6_sure_138 hF (fun l2 l3 l4 l5 l6 l7 S => (f_X6_sure_53 n l2 l3 l4 l5 l6 l7 S)) ih l2 l3 (l4) ql4 l5 l6 l7 r5_ (1 : Int32) S6) (And.intro rfl (And.intro rfl (And.intro rfl (And.intro rfl (And.intro rfl (And.intro rfl (And.intro rfl (And.intro rfl trivial))))))))
        · refine x_aload_n dX6_sure_95 rfl rfl ?_
          refine x_getR (r := 29) (k := 0) (j := 2) dX6_sure_96 hF.1 rfl rfl (Nat.le_of_ble_eq_true rfl) (fun w h => List.mem_cons_of_mem _ (inlX6 w h)) w_X6_sure_f28 ?_
          refine x_getI (k := 29) (j := 4) dX6_sure_99 hF.2.2.2.1 rfl rfl (Nat.le_of_ble_eq_true rfl) (fun w h => List.mem_cons_of_mem _ (inlX1 w h)) w_X6_sure_f165 ?_
          refine x_if_ne (tgt := 109) dX6_sure_102 (by decide) ?_ ?_
          · refine x_iconst (0 : Int32) dX6_sure_109 (by decide) ?_
            refine x_goto (tgt := 138) dX6_sure_110 (by decide) ?_
            exact x_le (v_X6_sure_138 hF (fun l2 l3 l4 l5 l6 l7 S => (f_X6_sure_53 n l2 l3 l4 l5 l6 l7 S)) ih l2 l3 (l4) ql4 l5 l6 l7 r5_ (0 : Int32) S6) (And.intro rfl (And.intro rfl (And.intro rfl (And.intro rfl (And.intro rfl (And.intro rfl (And.intro rfl (And.intro rfl trivial))))))))
          · refine x_iconst (1 : Int32) dX6_sure_105 (by decide) ?_
            refine x_goto (tgt := 138) dX6_sure_106 (by decide) ?_
            exact x_le (v_X6_sure_138 hF (fun l2 l3 l4 l5 l6 l7 S => (f_X6_sure_53 n l2 l3 l4 l5 l6 l7 S)) ih l2 l3 (l4) ql4 l5 l6 l7 r5_ (1 : Int32) S6) (And.intro rfl (And.intro rfl (And.intro rfl (And.intro rfl (And.intro rfl (And.intro rfl (And.intro rfl (And.intro rfl trivial))))))))
def f_X6_sure (p1 : Int32) (p2 : Int32) (p3 : Int32) (S : aSt) : Option (Int64 × aSt) := (aB (f_X2_find (1) p1 S) (fun r1_ S1 => aO r1_ (some ((-9223372036854775808 : Int64), S1)) (fun a1_ => (aB (f_X6_outside p2 (1 : Int32) S1) (fun r2_ S2 => (if r2_ = 0 then (aB (f_X6_outside p3 (1 : Int32) S2) (fun r3_ S3 => (if r3_ = 0 then (if (S3.1 (a1_) 8) = 0 then (some ((-9223372036854775808 : Int64), S3)) else (f_X6_sure_53 aF p2 p3 (a1_) (80 : Int32) (0 : Int32) (-1 : Int32) S3)) else (some ((-9223372036854775808 : Int64), S3))))) else (some ((-9223372036854775808 : Int64), S2))))))))
set_option maxRecDepth 20000 in
set_option maxHeartbeats 4000000 in
theorem m_X6_sure {G : aG} {K : Option Nat} (hF : aFt G K) (p1 : Int32) (p2 : Int32) (p3 : Int32) (S : aSt) : aMet G yX6_sure uX6_sure 8 mk_l (f_X6_sure p1 p2 p3 S) [.ref (0), .int p1, .int p2, .int p3] S := by
  refine x_met (cc := cX6_sure) (nL := 10) (ret := (some .long)) (L := [some (.ref (0)), some (.int p1), some (.int p2), some (.int p3), none, none, none, none, none, none]) (by decide +kernel) rfl (And.intro rfl (And.intro rfl (And.intro rfl (And.intro rfl trivial)))) (Nat.le_of_ble_eq_true rfl) ?_
  unfold f_X6_sure
  refine x_aload_n dX6_sure_0 rfl rfl ?_
  refine x_getR (r := 1) (k := 0) (j := 0) dX6_sure_1 hF.1 rfl rfl (Nat.le_of_ble_eq_true rfl) (fun w h => List.mem_cons_of_mem _ (inlX6 w h)) w_X6_sure_f12 ?_
  refine x_iload_n dX6_sure_4 rfl rfl ?_
  refine x_b (fun r1_ S1 e1 => ?_)
  cases r1_ with
  | none =>
    refine x_oN ?_
    refine x_callVn (As := [.int p1]) dX6_sure_5 (aMet_of e1 (m_X2_find (1) hF.2.1 p1 S)) g_X6_sure_116 rfl hF.2.1.1 rfl dd_X2_find rfl rfl (Nat.le_of_ble_eq_true rfl) (Nat.le_of_ble_eq_true rfl) (Nat.le_of_ble_eq_true rfl) ?_
    refine x_astoreN dX6_sure_8 (Nat.le_of_ble_eq_true rfl) rfl ?_
    refine x_aloadN dX6_sure_10 rfl ?_
    refine x_ifnullN (tgt := 39) dX6_sure_12 (by decide) ?_
    refine x_ldc2 (v := (-9223372036854775808 : Int64)) dX6_sure_39 w_X6_sure_k177 ?_
    exact x_lret dX6_sure_42 rfl
  | some a1_ =>
    have h1_ := find_tr hF.2.1 e1
    refine x_oS ?_
    refine x_callVr (As := [.int p1]) dX6_sure_5 (aMet_of e1 (m_X2_find (1) hF.2.1 p1 S)) g_X6_sure_116 rfl hF.2.1.1 rfl dd_X2_find rfl rfl (Nat.le_of_ble_eq_true rfl) (Nat.le_of_ble_eq_true rfl) (Nat.le_of_ble_eq_true rfl) ?_
    refine x_astore dX6_sure_8 (Nat.le_of_ble_eq_true rfl) rfl ?_
    refine x_aload dX6_sure_10 rfl ?_
    refine x_ifnull dX6_sure_12 ?_
    refine x_iload_n dX6_sure_15 rfl rfl ?_
    refine x_iconst (1 : Int32) dX6_sure_16 (by decide) ?_
    refine x_b (fun r2_ S2 e2 => ?_)
    refine x_callSi (As := [.int p2, .int (1 : Int32)]) dX6_sure_17 (aMet_of e2 (m_X6_outside p2 (1 : Int32) S1)) g_X6_sure_57 rfl dd_X6_outside rfl rfl (Nat.le_of_ble_eq_true rfl) (Nat.le_of_ble_eq_true rfl) (Nat.le_of_ble_eq_true rfl) ?_
    refine x_if_ne (tgt := 39) dX6_sure_20 (by decide) ?_ ?_
    · refine x_ldc2 (v := (-9223372036854775808 : Int64)) dX6_sure_39 w_X6_sure_k177 ?_
      exact x_lret dX6_sure_42 rfl
    · refine x_iload_n dX6_sure_23 rfl rfl ?_
      refine x_iconst (1 : Int32) dX6_sure_24 (by decide) ?_
      refine x_b (fun r3_ S3 e3 => ?_)
      refine x_callSi (As := [.int p3, .int (1 : Int32)]) dX6_sure_25 (aMet_of e3 (m_X6_outside p3 (1 : Int32) S2)) g_X6_sure_57 rfl dd_X6_outside rfl rfl (Nat.le_of_ble_eq_true rfl) (Nat.le_of_ble_eq_true rfl) (Nat.le_of_ble_eq_true rfl) ?_
      refine x_if_ne (tgt := 39) dX6_sure_28 (by decide) ?_ ?_
      · refine x_ldc2 (v := (-9223372036854775808 : Int64)) dX6_sure_39 w_X6_sure_k177 ?_
        exact x_lret dX6_sure_42 rfl
      · refine x_aload dX6_sure_31 rfl ?_
        refine x_getI (k := a1_) (j := 8) dX6_sure_33 h1_.1 rfl rfl (Nat.le_of_ble_eq_true rfl) (fun w h => List.mem_cons_of_mem _ (inlX4 w h)) w_X6_sure_f141 ?_
        refine x_if_ne (tgt := 43) dX6_sure_36 (by decide) ?_ ?_
        · refine x_bipush (80 : Int32) dX6_sure_43 (by decide) ?_
          refine x_istore dX6_sure_45 (Nat.le_of_ble_eq_true rfl) rfl ?_
          refine x_iconst (0 : Int32) dX6_sure_47 (by decide) ?_
          refine x_istore dX6_sure_48 (Nat.le_of_ble_eq_true rfl) rfl ?_
          refine x_iconst (-1 : Int32) dX6_sure_50 (by decide) ?_
          refine x_istore dX6_sure_51 (Nat.le_of_ble_eq_true rfl) rfl ?_
          exact x_le (v_X6_sure_53 hF aF p2 p3 (a1_) h1_ (80 : Int32) (0 : Int32) (-1 : Int32) S3) (And.intro rfl (And.intro rfl (And.intro rfl (And.intro rfl (And.intro rfl (And.intro rfl (And.intro rfl trivial)))))))
        · refine x_ldc2 (v := (-9223372036854775808 : Int64)) dX6_sure_39 w_X6_sure_k177 ?_
          exact x_lret dX6_sure_42 rfl
theorem dd_X2_standingPlaces : yX2_standingPlaces.cls = RX2 ∧ yX2_standingPlaces.cls ≠ "java/lang/invoke/MethodHandle" ∧ yX2_standingPlaces.cls ≠ "java/lang/invoke/VarHandle" ∧ (parseMethodDescriptor yX2_standingPlaces.desc).map (fun d => d.parameters.length) = some 0 := by decide +kernel
theorem dd_X6_stepsFrom : yX6_stepsFrom.cls ≠ "java/lang/invoke/MethodHandle" ∧ yX6_stepsFrom.cls ≠ "java/lang/invoke/VarHandle" ∧ (parseMethodDescriptor yX6_stepsFrom.desc).map (fun d => d.parameters.length) = some 1 := by decide +kernel
theorem w_X6_stand_f12 : Cond.fieldLink yX6_stand.cls 12 (TX6 0).1 (TX6 0).2.1 (TX6 0).2.2.1 ∈ uX6_stand := List.mem_cons_of_mem _ (wU_r1 _ (List.mem_of_getElem? (i := 16) rfl))
theorem g_X6_stand_116 : GoodIn uX6_stand (wsV yX6_stand.cls 116 RX2 yX2_find uX2_find) := gU_V (wU_r18 _ (List.mem_of_getElem? (i := 17) rfl)) (wU_r18 _ (List.mem_of_getElem? (i := 18) rfl)) (wU_r18 _ (List.mem_of_getElem? (i := 19) rfl)) (wU_r1 _ (List.mem_of_getElem? (i := 15) rfl)) (wU_r18 _ (List.mem_of_getElem? (i := 20) rfl))
theorem w_X6_stand_k177 : Cond.constantLong yX6_stand.cls 177 (-9223372036854775808 : Int64) ∈ uX6_stand := List.mem_cons_of_mem _ (wU_r27 _ (List.mem_of_getElem? (i := 10) rfl))
theorem w_X6_stand_f141 : Cond.fieldLink yX6_stand.cls 141 (TX4 8).1 (TX4 8).2.1 (TX4 8).2.2.1 ∈ uX6_stand := List.mem_cons_of_mem _ (wU_r19 _ (List.mem_of_getElem? (i := 16) rfl))
theorem g_X6_stand_214 : GoodIn uX6_stand (wsV yX6_stand.cls 214 RX2 yX2_standingPlaces uX2_standingPlaces) := gU_V (wU_r31 _ (List.mem_of_getElem? (i := 18) rfl)) (wU_r31 _ (List.mem_of_getElem? (i := 19) rfl)) (wU_r31 _ (List.mem_of_getElem? (i := 20) rfl)) (wU_r1 _ (List.mem_of_getElem? (i := 15) rfl)) (wU_r31 _ (List.mem_of_getElem? (i := 21) rfl))
theorem w_X6_stand_f135 : Cond.fieldLink yX6_stand.cls 135 (TX4 3).1 (TX4 3).2.1 (TX4 3).2.2.1 ∈ uX6_stand := List.mem_cons_of_mem _ (wU_r19 _ (List.mem_of_getElem? (i := 14) rfl))
theorem g_X6_stand_218 : GoodIn uX6_stand (va_wsS yX6_stand.cls 218 yX6_stepsFrom uX6_stepsFrom) := gU_S (wU_r31 _ (List.mem_of_getElem? (i := 22) rfl)) (wU_r31 _ (List.mem_of_getElem? (i := 23) rfl)) (wU_r1 _ (List.mem_of_getElem? (i := 2) rfl)) (wU_r32 _ (List.mem_of_getElem? (i := 0) rfl))
theorem w_X6_stand_k222 : Cond.constantLong yX6_stand.cls 222 (-1 : Int64) ∈ uX6_stand := List.mem_cons_of_mem _ (wU_r31 _ (List.mem_of_getElem? (i := 17) rfl))
theorem g_X6_stand_207 : GoodIn uX6_stand (wsV yX6_stand.cls 207 RX2 yX2_weightOf uX2_weightOf) := gU_V (wU_r30 _ (List.mem_of_getElem? (i := 14) rfl)) (wU_r30 _ (List.mem_of_getElem? (i := 15) rfl)) (wU_r30 _ (List.mem_of_getElem? (i := 16) rfl)) (wU_r1 _ (List.mem_of_getElem? (i := 15) rfl)) (wU_r30 _ (List.mem_of_getElem? (i := 17) rfl))
theorem w_X6_stand_f28 : Cond.fieldLink yX6_stand.cls 28 (TX6 2).1 (TX6 2).2.1 (TX6 2).2.2.1 ∈ uX6_stand := List.mem_cons_of_mem _ (wU_r2 _ (List.mem_of_getElem? (i := 0) rfl))
theorem g_X6_stand_149 : GoodIn uX6_stand (wsV yX6_stand.cls 149 RX1 yX1_run uX1_run) := gU_V (wU_r20 _ (List.mem_of_getElem? (i := 18) rfl)) (wU_r20 _ (List.mem_of_getElem? (i := 19) rfl)) (wU_r20 _ (List.mem_of_getElem? (i := 20) rfl)) (wU_r1 _ (List.mem_of_getElem? (i := 23) rfl)) (wU_r20 _ (List.mem_of_getElem? (i := 21) rfl))
theorem w_X6_stand_f171 : Cond.fieldLink yX6_stand.cls 171 (TX1 7).1 (TX1 7).2.1 (TX1 7).2.2.1 ∈ uX6_stand := List.mem_cons_of_mem _ (wU_r20 _ (List.mem_of_getElem? (i := 16) rfl))
def f_X6_stand_86 (r43 : Nat → Int64 → Int32 → aSt → Option (Int64 × aSt)) (l2 : Nat) (l3 : Int64) (l5 : Int32) (S : aSt) : Option (Int64 × aSt) := (aLt (l5 + (1 : Int32)) (fun x8 => (r43 (l2) l3 x8 S)))
set_option maxRecDepth 20000 in
set_option maxHeartbeats 4000000 in
theorem v_X6_stand_86 {G : aG} {K : Option Nat} (hF : aFt G K) (r43 : Nat → Int64 → Int32 → aSt → Option (Int64 × aSt)) (hr43 : ∀ (l2 : Nat) (ql2 : aTr G l2) (l3 : Int64) (l5 : Int32) (S : aSt), aX G yX6_stand cX6_stand 6 (some .long) uX6_stand 8 mk_l (r43 l2 l3 l5 S) 43 [some (.ref (0)), none, some (.ref (l2)), some (.long l3), none, some (.int l5)] [] S) (l2 : Nat) (ql2 : aTr G l2) (l3 : Int64) (l5 : Int32) (S : aSt) : aX G yX6_stand cX6_stand 6 (some .long) uX6_stand 8 mk_l (f_X6_stand_86 r43 l2 l3 l5 S) 86 [some (.ref (0)), none, some (.ref (l2)), some (.long l3), none, some (.int l5)] [] S := by
  unfold f_X6_stand_86
  refine x_iincL (w := (1 : Int32)) dX6_stand_86 rfl (by decide) (Nat.le_of_ble_eq_true rfl) rfl (fun x8 => ?_)
  refine x_goto (tgt := 43) dX6_stand_89 (by decide) ?_
  exact x_le (hr43 (l2) ql2 l3 x8 S) (And.intro rfl (And.intro rfl (And.intro rfl (And.intro rfl trivial))))
def f_X6_stand_43  : Nat → Nat → Int64 → Int32 → aSt → Option (Int64 × aSt)
  | 0, _, _, _, _ => none
  | n + 1, l2, l3, l5, S => (if (8 : Int32) ≤ l5 then (some ((l3 ^^^ (-1 : Int64)), S)) else (aB (f_X2_weightOf (1) l5 S) (fun r5_ S5 => (if r5_ ≤ 0 then (f_X6_stand_86 (fun l2 l3 l5 S => (f_X6_stand_43 n l2 l3 l5 S)) (l2) l3 l5 S5) else (aB (f_X1_run (1) (l2) l5 S5) (fun r6_ S6 => (aLt (l3 ||| (S6.2 (29) 7)) (fun x7 => (f_X6_stand_86 (fun l2 l3 l5 S => (f_X6_stand_43 n l2 l3 l5 S)) (l2) x7 l5 S6)))))))))
set_option maxRecDepth 20000 in
set_option maxHeartbeats 4000000 in
theorem v_X6_stand_43 {G : aG} {K : Option Nat} (hF : aFt G K) : ∀ (n : Nat) (l2 : Nat) (ql2 : aTr G l2) (l3 : Int64) (l5 : Int32) (S : aSt), aX G yX6_stand cX6_stand 6 (some .long) uX6_stand 8 mk_l (f_X6_stand_43 n l2 l3 l5 S) 43 [some (.ref (0)), none, some (.ref (l2)), some (.long l3), none, some (.int l5)] [] S := by
  intro n
  induction n with
  | zero => intro l2 ql2 l3 l5 S; exact x_none
  | succ n ih =>
    intro l2 ql2 l3 l5 S
    unfold f_X6_stand_43
    refine x_iload dX6_stand_43 rfl ?_
    refine x_bipush (8 : Int32) dX6_stand_45 (by decide) ?_
    refine x_icmp_ge (tgt := 92) dX6_stand_47 (by decide) ?_ ?_
    · refine x_lload_n dX6_stand_92 rfl rfl ?_
      refine x_ldc2 (v := (-1 : Int64)) dX6_stand_93 w_X6_stand_k222 ?_
      refine x_lxor dX6_stand_96 ?_
      exact x_lret dX6_stand_97 rfl
    · refine x_aload_n dX6_stand_50 rfl rfl ?_
      refine x_getR (r := 1) (k := 0) (j := 0) dX6_stand_51 hF.1 rfl rfl (Nat.le_of_ble_eq_true rfl) (fun w h => List.mem_cons_of_mem _ (inlX6 w h)) w_X6_stand_f12 ?_
      refine x_iload dX6_stand_54 rfl ?_
      refine x_b (fun r5_ S5 e5 => ?_)
      refine x_callVi (As := [.int l5]) dX6_stand_56 (aMet_of e5 (m_X2_weightOf (1) hF.2.1 l5 S)) g_X6_stand_207 rfl hF.2.1.1 rfl dd_X2_weightOf rfl rfl (Nat.le_of_ble_eq_true rfl) (Nat.le_of_ble_eq_true rfl) (Nat.le_of_ble_eq_true rfl) ?_
      refine x_if_le (tgt := 86) dX6_stand_59 (by decide) ?_ ?_
      · exact x_le (v_X6_stand_86 hF (fun l2 l3 l5 S => (f_X6_stand_43 n l2 l3 l5 S)) ih (l2) ql2 l3 l5 S5) (And.intro rfl (And.intro rfl (And.intro rfl (And.intro rfl trivial))))
      · refine x_aload_n dX6_stand_62 rfl rfl ?_
        refine x_getR (r := 29) (k := 0) (j := 2) dX6_stand_63 hF.1 rfl rfl (Nat.le_of_ble_eq_true rfl) (fun w h => List.mem_cons_of_mem _ (inlX6 w h)) w_X6_stand_f28 ?_
        refine x_aload_n dX6_stand_66 rfl rfl ?_
        refine x_getR (r := 1) (k := 0) (j := 0) dX6_stand_67 hF.1 rfl rfl (Nat.le_of_ble_eq_true rfl) (fun w h => List.mem_cons_of_mem _ (inlX6 w h)) w_X6_stand_f12 ?_
        refine x_aload_n dX6_stand_70 rfl rfl ?_
        refine x_iload dX6_stand_71 rfl ?_
        refine x_b (fun r6_ S6 e6 => ?_)
        refine x_callVv (As := [.ref (1), .ref (l2), .int l5]) dX6_stand_73 (aMet_of e6 (m_X1_run hF.2.2.2.1 (1) hF.2.1 (l2) ql2 l5 S5)) g_X6_stand_149 rfl hF.2.2.2.1 rfl dd_X1_run rfl rfl (Nat.le_of_ble_eq_true rfl) (Nat.le_of_ble_eq_true rfl) (Nat.le_of_ble_eq_true rfl) ?_
        refine x_lload_n dX6_stand_76 rfl rfl ?_
        refine x_aload_n dX6_stand_77 rfl rfl ?_
        refine x_getR (r := 29) (k := 0) (j := 2) dX6_stand_78 hF.1 rfl rfl (Nat.le_of_ble_eq_true rfl) (fun w h => List.mem_cons_of_mem _ (inlX6 w h)) w_X6_stand_f28 ?_
        refine x_getJ (k := 29) (j := 7) dX6_stand_81 hF.2.2.2.1 rfl rfl (Nat.le_of_ble_eq_true rfl) (fun w h => List.mem_cons_of_mem _ (inlX1 w h)) w_X6_stand_f171 ?_
        refine x_lor dX6_stand_84 ?_
        refine x_ltj (fun x7 => ?_)
        refine x_lstore_n dX6_stand_85 rfl (Nat.le_of_ble_eq_true rfl) rfl ?_
        exact x_le (v_X6_stand_86 hF (fun l2 l3 l5 S => (f_X6_stand_43 n l2 l3 l5 S)) ih (l2) ql2 x7 l5 S6) (And.intro rfl (And.intro rfl (And.intro rfl (And.intro rfl trivial))))
def f_X6_stand (p1 : Int32) (S : aSt) : Option (Int64 × aSt) := (aB (f_X2_find (1) p1 S) (fun r1_ S1 => aO r1_ (some ((-9223372036854775808 : Int64), S1)) (fun a1_ => (if (S1.1 (a1_) 8) = 0 then (some ((-9223372036854775808 : Int64), S1)) else (aB (f_X2_standingPlaces (1) S1) (fun r2_ S2 => (aB (f_X6_stepsFrom (S2.1 (a1_) 3) S2) (fun r3_ S3 => (aLt (r2_ ||| r3_) (fun x4 => (f_X6_stand_43 aF (a1_) x4 (-1 : Int32) S3)))))))))))
set_option maxRecDepth 20000 in
set_option maxHeartbeats 4000000 in
theorem m_X6_stand {G : aG} {K : Option Nat} (hF : aFt G K) (p1 : Int32) (S : aSt) : aMet G yX6_stand uX6_stand 8 mk_l (f_X6_stand p1 S) [.ref (0), .int p1] S := by
  refine x_met (cc := cX6_stand) (nL := 6) (ret := (some .long)) (L := [some (.ref (0)), some (.int p1), none, none, none, none]) (by decide +kernel) rfl (And.intro rfl (And.intro rfl trivial)) (Nat.le_of_ble_eq_true rfl) ?_
  unfold f_X6_stand
  refine x_aload_n dX6_stand_0 rfl rfl ?_
  refine x_getR (r := 1) (k := 0) (j := 0) dX6_stand_1 hF.1 rfl rfl (Nat.le_of_ble_eq_true rfl) (fun w h => List.mem_cons_of_mem _ (inlX6 w h)) w_X6_stand_f12 ?_
  refine x_iload_n dX6_stand_4 rfl rfl ?_
  refine x_b (fun r1_ S1 e1 => ?_)
  cases r1_ with
  | none =>
    refine x_oN ?_
    refine x_callVn (As := [.int p1]) dX6_stand_5 (aMet_of e1 (m_X2_find (1) hF.2.1 p1 S)) g_X6_stand_116 rfl hF.2.1.1 rfl dd_X2_find rfl rfl (Nat.le_of_ble_eq_true rfl) (Nat.le_of_ble_eq_true rfl) (Nat.le_of_ble_eq_true rfl) ?_
    refine x_astore_nN dX6_stand_8 rfl (Nat.le_of_ble_eq_true rfl) rfl ?_
    refine x_aload_nN dX6_stand_9 rfl rfl ?_
    refine x_ifnullN (tgt := 20) dX6_stand_10 (by decide) ?_
    refine x_ldc2 (v := (-9223372036854775808 : Int64)) dX6_stand_20 w_X6_stand_k177 ?_
    exact x_lret dX6_stand_23 rfl
  | some a1_ =>
    have h1_ := find_tr hF.2.1 e1
    refine x_oS ?_
    refine x_callVr (As := [.int p1]) dX6_stand_5 (aMet_of e1 (m_X2_find (1) hF.2.1 p1 S)) g_X6_stand_116 rfl hF.2.1.1 rfl dd_X2_find rfl rfl (Nat.le_of_ble_eq_true rfl) (Nat.le_of_ble_eq_true rfl) (Nat.le_of_ble_eq_true rfl) ?_
    refine x_astore_n dX6_stand_8 rfl (Nat.le_of_ble_eq_true rfl) rfl ?_
    refine x_aload_n dX6_stand_9 rfl rfl ?_
    refine x_ifnull dX6_stand_10 ?_
    refine x_aload_n dX6_stand_13 rfl rfl ?_
    refine x_getI (k := a1_) (j := 8) dX6_stand_14 h1_.1 rfl rfl (Nat.le_of_ble_eq_true rfl) (fun w h => List.mem_cons_of_mem _ (inlX4 w h)) w_X6_stand_f141 ?_
    refine x_if_ne (tgt := 24) dX6_stand_17 (by decide) ?_ ?_
    · refine x_aload_n dX6_stand_24 rfl rfl ?_
      refine x_getR (r := 1) (k := 0) (j := 0) dX6_stand_25 hF.1 rfl rfl (Nat.le_of_ble_eq_true rfl) (fun w h => List.mem_cons_of_mem _ (inlX6 w h)) w_X6_stand_f12 ?_
      refine x_b (fun r2_ S2 e2 => ?_)
      refine x_callVl (As := []) dX6_stand_28 (aMet_of e2 (m_X2_standingPlaces (1) hF.2.1 S1)) g_X6_stand_214 rfl hF.2.1.1 rfl dd_X2_standingPlaces rfl rfl (Nat.le_of_ble_eq_true rfl) (Nat.le_of_ble_eq_true rfl) (Nat.le_of_ble_eq_true rfl) ?_
      refine x_aload_n dX6_stand_31 rfl rfl ?_
      refine x_getI (k := a1_) (j := 3) dX6_stand_32 h1_.1 rfl rfl (Nat.le_of_ble_eq_true rfl) (fun w h => List.mem_cons_of_mem _ (inlX4 w h)) w_X6_stand_f135 ?_
      refine x_b (fun r3_ S3 e3 => ?_)
      refine x_callSl (As := [.int (S2.1 (a1_) 3)]) dX6_stand_35 (aMet_of e3 (m_X6_stepsFrom (S2.1 (a1_) 3) S2)) g_X6_stand_218 rfl dd_X6_stepsFrom rfl rfl (Nat.le_of_ble_eq_true rfl) (Nat.le_of_ble_eq_true rfl) (Nat.le_of_ble_eq_true rfl) ?_
      refine x_lor dX6_stand_38 ?_
      refine x_ltj (fun x4 => ?_)
      refine x_lstore_n dX6_stand_39 rfl (Nat.le_of_ble_eq_true rfl) rfl ?_
      refine x_iconst (-1 : Int32) dX6_stand_40 (by decide) ?_
      refine x_istore dX6_stand_41 (Nat.le_of_ble_eq_true rfl) rfl ?_
      exact x_le (v_X6_stand_43 hF aF (a1_) h1_ x4 (-1 : Int32) S3) (And.intro rfl (And.intro rfl (And.intro rfl (And.intro rfl trivial))))
    · refine x_ldc2 (v := (-9223372036854775808 : Int64)) dX6_stand_20 w_X6_stand_k177 ?_
      exact x_lret dX6_stand_23 rfl
theorem w_X6_firstFree_f12 : Cond.fieldLink yX6_firstFree.cls 12 (TX6 0).1 (TX6 0).2.1 (TX6 0).2.2.1 ∈ uX6_firstFree := List.mem_cons_of_mem _ (wU_r1 _ (List.mem_of_getElem? (i := 16) rfl))
theorem w_X6_firstFree_f105 : Cond.fieldLink yX6_firstFree.cls 105 (TX2 4).1 (TX2 4).2.1 (TX2 4).2.2.1 ∈ uX6_firstFree := List.mem_cons_of_mem _ (wU_r17 _ (List.mem_of_getElem? (i := 9) rfl))
theorem g_X6_firstFree_197 : GoodIn uX6_firstFree (va_wsS yX6_firstFree.cls 197 yX6_bitOf uX6_bitOf) := gU_S (wU_r28 _ (List.mem_of_getElem? (i := 17) rfl)) (wU_r24 _ (List.mem_of_getElem? (i := 3) rfl)) (wU_r1 _ (List.mem_of_getElem? (i := 2) rfl)) (wU_r24 _ (List.mem_of_getElem? (i := 4) rfl))
theorem w_X6_firstFree_f28 : Cond.fieldLink yX6_firstFree.cls 28 (TX6 2).1 (TX6 2).2.1 (TX6 2).2.2.1 ∈ uX6_firstFree := List.mem_cons_of_mem _ (wU_r2 _ (List.mem_of_getElem? (i := 0) rfl))
theorem w_X6_firstFree_f79 : Cond.fieldLink yX6_firstFree.cls 79 (TX2 8).1 (TX2 8).2.1 (TX2 8).2.2.1 ∈ uX6_firstFree := List.mem_cons_of_mem _ (wU_r6 _ (List.mem_of_getElem? (i := 13) rfl))
theorem w_X6_firstFree_f108 : Cond.fieldLink yX6_firstFree.cls 108 (TX2 9).1 (TX2 9).2.1 (TX2 9).2.2.1 ∈ uX6_firstFree := List.mem_cons_of_mem _ (wU_r17 _ (List.mem_of_getElem? (i := 10) rfl))
theorem g_X6_firstFree_179 : GoodIn uX6_firstFree (wsV yX6_firstFree.cls 179 RX1 yX1_decide uX1_decide) := gU_V (wU_r27 _ (List.mem_of_getElem? (i := 20) rfl)) (wU_r21 _ (List.mem_of_getElem? (i := 0) rfl)) (wU_r21 _ (List.mem_of_getElem? (i := 1) rfl)) (wU_r1 _ (List.mem_of_getElem? (i := 23) rfl)) (wU_r21 _ (List.mem_of_getElem? (i := 2) rfl))
theorem g_X6_firstFree_234 : GoodIn uX6_firstFree (wsV yX6_firstFree.cls 234 RX1 yX1_lay uX1_lay) := gU_V (wU_r32 _ (List.mem_of_getElem? (i := 22) rfl)) (wU_r24 _ (List.mem_of_getElem? (i := 6) rfl)) (wU_r24 _ (List.mem_of_getElem? (i := 7) rfl)) (wU_r1 _ (List.mem_of_getElem? (i := 23) rfl)) (wU_r24 _ (List.mem_of_getElem? (i := 8) rfl))
theorem w_X6_firstFree_f165 : Cond.fieldLink yX6_firstFree.cls 165 (TX1 4).1 (TX1 4).2.1 (TX1 4).2.2.1 ∈ uX6_firstFree := List.mem_cons_of_mem _ (wU_r20 _ (List.mem_of_getElem? (i := 14) rfl))
theorem w_X6_firstFree_f174 : Cond.fieldLink yX6_firstFree.cls 174 (TX1 6).1 (TX1 6).2.1 (TX1 6).2.2.1 ∈ uX6_firstFree := List.mem_cons_of_mem _ (wU_r20 _ (List.mem_of_getElem? (i := 17) rfl))
def f_X6_firstFree_92 (r2 : Int32 → Int32 → aSt → Option (Int32 × aSt)) (l1 : Int32) (l2 : Int32) (S : aSt) : Option (Int32 × aSt) := (aLt (l2 + (1 : Int32)) (fun x6 => (r2 l1 x6 S)))
set_option maxRecDepth 20000 in
set_option maxHeartbeats 4000000 in
theorem v_X6_firstFree_92 {G : aG} {K : Option Nat} (hF : aFt G K) (r2 : Int32 → Int32 → aSt → Option (Int32 × aSt)) (hr2 : ∀ (l1 : Int32) (l2 : Int32) (S : aSt), aX G yX6_firstFree cX6_firstFree 3 (some .int) uX6_firstFree 7 mk_i (r2 l1 l2 S) 2 [some (.ref (0)), some (.int l1), some (.int l2)] [] S) (l1 : Int32) (l2 : Int32) (S : aSt) : aX G yX6_firstFree cX6_firstFree 3 (some .int) uX6_firstFree 7 mk_i (f_X6_firstFree_92 r2 l1 l2 S) 92 [some (.ref (0)), some (.int l1), some (.int l2)] [] S := by
  unfold f_X6_firstFree_92
  refine x_iincL (w := (1 : Int32)) dX6_firstFree_92 rfl (by decide) (Nat.le_of_ble_eq_true rfl) rfl (fun x6 => ?_)
  refine x_goto (tgt := 2) dX6_firstFree_95 (by decide) ?_
  exact x_le (hr2 l1 x6 S) (And.intro rfl (And.intro rfl (And.intro rfl trivial)))
def f_X6_firstFree_2  : Nat → Int32 → Int32 → aSt → Option (Int32 × aSt)
  | 0, _, _, _ => none
  | n + 1, l1, l2, S => (if (S.1 (1) 4) ≤ l2 then (some ((-5 : Int32), S)) else (aB (f_X6_bitOf l2 S) (fun r1_ S1 => (if (l1 &&& r1_) = 0 then (f_X6_firstFree_92 (fun l1 l2 S => (f_X6_firstFree_2 n l1 l2 S)) l1 l2 S1) else (if l2 < 0 ∨ 6 ≤ (l2).toNatClampNeg then none else (aB (f_X1_decide (1 + 3) (1 + 9 + 2 * (l2).toNatClampNeg) (-1 : Int32) S1) (fun r3_ S3 => (if l2 < 0 ∨ 6 ≤ (l2).toNatClampNeg then none else (aB (f_X1_lay (1) (1 + 9 + 2 * (l2).toNatClampNeg) l1 S3) (fun r5_ S5 => (if (S5.1 (29) 4) = (2 : Int32) then (f_X6_firstFree_92 (fun l1 l2 S => (f_X6_firstFree_2 n l1 l2 S)) l1 l2 S5) else (if (S5.1 (29) 6) = (-5 : Int32) then (some (l2, S5)) else (f_X6_firstFree_92 (fun l1 l2 S => (f_X6_firstFree_2 n l1 l2 S)) l1 l2 S5)))))))))))))
set_option maxRecDepth 20000 in
set_option maxHeartbeats 4000000 in
theorem v_X6_firstFree_2 {G : aG} {K : Option Nat} (hF : aFt G K) : ∀ (n : Nat) (l1 : Int32) (l2 : Int32) (S : aSt), aX G yX6_firstFree cX6_firstFree 3 (some .int) uX6_firstFree 7 mk_i (f_X6_firstFree_2 n l1 l2 S) 2 [some (.ref (0)), some (.int l1), some (.int l2)] [] S := by
  intro n
  induction n with
  | zero => intro l1 l2 S; exact x_none
  | succ n ih =>
    intro l1 l2 S
    unfold f_X6_firstFree_2
    refine x_iload_n dX6_firstFree_2 rfl rfl ?_
    refine x_aload_n dX6_firstFree_3 rfl rfl ?_
    refine x_getR (r := 1) (k := 0) (j := 0) dX6_firstFree_4 hF.1 rfl rfl (Nat.le_of_ble_eq_true rfl) (fun w h => List.mem_cons_of_mem _ (inlX6 w h)) w_X6_firstFree_f12 ?_
    refine x_getI (k := 1) (j := 4) dX6_firstFree_7 hF.2.1.1 rfl rfl (Nat.le_of_ble_eq_true rfl) (fun w h => List.mem_cons_of_mem _ (inlX2 w h)) w_X6_firstFree_f105 ?_
    refine x_icmp_ge (tgt := 98) dX6_firstFree_10 (by decide) ?_ ?_
    · refine x_bipush (-5 : Int32) dX6_firstFree_98 (by decide) ?_
      exact x_iret dX6_firstFree_100 rfl
    · refine x_iload_n dX6_firstFree_13 rfl rfl ?_
      refine x_iload_n dX6_firstFree_14 rfl rfl ?_
      refine x_b (fun r1_ S1 e1 => ?_)
      refine x_callSi (As := [.int l2]) dX6_firstFree_15 (aMet_of e1 (m_X6_bitOf l2 S)) g_X6_firstFree_197 rfl dd_X6_bitOf rfl rfl (Nat.le_of_ble_eq_true rfl) (Nat.le_of_ble_eq_true rfl) (Nat.le_of_ble_eq_true rfl) ?_
      refine x_iand dX6_firstFree_18 ?_
      refine x_if_eq (tgt := 92) dX6_firstFree_19 (by decide) ?_ ?_
      · exact x_le (v_X6_firstFree_92 hF (fun l1 l2 S => (f_X6_firstFree_2 n l1 l2 S)) ih l1 l2 S1) (And.intro rfl (And.intro rfl (And.intro rfl trivial)))
      · refine x_aload_n dX6_firstFree_22 rfl rfl ?_
        refine x_getR (r := 29) (k := 0) (j := 2) dX6_firstFree_23 hF.1 rfl rfl (Nat.le_of_ble_eq_true rfl) (fun w h => List.mem_cons_of_mem _ (inlX6 w h)) w_X6_firstFree_f28 ?_
        refine x_aload_n dX6_firstFree_26 rfl rfl ?_
        refine x_getR (r := 1) (k := 0) (j := 0) dX6_firstFree_27 hF.1 rfl rfl (Nat.le_of_ble_eq_true rfl) (fun w h => List.mem_cons_of_mem _ (inlX6 w h)) w_X6_firstFree_f12 ?_
        refine x_getR (r := 1 + 3) (k := 1) (j := 8) dX6_firstFree_30 hF.2.1.1 rfl rfl (Nat.le_of_ble_eq_true rfl) (fun w h => List.mem_cons_of_mem _ (inlX2 w h)) w_X6_firstFree_f79 ?_
        refine x_aload_n dX6_firstFree_33 rfl rfl ?_
        refine x_getR (r := 1) (k := 0) (j := 0) dX6_firstFree_34 hF.1 rfl rfl (Nat.le_of_ble_eq_true rfl) (fun w h => List.mem_cons_of_mem _ (inlX6 w h)) w_X6_firstFree_f12 ?_
        refine x_getR (r := 1 + 8) (k := 1) (j := 9) dX6_firstFree_37 hF.2.1.1 rfl rfl (Nat.le_of_ble_eq_true rfl) (fun w h => List.mem_cons_of_mem _ (inlX2 w h)) w_X6_firstFree_f108 ?_
        refine x_iload_n dX6_firstFree_40 rfl rfl ?_
        refine x_aald (g := fun j => 1 + 9 + 2 * j) dX6_firstFree_41 hF.2.1.2.2.2.2.1 (fun _ => rfl) (fun h2 => ?_)
        refine x_iconst (-1 : Int32) dX6_firstFree_42 (by decide) ?_
        refine x_b (fun r3_ S3 e3 => ?_)
        refine x_callVv (As := [.ref (1 + 3), .ref (1 + 9 + 2 * (l2).toNatClampNeg), .int (-1 : Int32)]) dX6_firstFree_43 (aMet_of e3 (m_X1_decide hF.2.2.2.1 (1 + 3) hF.2.1.2.2.2.1 (1 + 9 + 2 * (l2).toNatClampNeg) (hF.2.1.2.2.2.2.2 _ (a_lt h2)) (-1 : Int32) S1)) g_X6_firstFree_179 rfl hF.2.2.2.1 rfl dd_X1_decide rfl rfl (Nat.le_of_ble_eq_true rfl) (Nat.le_of_ble_eq_true rfl) (Nat.le_of_ble_eq_true rfl) ?_
        refine x_aload_n dX6_firstFree_46 rfl rfl ?_
        refine x_getR (r := 29) (k := 0) (j := 2) dX6_firstFree_47 hF.1 rfl rfl (Nat.le_of_ble_eq_true rfl) (fun w h => List.mem_cons_of_mem _ (inlX6 w h)) w_X6_firstFree_f28 ?_
        refine x_aload_n dX6_firstFree_50 rfl rfl ?_
        refine x_getR (r := 1) (k := 0) (j := 0) dX6_firstFree_51 hF.1 rfl rfl (Nat.le_of_ble_eq_true rfl) (fun w h => List.mem_cons_of_mem _ (inlX6 w h)) w_X6_firstFree_f12 ?_
        refine x_aload_n dX6_firstFree_54 rfl rfl ?_
        refine x_getR (r := 1) (k := 0) (j := 0) dX6_firstFree_55 hF.1 rfl rfl (Nat.le_of_ble_eq_true rfl) (fun w h => List.mem_cons_of_mem _ (inlX6 w h)) w_X6_firstFree_f12 ?_
        refine x_getR (r := 1 + 8) (k := 1) (j := 9) dX6_firstFree_58 hF.2.1.1 rfl rfl (Nat.le_of_ble_eq_true rfl) (fun w h => List.mem_cons_of_mem _ (inlX2 w h)) w_X6_firstFree_f108 ?_
        refine x_iload_n dX6_firstFree_61 rfl rfl ?_
        refine x_aald (g := fun j => 1 + 9 + 2 * j) dX6_firstFree_62 hF.2.1.2.2.2.2.1 (fun _ => rfl) (fun h4 => ?_)
        refine x_iload_n dX6_firstFree_63 rfl rfl ?_
        refine x_b (fun r5_ S5 e5 => ?_)
        refine x_callVv (As := [.ref (1), .ref (1 + 9 + 2 * (l2).toNatClampNeg), .int l1]) dX6_firstFree_64 (aMet_of e5 (m_X1_lay hF.2.2.2.1 (1) hF.2.1 (1 + 9 + 2 * (l2).toNatClampNeg) (hF.2.1.2.2.2.2.2 _ (a_lt h4)) l1 S3)) g_X6_firstFree_234 rfl hF.2.2.2.1 rfl dd_X1_lay rfl rfl (Nat.le_of_ble_eq_true rfl) (Nat.le_of_ble_eq_true rfl) (Nat.le_of_ble_eq_true rfl) ?_
        refine x_aload_n dX6_firstFree_67 rfl rfl ?_
        refine x_getR (r := 29) (k := 0) (j := 2) dX6_firstFree_68 hF.1 rfl rfl (Nat.le_of_ble_eq_true rfl) (fun w h => List.mem_cons_of_mem _ (inlX6 w h)) w_X6_firstFree_f28 ?_
        refine x_getI (k := 29) (j := 4) dX6_firstFree_71 hF.2.2.2.1 rfl rfl (Nat.le_of_ble_eq_true rfl) (fun w h => List.mem_cons_of_mem _ (inlX1 w h)) w_X6_firstFree_f165 ?_
        refine x_iconst (2 : Int32) dX6_firstFree_74 (by decide) ?_
        refine x_icmp_eq (tgt := 92) dX6_firstFree_75 (by decide) ?_ ?_
        · exact x_le (v_X6_firstFree_92 hF (fun l1 l2 S => (f_X6_firstFree_2 n l1 l2 S)) ih l1 l2 S5) (And.intro rfl (And.intro rfl (And.intro rfl trivial)))
        · refine x_aload_n dX6_firstFree_78 rfl rfl ?_
          refine x_getR (r := 29) (k := 0) (j := 2) dX6_firstFree_79 hF.1 rfl rfl (Nat.le_of_ble_eq_true rfl) (fun w h => List.mem_cons_of_mem _ (inlX6 w h)) w_X6_firstFree_f28 ?_
          refine x_getI (k := 29) (j := 6) dX6_firstFree_82 hF.2.2.2.1 rfl rfl (Nat.le_of_ble_eq_true rfl) (fun w h => List.mem_cons_of_mem _ (inlX1 w h)) w_X6_firstFree_f174 ?_
          refine x_bipush (-5 : Int32) dX6_firstFree_85 (by decide) ?_
          refine x_icmp_ne (tgt := 92) dX6_firstFree_87 (by decide) ?_ ?_
          · exact x_le (v_X6_firstFree_92 hF (fun l1 l2 S => (f_X6_firstFree_2 n l1 l2 S)) ih l1 l2 S5) (And.intro rfl (And.intro rfl (And.intro rfl trivial)))
          · refine x_iload_n dX6_firstFree_90 rfl rfl ?_
            exact x_iret dX6_firstFree_91 rfl
def f_X6_firstFree (p1 : Int32) (S : aSt) : Option (Int32 × aSt) := (f_X6_firstFree_2 aF p1 (0 : Int32) S)
set_option maxRecDepth 20000 in
set_option maxHeartbeats 4000000 in
theorem m_X6_firstFree {G : aG} {K : Option Nat} (hF : aFt G K) (p1 : Int32) (S : aSt) : aMet G yX6_firstFree uX6_firstFree 7 mk_i (f_X6_firstFree p1 S) [.ref (0), .int p1] S := by
  refine x_met (cc := cX6_firstFree) (nL := 3) (ret := (some .int)) (L := [some (.ref (0)), some (.int p1), none]) (by decide +kernel) rfl (And.intro rfl (And.intro rfl trivial)) (Nat.le_of_ble_eq_true rfl) ?_
  unfold f_X6_firstFree
  refine x_iconst (0 : Int32) dX6_firstFree_0 (by decide) ?_
  refine x_istore_n dX6_firstFree_1 rfl (Nat.le_of_ble_eq_true rfl) rfl ?_
  exact x_le (v_X6_firstFree_2 hF aF p1 (0 : Int32) S) (And.intro rfl (And.intro rfl (And.intro rfl trivial)))
theorem dd_X6_firstFree : yX6_firstFree.cls = RX6 ∧ yX6_firstFree.cls ≠ "java/lang/invoke/MethodHandle" ∧ yX6_firstFree.cls ≠ "java/lang/invoke/VarHandle" ∧ (parseMethodDescriptor yX6_firstFree.desc).map (fun d => d.parameters.length) = some 1 := by decide +kernel
theorem g_X6_order_57 : GoodIn uX6_order (va_wsS yX6_order.cls 57 yX6_outside uX6_outside) := gU_S (wU_r5 _ (List.mem_of_getElem? (i := 21) rfl)) (wU_r5 _ (List.mem_of_getElem? (i := 22) rfl)) (wU_r1 _ (List.mem_of_getElem? (i := 2) rfl)) (wU_r5 _ (List.mem_of_getElem? (i := 23) rfl))
theorem w_X6_order_f12 : Cond.fieldLink yX6_order.cls 12 (TX6 0).1 (TX6 0).2.1 (TX6 0).2.2.1 ∈ uX6_order := List.mem_cons_of_mem _ (wU_r1 _ (List.mem_of_getElem? (i := 16) rfl))
theorem g_X6_order_224 : GoodIn uX6_order (wsV yX6_order.cls 224 RX2 yX2_standingTrees uX2_standingTrees) := gU_V (wU_r32 _ (List.mem_of_getElem? (i := 10) rfl)) (wU_r23 _ (List.mem_of_getElem? (i := 23) rfl)) (wU_r24 _ (List.mem_of_getElem? (i := 0) rfl)) (wU_r1 _ (List.mem_of_getElem? (i := 15) rfl)) (wU_r24 _ (List.mem_of_getElem? (i := 1) rfl))
theorem g_X6_order_227 : GoodIn uX6_order (va_wsS yX6_order.cls 227 yJ6_bitCount_0f7a4 uJ6_bitCount_0f7a4) := gU_S (wU_r32 _ (List.mem_of_getElem? (i := 11) rfl)) (wU_r32 _ (List.mem_of_getElem? (i := 12) rfl)) (wU_r32 _ (List.mem_of_getElem? (i := 13) rfl)) (wU_r32 _ (List.mem_of_getElem? (i := 14) rfl))
theorem g_X6_order_231 : GoodIn uX6_order (wsV yX6_order.cls 231 RX6 yX6_firstFree uX6_firstFree) := gU_V (wU_r32 _ (List.mem_of_getElem? (i := 18) rfl)) (wU_r32 _ (List.mem_of_getElem? (i := 19) rfl)) (wU_r32 _ (List.mem_of_getElem? (i := 20) rfl)) (wU_r1 _ (List.mem_of_getElem? (i := 2) rfl)) (wU_r32 _ (List.mem_of_getElem? (i := 21) rfl))
theorem g_X6_order_197 : GoodIn uX6_order (va_wsS yX6_order.cls 197 yX6_bitOf uX6_bitOf) := gU_S (wU_r28 _ (List.mem_of_getElem? (i := 17) rfl)) (wU_r24 _ (List.mem_of_getElem? (i := 3) rfl)) (wU_r1 _ (List.mem_of_getElem? (i := 2) rfl)) (wU_r24 _ (List.mem_of_getElem? (i := 4) rfl))
def f_X6_order_71 (r38 : Int32 → Int32 → Int32 → Int32 → Int32 → aSt → Option (Int32 × aSt)) (l1 : Int32) (l2 : Int32) (l3 : Int32) (l4 : Int32) (l5 : Int32) (l6 : Int32) (S : aSt) : Option (Int32 × aSt) := (aB (f_X6_bitOf l6 S) (fun r5_ S5 => (aLt (l2 &&& (r5_ ^^^ (-1 : Int32))) (fun x6 => (aLt (l5 + (1 : Int32)) (fun x7 => (r38 l1 x6 l3 l4 x7 S5)))))))
set_option maxRecDepth 20000 in
set_option maxHeartbeats 4000000 in
theorem v_X6_order_71 {G : aG} {K : Option Nat} (hF : aFt G K) (r38 : Int32 → Int32 → Int32 → Int32 → Int32 → aSt → Option (Int32 × aSt)) (hr38 : ∀ (l1 : Int32) (l2 : Int32) (l3 : Int32) (l4 : Int32) (l5 : Int32) (S : aSt), aX G yX6_order cX6_order 7 (some .int) uX6_order 8 mk_i (r38 l1 l2 l3 l4 l5 S) 38 [some (.ref (0)), some (.int l1), some (.int l2), some (.int l3), some (.int l4), some (.int l5), none] [] S) (l1 : Int32) (l2 : Int32) (l3 : Int32) (l4 : Int32) (l5 : Int32) (l6 : Int32) (S : aSt) : aX G yX6_order cX6_order 7 (some .int) uX6_order 8 mk_i (f_X6_order_71 r38 l1 l2 l3 l4 l5 l6 S) 71 [some (.ref (0)), some (.int l1), some (.int l2), some (.int l3), some (.int l4), some (.int l5), some (.int l6)] [] S := by
  unfold f_X6_order_71
  refine x_iload_n dX6_order_71 rfl rfl ?_
  refine x_iload dX6_order_72 rfl ?_
  refine x_b (fun r5_ S5 e5 => ?_)
  refine x_callSi (As := [.int l6]) dX6_order_74 (aMet_of e5 (m_X6_bitOf l6 S)) g_X6_order_197 rfl dd_X6_bitOf rfl rfl (Nat.le_of_ble_eq_true rfl) (Nat.le_of_ble_eq_true rfl) (Nat.le_of_ble_eq_true rfl) ?_
  refine x_iconst (-1 : Int32) dX6_order_77 (by decide) ?_
  refine x_ixor dX6_order_78 ?_
  refine x_iand dX6_order_79 ?_
  refine x_lti (fun x6 => ?_)
  refine x_istore_n dX6_order_80 rfl (Nat.le_of_ble_eq_true rfl) rfl ?_
  refine x_iincL (w := (1 : Int32)) dX6_order_81 rfl (by decide) (Nat.le_of_ble_eq_true rfl) rfl (fun x7 => ?_)
  refine x_goto (tgt := 38) dX6_order_84 (by decide) ?_
  exact x_le (hr38 l1 x6 l3 l4 x7 S5) (And.intro rfl (And.intro rfl (And.intro rfl (And.intro rfl (And.intro rfl (And.intro rfl trivial))))))
def f_X6_order_38  : Nat → Int32 → Int32 → Int32 → Int32 → Int32 → aSt → Option (Int32 × aSt)
  | 0, _, _, _, _, _, _ => none
  | n + 1, l1, l2, l3, l4, l5, S => (if l3 ≤ l5 then (some (l4, S)) else (aB (f_X6_firstFree l2 S) (fun r4_ S4 => (if r4_ = (-5 : Int32) then (some ((-5 : Int32), S4)) else (if l5 = l1 then (f_X6_order_71 (fun l1 l2 l3 l4 l5 S => (f_X6_order_38 n l1 l2 l3 l4 l5 S)) l1 l2 l3 r4_ l5 r4_ S4) else (f_X6_order_71 (fun l1 l2 l3 l4 l5 S => (f_X6_order_38 n l1 l2 l3 l4 l5 S)) l1 l2 l3 l4 l5 r4_ S4))))))
set_option maxRecDepth 20000 in
set_option maxHeartbeats 4000000 in
theorem v_X6_order_38 {G : aG} {K : Option Nat} (hF : aFt G K) : ∀ (n : Nat) (l1 : Int32) (l2 : Int32) (l3 : Int32) (l4 : Int32) (l5 : Int32) (S : aSt), aX G yX6_order cX6_order 7 (some .int) uX6_order 8 mk_i (f_X6_order_38 n l1 l2 l3 l4 l5 S) 38 [some (.ref (0)), some (.int l1), some (.int l2), some (.int l3), some (.int l4), some (.int l5), none] [] S := by
  intro n
  induction n with
  | zero => intro l1 l2 l3 l4 l5 S; exact x_none
  | succ n ih =>
    intro l1 l2 l3 l4 l5 S
    unfold f_X6_order_38
    refine x_iload dX6_order_38 rfl ?_
    refine x_iload_n dX6_order_40 rfl rfl ?_
    refine x_icmp_ge (tgt := 87) dX6_order_41 (by decide) ?_ ?_
    · refine x_iload dX6_order_87 rfl ?_
      exact x_iret dX6_order_89 rfl
    · refine x_aload_n dX6_order_44 rfl rfl ?_
      refine x_iload_n dX6_order_45 rfl rfl ?_
      refine x_b (fun r4_ S4 e4 => ?_)
      refine x_callVi (As := [.int l2]) dX6_order_46 (aMet_of e4 (m_X6_firstFree hF l2 S)) g_X6_order_231 rfl hF.1 rfl dd_X6_firstFree rfl rfl (Nat.le_of_ble_eq_true rfl) (Nat.le_of_ble_eq_true rfl) (Nat.le_of_ble_eq_true rfl) ?_
      refine x_istore dX6_order_49 (Nat.le_of_ble_eq_true rfl) rfl ?_
      refine x_iload dX6_order_51 rfl ?_
      refine x_bipush (-5 : Int32) dX6_order_53 (by decide) ?_
      refine x_icmp_ne (tgt := 61) dX6_order_55 (by decide) ?_ ?_
      · refine x_iload dX6_order_61 rfl ?_
        refine x_iload_n dX6_order_63 rfl rfl ?_
        refine x_icmp_ne (tgt := 71) dX6_order_64 (by decide) ?_ ?_
        · exact x_le (v_X6_order_71 hF (fun l1 l2 l3 l4 l5 S => (f_X6_order_38 n l1 l2 l3 l4 l5 S)) ih l1 l2 l3 l4 l5 r4_ S4) (And.intro rfl (And.intro rfl (And.intro rfl (And.intro rfl (And.intro rfl (And.intro rfl (And.intro rfl trivial)))))))
        · refine x_iload dX6_order_67 rfl ?_
          refine x_istore dX6_order_69 (Nat.le_of_ble_eq_true rfl) rfl ?_
          exact x_le (v_X6_order_71 hF (fun l1 l2 l3 l4 l5 S => (f_X6_order_38 n l1 l2 l3 l4 l5 S)) ih l1 l2 l3 r4_ l5 r4_ S4) (And.intro rfl (And.intro rfl (And.intro rfl (And.intro rfl (And.intro rfl (And.intro rfl (And.intro rfl trivial)))))))
      · refine x_bipush (-5 : Int32) dX6_order_58 (by decide) ?_
        exact x_iret dX6_order_60 rfl
def f_X6_order (p1 : Int32) (S : aSt) : Option (Int32 × aSt) := (aB (f_X6_outside p1 (4 : Int32) S) (fun r1_ S1 => (if r1_ = 0 then (aB (f_X2_standingTrees (1) S1) (fun r2_ S2 => (aB (f_J6_bitCount_0f7a4 r2_ S2) (fun r3_ S3 => (if r3_ ≤ (5 : Int32) then (f_X6_order_38 aF p1 r2_ r3_ (-5 : Int32) (0 : Int32) S3) else (some ((-9 : Int32), S3))))))) else (some ((-1 : Int32), S1)))))
set_option maxRecDepth 20000 in
set_option maxHeartbeats 4000000 in
theorem m_X6_order {G : aG} {K : Option Nat} (hF : aFt G K) (p1 : Int32) (S : aSt) : aMet G yX6_order uX6_order 8 mk_i (f_X6_order p1 S) [.ref (0), .int p1] S := by
  refine x_met (cc := cX6_order) (nL := 7) (ret := (some .int)) (L := [some (.ref (0)), some (.int p1), none, none, none, none, none]) (by decide +kernel) rfl (And.intro rfl (And.intro rfl trivial)) (Nat.le_of_ble_eq_true rfl) ?_
  unfold f_X6_order
  refine x_iload_n dX6_order_0 rfl rfl ?_
  refine x_iconst (4 : Int32) dX6_order_1 (by decide) ?_
  refine x_b (fun r1_ S1 e1 => ?_)
  refine x_callSi (As := [.int p1, .int (4 : Int32)]) dX6_order_2 (aMet_of e1 (m_X6_outside p1 (4 : Int32) S)) g_X6_order_57 rfl dd_X6_outside rfl rfl (Nat.le_of_ble_eq_true rfl) (Nat.le_of_ble_eq_true rfl) (Nat.le_of_ble_eq_true rfl) ?_
  refine x_if_eq (tgt := 10) dX6_order_5 (by decide) ?_ ?_
  · refine x_aload_n dX6_order_10 rfl rfl ?_
    refine x_getR (r := 1) (k := 0) (j := 0) dX6_order_11 hF.1 rfl rfl (Nat.le_of_ble_eq_true rfl) (fun w h => List.mem_cons_of_mem _ (inlX6 w h)) w_X6_order_f12 ?_
    refine x_b (fun r2_ S2 e2 => ?_)
    refine x_callVi (As := []) dX6_order_14 (aMet_of e2 (m_X2_standingTrees (1) hF.2.1 S1)) g_X6_order_224 rfl hF.2.1.1 rfl dd_X2_standingTrees rfl rfl (Nat.le_of_ble_eq_true rfl) (Nat.le_of_ble_eq_true rfl) (Nat.le_of_ble_eq_true rfl) ?_
    refine x_istore_n dX6_order_17 rfl (Nat.le_of_ble_eq_true rfl) rfl ?_
    refine x_iload_n dX6_order_18 rfl rfl ?_
    refine x_b (fun r3_ S3 e3 => ?_)
    refine x_callSi (As := [.int r2_]) dX6_order_19 (aMet_of e3 (m_J6_bitCount_0f7a4 r2_ S2)) g_X6_order_227 rfl dd_J6_bitCount_0f7a4 rfl rfl (Nat.le_of_ble_eq_true rfl) (Nat.le_of_ble_eq_true rfl) (Nat.le_of_ble_eq_true rfl) ?_
    refine x_istore_n dX6_order_22 rfl (Nat.le_of_ble_eq_true rfl) rfl ?_
    refine x_iload_n dX6_order_23 rfl rfl ?_
    refine x_iconst (5 : Int32) dX6_order_24 (by decide) ?_
    refine x_icmp_le (tgt := 31) dX6_order_25 (by decide) ?_ ?_
    · refine x_bipush (-5 : Int32) dX6_order_31 (by decide) ?_
      refine x_istore dX6_order_33 (Nat.le_of_ble_eq_true rfl) rfl ?_
      refine x_iconst (0 : Int32) dX6_order_35 (by decide) ?_
      refine x_istore dX6_order_36 (Nat.le_of_ble_eq_true rfl) rfl ?_
      exact x_le (v_X6_order_38 hF aF p1 r2_ r3_ (-5 : Int32) (0 : Int32) S3) (And.intro rfl (And.intro rfl (And.intro rfl (And.intro rfl (And.intro rfl (And.intro rfl trivial))))))
    · refine x_bipush (-9 : Int32) dX6_order_28 (by decide) ?_
      exact x_iret dX6_order_30 rfl
  · refine x_iconst (-1 : Int32) dX6_order_8 (by decide) ?_
    exact x_iret dX6_order_9 rfl
theorem w_X6_hung_f12 : Cond.fieldLink yX6_hung.cls 12 (TX6 0).1 (TX6 0).2.1 (TX6 0).2.2.1 ∈ uX6_hung := List.mem_cons_of_mem _ (wU_r1 _ (List.mem_of_getElem? (i := 16) rfl))
theorem w_X6_hung_f105 : Cond.fieldLink yX6_hung.cls 105 (TX2 4).1 (TX2 4).2.1 (TX2 4).2.2.1 ∈ uX6_hung := List.mem_cons_of_mem _ (wU_r17 _ (List.mem_of_getElem? (i := 9) rfl))
theorem w_X6_hung_f108 : Cond.fieldLink yX6_hung.cls 108 (TX2 9).1 (TX2 9).2.1 (TX2 9).2.2.1 ∈ uX6_hung := List.mem_cons_of_mem _ (wU_r17 _ (List.mem_of_getElem? (i := 10) rfl))
theorem w_X6_hung_f141 : Cond.fieldLink yX6_hung.cls 141 (TX4 8).1 (TX4 8).2.1 (TX4 8).2.2.1 ∈ uX6_hung := List.mem_cons_of_mem _ (wU_r19 _ (List.mem_of_getElem? (i := 16) rfl))
theorem w_X6_hung_f28 : Cond.fieldLink yX6_hung.cls 28 (TX6 2).1 (TX6 2).2.1 (TX6 2).2.2.1 ∈ uX6_hung := List.mem_cons_of_mem _ (wU_r2 _ (List.mem_of_getElem? (i := 0) rfl))
theorem g_X6_hung_149 : GoodIn uX6_hung (wsV yX6_hung.cls 149 RX1 yX1_run uX1_run) := gU_V (wU_r20 _ (List.mem_of_getElem? (i := 18) rfl)) (wU_r20 _ (List.mem_of_getElem? (i := 19) rfl)) (wU_r20 _ (List.mem_of_getElem? (i := 20) rfl)) (wU_r1 _ (List.mem_of_getElem? (i := 23) rfl)) (wU_r20 _ (List.mem_of_getElem? (i := 21) rfl))
theorem w_X6_hung_f174 : Cond.fieldLink yX6_hung.cls 174 (TX1 6).1 (TX1 6).2.1 (TX1 6).2.2.1 ∈ uX6_hung := List.mem_cons_of_mem _ (wU_r20 _ (List.mem_of_getElem? (i := 17) rfl))
def f_X6_hung_65 (r4 : Int32 → Int32 → aSt → Option (Int32 × aSt)) (l1 : Int32) (l2 : Int32) (S : aSt) : Option (Int32 × aSt) := (aLt (l2 + (1 : Int32)) (fun x3 => (r4 l1 x3 S)))
set_option maxRecDepth 20000 in
set_option maxHeartbeats 4000000 in
theorem v_X6_hung_65 {G : aG} {K : Option Nat} (hF : aFt G K) (r4 : Int32 → Int32 → aSt → Option (Int32 × aSt)) (hr4 : ∀ (l1 : Int32) (l2 : Int32) (S : aSt), aX G yX6_hung cX6_hung 4 (some .int) uX6_hung 8 mk_i (r4 l1 l2 S) 4 [some (.ref (0)), some (.int l1), some (.int l2), none] [] S) (l1 : Int32) (l2 : Int32) (S : aSt) : aX G yX6_hung cX6_hung 4 (some .int) uX6_hung 8 mk_i (f_X6_hung_65 r4 l1 l2 S) 65 [some (.ref (0)), some (.int l1), some (.int l2), none] [] S := by
  unfold f_X6_hung_65
  refine x_iincL (w := (1 : Int32)) dX6_hung_65 rfl (by decide) (Nat.le_of_ble_eq_true rfl) rfl (fun x3 => ?_)
  refine x_goto (tgt := 4) dX6_hung_68 (by decide) ?_
  exact x_le (hr4 l1 x3 S) (And.intro rfl (And.intro rfl (And.intro rfl trivial)))
def f_X6_hung_63 (r4 : Int32 → Int32 → aSt → Option (Int32 × aSt)) (l2 : Int32) (s0 : Int32) (s1 : Int32) (S : aSt) : Option (Int32 × aSt) := (aLt (s1 + s0) (fun x4 => (f_X6_hung_65 r4 x4 l2 S)))
set_option maxRecDepth 20000 in
set_option maxHeartbeats 4000000 in
theorem v_X6_hung_63 {G : aG} {K : Option Nat} (hF : aFt G K) (r4 : Int32 → Int32 → aSt → Option (Int32 × aSt)) (hr4 : ∀ (l1 : Int32) (l2 : Int32) (S : aSt), aX G yX6_hung cX6_hung 4 (some .int) uX6_hung 8 mk_i (r4 l1 l2 S) 4 [some (.ref (0)), some (.int l1), some (.int l2), none] [] S) (l2 : Int32) (s0 : Int32) (s1 : Int32) (S : aSt) : aX G yX6_hung cX6_hung 4 (some .int) uX6_hung 8 mk_i (f_X6_hung_63 r4 l2 s0 s1 S) 63 [some (.ref (0)), none, some (.int l2), none] [.int s0, .int s1] S := by
  unfold f_X6_hung_63
  refine x_iadd dX6_hung_63 ?_
  refine x_lti (fun x4 => ?_)
  refine x_istore_n dX6_hung_64 rfl (Nat.le_of_ble_eq_true rfl) rfl ?_
  exact x_le (v_X6_hung_65 hF r4 hr4 x4 l2 S) (And.intro rfl (And.intro rfl (And.intro rfl trivial)))
def f_X6_hung_4  : Nat → Int32 → Int32 → aSt → Option (Int32 × aSt)
  | 0, _, _, _ => none
  | n + 1, l1, l2, S => (if (S.1 (1) 4) ≤ l2 then (some (l1, S)) else (if l2 < 0 ∨ 6 ≤ (l2).toNatClampNeg then none else (if (S.1 (1 + 9 + 2 * (l2).toNatClampNeg) 8) = 0 then (f_X6_hung_65 (fun l1 l2 S => (f_X6_hung_4 n l1 l2 S)) l1 l2 S) else (aB (f_X1_run (1) (1 + 9 + 2 * (l2).toNatClampNeg) (-1 : Int32) S) (fun r2_ S2 => (if (S2.1 (29) 6) = (-5 : Int32) then (f_X6_hung_63 (fun l1 l2 S => (f_X6_hung_4 n l1 l2 S)) l2 (0 : Int32) l1 S2) else (f_X6_hung_63 (fun l1 l2 S => (f_X6_hung_4 n l1 l2 S)) l2 (1 : Int32) l1 S2)))))))
set_option maxRecDepth 20000 in
set_option maxHeartbeats 4000000 in
theorem v_X6_hung_4 {G : aG} {K : Option Nat} (hF : aFt G K) : ∀ (n : Nat) (l1 : Int32) (l2 : Int32) (S : aSt), aX G yX6_hung cX6_hung 4 (some .int) uX6_hung 8 mk_i (f_X6_hung_4 n l1 l2 S) 4 [some (.ref (0)), some (.int l1), some (.int l2), none] [] S := by
  intro n
  induction n with
  | zero => intro l1 l2 S; exact x_none
  | succ n ih =>
    intro l1 l2 S
    unfold f_X6_hung_4
    refine x_iload_n dX6_hung_4 rfl rfl ?_
    refine x_aload_n dX6_hung_5 rfl rfl ?_
    refine x_getR (r := 1) (k := 0) (j := 0) dX6_hung_6 hF.1 rfl rfl (Nat.le_of_ble_eq_true rfl) (fun w h => List.mem_cons_of_mem _ (inlX6 w h)) w_X6_hung_f12 ?_
    refine x_getI (k := 1) (j := 4) dX6_hung_9 hF.2.1.1 rfl rfl (Nat.le_of_ble_eq_true rfl) (fun w h => List.mem_cons_of_mem _ (inlX2 w h)) w_X6_hung_f105 ?_
    refine x_icmp_ge (tgt := 71) dX6_hung_12 (by decide) ?_ ?_
    · refine x_iload_n dX6_hung_71 rfl rfl ?_
      exact x_iret dX6_hung_72 rfl
    · refine x_aload_n dX6_hung_15 rfl rfl ?_
      refine x_getR (r := 1) (k := 0) (j := 0) dX6_hung_16 hF.1 rfl rfl (Nat.le_of_ble_eq_true rfl) (fun w h => List.mem_cons_of_mem _ (inlX6 w h)) w_X6_hung_f12 ?_
      refine x_getR (r := 1 + 8) (k := 1) (j := 9) dX6_hung_19 hF.2.1.1 rfl rfl (Nat.le_of_ble_eq_true rfl) (fun w h => List.mem_cons_of_mem _ (inlX2 w h)) w_X6_hung_f108 ?_
      refine x_iload_n dX6_hung_22 rfl rfl ?_
      refine x_aald (g := fun j => 1 + 9 + 2 * j) dX6_hung_23 hF.2.1.2.2.2.2.1 (fun _ => rfl) (fun h1 => ?_)
      refine x_astore_n dX6_hung_24 rfl (Nat.le_of_ble_eq_true rfl) rfl ?_
      refine x_aload_n dX6_hung_25 rfl rfl ?_
      refine x_getI (k := 1 + 9 + 2 * (l2).toNatClampNeg) (j := 8) dX6_hung_26 (hF.2.1.2.2.2.2.2 _ (a_lt h1)).1 rfl rfl (Nat.le_of_ble_eq_true rfl) (fun w h => List.mem_cons_of_mem _ (inlX4 w h)) w_X6_hung_f141 ?_
      refine x_if_eq (tgt := 65) dX6_hung_29 (by decide) ?_ ?_
      · exact x_le (v_X6_hung_65 hF (fun l1 l2 S => (f_X6_hung_4 n l1 l2 S)) ih l1 l2 S) (And.intro rfl (And.intro rfl (And.intro rfl trivial)))
      · refine x_aload_n dX6_hung_32 rfl rfl ?_
        refine x_getR (r := 29) (k := 0) (j := 2) dX6_hung_33 hF.1 rfl rfl (Nat.le_of_ble_eq_true rfl) (fun w h => List.mem_cons_of_mem _ (inlX6 w h)) w_X6_hung_f28 ?_
        refine x_aload_n dX6_hung_36 rfl rfl ?_
        refine x_getR (r := 1) (k := 0) (j := 0) dX6_hung_37 hF.1 rfl rfl (Nat.le_of_ble_eq_true rfl) (fun w h => List.mem_cons_of_mem _ (inlX6 w h)) w_X6_hung_f12 ?_
        refine x_aload_n dX6_hung_40 rfl rfl ?_
        refine x_iconst (-1 : Int32) dX6_hung_41 (by decide) ?_
        refine x_b (fun r2_ S2 e2 => ?_)
        refine x_callVv (As := [.ref (1), .ref (1 + 9 + 2 * (l2).toNatClampNeg), .int (-1 : Int32)]) dX6_hung_42 (aMet_of e2 (m_X1_run hF.2.2.2.1 (1) hF.2.1 (1 + 9 + 2 * (l2).toNatClampNeg) (hF.2.1.2.2.2.2.2 _ (a_lt h1)) (-1 : Int32) S)) g_X6_hung_149 rfl hF.2.2.2.1 rfl dd_X1_run rfl rfl (Nat.le_of_ble_eq_true rfl) (Nat.le_of_ble_eq_true rfl) (Nat.le_of_ble_eq_true rfl) ?_
        refine x_iload_n dX6_hung_45 rfl rfl ?_
        refine x_aload_n dX6_hung_46 rfl rfl ?_
        refine x_getR (r := 29) (k := 0) (j := 2) dX6_hung_47 hF.1 rfl rfl (Nat.le_of_ble_eq_true rfl) (fun w h => List.mem_cons_of_mem _ (inlX6 w h)) w_X6_hung_f28 ?_
        refine x_getI (k := 29) (j := 6) dX6_hung_50 hF.2.2.2.1 rfl rfl (Nat.le_of_ble_eq_true rfl) (fun w h => List.mem_cons_of_mem _ (inlX1 w h)) w_X6_hung_f174 ?_
        refine x_bipush (-5 : Int32) dX6_hung_53 (by decide) ?_
        refine x_icmp_ne (tgt := 62) dX6_hung_55 (by decide) ?_ ?_
        · refine x_iconst (1 : Int32) dX6_hung_62 (by decide) ?_
          exact x_le (v_X6_hung_63 hF (fun l1 l2 S => (f_X6_hung_4 n l1 l2 S)) ih l2 (1 : Int32) l1 S2) (And.intro rfl (And.intro rfl trivial))
        · refine x_iconst (0 : Int32) dX6_hung_58 (by decide) ?_
          refine x_goto (tgt := 63) dX6_hung_59 (by decide) ?_
          exact x_le (v_X6_hung_63 hF (fun l1 l2 S => (f_X6_hung_4 n l1 l2 S)) ih l2 (0 : Int32) l1 S2) (And.intro rfl (And.intro rfl trivial))
def f_X6_hung  (S : aSt) : Option (Int32 × aSt) := (f_X6_hung_4 aF (0 : Int32) (0 : Int32) S)
set_option maxRecDepth 20000 in
set_option maxHeartbeats 4000000 in
theorem m_X6_hung {G : aG} {K : Option Nat} (hF : aFt G K)  (S : aSt) : aMet G yX6_hung uX6_hung 8 mk_i (f_X6_hung S) [.ref (0)] S := by
  refine x_met (cc := cX6_hung) (nL := 4) (ret := (some .int)) (L := [some (.ref (0)), none, none, none]) (by decide +kernel) rfl (And.intro rfl trivial) (Nat.le_of_ble_eq_true rfl) ?_
  unfold f_X6_hung
  refine x_iconst (0 : Int32) dX6_hung_0 (by decide) ?_
  refine x_istore_n dX6_hung_1 rfl (Nat.le_of_ble_eq_true rfl) rfl ?_
  refine x_iconst (0 : Int32) dX6_hung_2 (by decide) ?_
  refine x_istore_n dX6_hung_3 rfl (Nat.le_of_ble_eq_true rfl) rfl ?_
  exact x_le (v_X6_hung_4 hF aF (0 : Int32) (0 : Int32) S) (And.intro rfl (And.intro rfl (And.intro rfl trivial)))
theorem w_X6_blame_f12 : Cond.fieldLink yX6_blame.cls 12 (TX6 0).1 (TX6 0).2.1 (TX6 0).2.2.1 ∈ uX6_blame := List.mem_cons_of_mem _ (wU_r1 _ (List.mem_of_getElem? (i := 16) rfl))
theorem g_X6_blame_116 : GoodIn uX6_blame (wsV yX6_blame.cls 116 RX2 yX2_find uX2_find) := gU_V (wU_r18 _ (List.mem_of_getElem? (i := 17) rfl)) (wU_r18 _ (List.mem_of_getElem? (i := 18) rfl)) (wU_r18 _ (List.mem_of_getElem? (i := 19) rfl)) (wU_r1 _ (List.mem_of_getElem? (i := 15) rfl)) (wU_r18 _ (List.mem_of_getElem? (i := 20) rfl))
theorem g_X6_blame_57 : GoodIn uX6_blame (va_wsS yX6_blame.cls 57 yX6_outside uX6_outside) := gU_S (wU_r5 _ (List.mem_of_getElem? (i := 21) rfl)) (wU_r5 _ (List.mem_of_getElem? (i := 22) rfl)) (wU_r1 _ (List.mem_of_getElem? (i := 2) rfl)) (wU_r5 _ (List.mem_of_getElem? (i := 23) rfl))
theorem w_X6_blame_f141 : Cond.fieldLink yX6_blame.cls 141 (TX4 8).1 (TX4 8).2.1 (TX4 8).2.2.1 ∈ uX6_blame := List.mem_cons_of_mem _ (wU_r19 _ (List.mem_of_getElem? (i := 16) rfl))
theorem g_X6_blame_207 : GoodIn uX6_blame (wsV yX6_blame.cls 207 RX2 yX2_weightOf uX2_weightOf) := gU_V (wU_r30 _ (List.mem_of_getElem? (i := 14) rfl)) (wU_r30 _ (List.mem_of_getElem? (i := 15) rfl)) (wU_r30 _ (List.mem_of_getElem? (i := 16) rfl)) (wU_r1 _ (List.mem_of_getElem? (i := 15) rfl)) (wU_r30 _ (List.mem_of_getElem? (i := 17) rfl))
theorem w_X6_blame_f28 : Cond.fieldLink yX6_blame.cls 28 (TX6 2).1 (TX6 2).2.1 (TX6 2).2.2.1 ∈ uX6_blame := List.mem_cons_of_mem _ (wU_r2 _ (List.mem_of_getElem? (i := 0) rfl))
theorem w_X6_blame_f79 : Cond.fieldLink yX6_blame.cls 79 (TX2 8).1 (TX2 8).2.1 (TX2 8).2.2.1 ∈ uX6_blame := List.mem_cons_of_mem _ (wU_r6 _ (List.mem_of_getElem? (i := 13) rfl))
theorem g_X6_blame_179 : GoodIn uX6_blame (wsV yX6_blame.cls 179 RX1 yX1_decide uX1_decide) := gU_V (wU_r27 _ (List.mem_of_getElem? (i := 20) rfl)) (wU_r21 _ (List.mem_of_getElem? (i := 0) rfl)) (wU_r21 _ (List.mem_of_getElem? (i := 1) rfl)) (wU_r1 _ (List.mem_of_getElem? (i := 23) rfl)) (wU_r21 _ (List.mem_of_getElem? (i := 2) rfl))
theorem w_X6_blame_f168 : Cond.fieldLink yX6_blame.cls 168 (TX1 5).1 (TX1 5).2.1 (TX1 5).2.2.1 ∈ uX6_blame := List.mem_cons_of_mem _ (wU_r20 _ (List.mem_of_getElem? (i := 15) rfl))
theorem w_X6_blame_f165 : Cond.fieldLink yX6_blame.cls 165 (TX1 4).1 (TX1 4).2.1 (TX1 4).2.2.1 ∈ uX6_blame := List.mem_cons_of_mem _ (wU_r20 _ (List.mem_of_getElem? (i := 14) rfl))
theorem g_X6_blame_197 : GoodIn uX6_blame (va_wsS yX6_blame.cls 197 yX6_bitOf uX6_bitOf) := gU_S (wU_r28 _ (List.mem_of_getElem? (i := 17) rfl)) (wU_r24 _ (List.mem_of_getElem? (i := 3) rfl)) (wU_r1 _ (List.mem_of_getElem? (i := 2) rfl)) (wU_r24 _ (List.mem_of_getElem? (i := 4) rfl))
def f_X6_blame_106 (r40 : Int32 → Nat → Int32 → Int32 → aSt → Option (Int32 × aSt)) (l2 : Int32) (l3 : Nat) (l4 : Int32) (l5 : Int32) (S : aSt) : Option (Int32 × aSt) := (aLt (l5 + (1 : Int32)) (fun x6 => (r40 l2 (l3) l4 x6 S)))
set_option maxRecDepth 20000 in
set_option maxHeartbeats 4000000 in
theorem v_X6_blame_106 {G : aG} {K : Option Nat} (hF : aFt G K) (r40 : Int32 → Nat → Int32 → Int32 → aSt → Option (Int32 × aSt)) (hr40 : ∀ (l2 : Int32) (l3 : Nat) (ql3 : aTr G l3) (l4 : Int32) (l5 : Int32) (S : aSt), aX G yX6_blame cX6_blame 6 (some .int) uX6_blame 7 mk_i (r40 l2 l3 l4 l5 S) 40 [some (.ref (0)), none, some (.int l2), some (.ref (l3)), some (.int l4), some (.int l5)] [] S) (l2 : Int32) (l3 : Nat) (ql3 : aTr G l3) (l4 : Int32) (l5 : Int32) (S : aSt) : aX G yX6_blame cX6_blame 6 (some .int) uX6_blame 7 mk_i (f_X6_blame_106 r40 l2 l3 l4 l5 S) 106 [some (.ref (0)), none, some (.int l2), some (.ref (l3)), some (.int l4), some (.int l5)] [] S := by
  unfold f_X6_blame_106
  refine x_iincL (w := (1 : Int32)) dX6_blame_106 rfl (by decide) (Nat.le_of_ble_eq_true rfl) rfl (fun x6 => ?_)
  refine x_goto (tgt := 40) dX6_blame_109 (by decide) ?_
  exact x_le (hr40 l2 (l3) ql3 l4 x6 S) (And.intro rfl (And.intro rfl (And.intro rfl (And.intro rfl (And.intro rfl trivial)))))
def f_X6_blame_103 (r40 : Int32 → Nat → Int32 → Int32 → aSt → Option (Int32 × aSt)) (l2 : Int32) (l3 : Nat) (l5 : Int32) (s0 : Int32) (s1 : Int32) (S : aSt) : Option (Int32 × aSt) := (aLt (s1 ||| s0) (fun x7 => (f_X6_blame_106 r40 l2 (l3) x7 l5 S)))
set_option maxRecDepth 20000 in
set_option maxHeartbeats 4000000 in
theorem v_X6_blame_103 {G : aG} {K : Option Nat} (hF : aFt G K) (r40 : Int32 → Nat → Int32 → Int32 → aSt → Option (Int32 × aSt)) (hr40 : ∀ (l2 : Int32) (l3 : Nat) (ql3 : aTr G l3) (l4 : Int32) (l5 : Int32) (S : aSt), aX G yX6_blame cX6_blame 6 (some .int) uX6_blame 7 mk_i (r40 l2 l3 l4 l5 S) 40 [some (.ref (0)), none, some (.int l2), some (.ref (l3)), some (.int l4), some (.int l5)] [] S) (l2 : Int32) (l3 : Nat) (ql3 : aTr G l3) (l5 : Int32) (s0 : Int32) (s1 : Int32) (S : aSt) : aX G yX6_blame cX6_blame 6 (some .int) uX6_blame 7 mk_i (f_X6_blame_103 r40 l2 l3 l5 s0 s1 S) 103 [some (.ref (0)), none, some (.int l2), some (.ref (l3)), none, some (.int l5)] [.int s0, .int s1] S := by
  unfold f_X6_blame_103
  refine x_ior dX6_blame_103 ?_
  refine x_lti (fun x7 => ?_)
  refine x_istore dX6_blame_104 (Nat.le_of_ble_eq_true rfl) rfl ?_
  exact x_le (v_X6_blame_106 hF r40 hr40 l2 (l3) ql3 x7 l5 S) (And.intro rfl (And.intro rfl (And.intro rfl (And.intro rfl (And.intro rfl trivial)))))
def f_X6_blame_40  : Nat → Int32 → Nat → Int32 → Int32 → aSt → Option (Int32 × aSt)
  | 0, _, _, _, _, _ => none
  | n + 1, l2, l3, l4, l5, S => (if (8 : Int32) ≤ l5 then (some (l4, S)) else (aB (f_X2_weightOf (1) l5 S) (fun r3_ S3 => (if r3_ ≤ 0 then (f_X6_blame_106 (fun l2 l3 l4 l5 S => (f_X6_blame_40 n l2 l3 l4 l5 S)) l2 (l3) l4 l5 S3) else (aB (f_X1_decide (1 + 3) (l3) l5 S3) (fun r4_ S4 => (if (S4.1 (29) 5) = l2 then (aB (f_X6_bitOf (S4.1 (29) 4) S4) (fun r5_ S5 => (f_X6_blame_103 (fun l2 l3 l4 l5 S => (f_X6_blame_40 n l2 l3 l4 l5 S)) l2 (l3) l5 r5_ l4 S5))) else (f_X6_blame_103 (fun l2 l3 l4 l5 S => (f_X6_blame_40 n l2 l3 l4 l5 S)) l2 (l3) l5 (0 : Int32) l4 S4))))))))
set_option maxRecDepth 20000 in
set_option maxHeartbeats 4000000 in
theorem v_X6_blame_40 {G : aG} {K : Option Nat} (hF : aFt G K) : ∀ (n : Nat) (l2 : Int32) (l3 : Nat) (ql3 : aTr G l3) (l4 : Int32) (l5 : Int32) (S : aSt), aX G yX6_blame cX6_blame 6 (some .int) uX6_blame 7 mk_i (f_X6_blame_40 n l2 l3 l4 l5 S) 40 [some (.ref (0)), none, some (.int l2), some (.ref (l3)), some (.int l4), some (.int l5)] [] S := by
  intro n
  induction n with
  | zero => intro l2 l3 ql3 l4 l5 S; exact x_none
  | succ n ih =>
    intro l2 l3 ql3 l4 l5 S
    unfold f_X6_blame_40
    refine x_iload dX6_blame_40 rfl ?_
    refine x_bipush (8 : Int32) dX6_blame_42 (by decide) ?_
    refine x_icmp_ge (tgt := 112) dX6_blame_44 (by decide) ?_ ?_
    · refine x_iload dX6_blame_112 rfl ?_
      exact x_iret dX6_blame_114 rfl
    · refine x_aload_n dX6_blame_47 rfl rfl ?_
      refine x_getR (r := 1) (k := 0) (j := 0) dX6_blame_48 hF.1 rfl rfl (Nat.le_of_ble_eq_true rfl) (fun w h => List.mem_cons_of_mem _ (inlX6 w h)) w_X6_blame_f12 ?_
      refine x_iload dX6_blame_51 rfl ?_
      refine x_b (fun r3_ S3 e3 => ?_)
      refine x_callVi (As := [.int l5]) dX6_blame_53 (aMet_of e3 (m_X2_weightOf (1) hF.2.1 l5 S)) g_X6_blame_207 rfl hF.2.1.1 rfl dd_X2_weightOf rfl rfl (Nat.le_of_ble_eq_true rfl) (Nat.le_of_ble_eq_true rfl) (Nat.le_of_ble_eq_true rfl) ?_
      refine x_if_le (tgt := 106) dX6_blame_56 (by decide) ?_ ?_
      · exact x_le (v_X6_blame_106 hF (fun l2 l3 l4 l5 S => (f_X6_blame_40 n l2 l3 l4 l5 S)) ih l2 (l3) ql3 l4 l5 S3) (And.intro rfl (And.intro rfl (And.intro rfl (And.intro rfl (And.intro rfl trivial)))))
      · refine x_aload_n dX6_blame_59 rfl rfl ?_
        refine x_getR (r := 29) (k := 0) (j := 2) dX6_blame_60 hF.1 rfl rfl (Nat.le_of_ble_eq_true rfl) (fun w h => List.mem_cons_of_mem _ (inlX6 w h)) w_X6_blame_f28 ?_
        refine x_aload_n dX6_blame_63 rfl rfl ?_
        refine x_getR (r := 1) (k := 0) (j := 0) dX6_blame_64 hF.1 rfl rfl (Nat.le_of_ble_eq_true rfl) (fun w h => List.mem_cons_of_mem _ (inlX6 w h)) w_X6_blame_f12 ?_
        refine x_getR (r := 1 + 3) (k := 1) (j := 8) dX6_blame_67 hF.2.1.1 rfl rfl (Nat.le_of_ble_eq_true rfl) (fun w h => List.mem_cons_of_mem _ (inlX2 w h)) w_X6_blame_f79 ?_
        refine x_aload_n dX6_blame_70 rfl rfl ?_
        refine x_iload dX6_blame_71 rfl ?_
        refine x_b (fun r4_ S4 e4 => ?_)
        refine x_callVv (As := [.ref (1 + 3), .ref (l3), .int l5]) dX6_blame_73 (aMet_of e4 (m_X1_decide hF.2.2.2.1 (1 + 3) hF.2.1.2.2.2.1 (l3) ql3 l5 S3)) g_X6_blame_179 rfl hF.2.2.2.1 rfl dd_X1_decide rfl rfl (Nat.le_of_ble_eq_true rfl) (Nat.le_of_ble_eq_true rfl) (Nat.le_of_ble_eq_true rfl) ?_
        refine x_iload dX6_blame_76 rfl ?_
        refine x_aload_n dX6_blame_78 rfl rfl ?_
        refine x_getR (r := 29) (k := 0) (j := 2) dX6_blame_79 hF.1 rfl rfl (Nat.le_of_ble_eq_true rfl) (fun w h => List.mem_cons_of_mem _ (inlX6 w h)) w_X6_blame_f28 ?_
        refine x_getI (k := 29) (j := 5) dX6_blame_82 hF.2.2.2.1 rfl rfl (Nat.le_of_ble_eq_true rfl) (fun w h => List.mem_cons_of_mem _ (inlX1 w h)) w_X6_blame_f168 ?_
        refine x_iload_n dX6_blame_85 rfl rfl ?_
        refine x_icmp_ne (tgt := 102) dX6_blame_86 (by decide) ?_ ?_
        · refine x_iconst (0 : Int32) dX6_blame_102 (by decide) ?_
          exact x_le (v_X6_blame_103 hF (fun l2 l3 l4 l5 S => (f_X6_blame_40 n l2 l3 l4 l5 S)) ih l2 (l3) ql3 l5 (0 : Int32) l4 S4) (And.intro rfl (And.intro rfl (And.intro rfl (And.intro rfl trivial))))
        · refine x_aload_n dX6_blame_89 rfl rfl ?_
          refine x_getR (r := 29) (k := 0) (j := 2) dX6_blame_90 hF.1 rfl rfl (Nat.le_of_ble_eq_true rfl) (fun w h => List.mem_cons_of_mem _ (inlX6 w h)) w_X6_blame_f28 ?_
          refine x_getI (k := 29) (j := 4) dX6_blame_93 hF.2.2.2.1 rfl rfl (Nat.le_of_ble_eq_true rfl) (fun w h => List.mem_cons_of_mem _ (inlX1 w h)) w_X6_blame_f165 ?_
          refine x_b (fun r5_ S5 e5 => ?_)
          refine x_callSi (As := [.int (S4.1 (29) 4)]) dX6_blame_96 (aMet_of e5 (m_X6_bitOf (S4.1 (29) 4) S4)) g_X6_blame_197 rfl dd_X6_bitOf rfl rfl (Nat.le_of_ble_eq_true rfl) (Nat.le_of_ble_eq_true rfl) (Nat.le_of_ble_eq_true rfl) ?_
          refine x_goto (tgt := 103) dX6_blame_99 (by decide) ?_
          exact x_le (v_X6_blame_103 hF (fun l2 l3 l4 l5 S => (f_X6_blame_40 n l2 l3 l4 l5 S)) ih l2 (l3) ql3 l5 r5_ l4 S5) (And.intro rfl (And.intro rfl (And.intro rfl (And.intro rfl trivial))))
def f_X6_blame (p1 : Int32) (p2 : Int32) (S : aSt) : Option (Int32 × aSt) := (aB (f_X2_find (1) p1 S) (fun r1_ S1 => aO r1_ (some ((-1 : Int32), S1)) (fun a1_ => (aB (f_X6_outside p2 (7 : Int32) S1) (fun r2_ S2 => (if r2_ = 0 then (if (S2.1 (a1_) 8) = 0 then (some ((-3 : Int32), S2)) else (f_X6_blame_40 aF p2 (a1_) (0 : Int32) (-1 : Int32) S2)) else (some ((-1 : Int32), S2))))))))
set_option maxRecDepth 20000 in
set_option maxHeartbeats 4000000 in
theorem m_X6_blame {G : aG} {K : Option Nat} (hF : aFt G K) (p1 : Int32) (p2 : Int32) (S : aSt) : aMet G yX6_blame uX6_blame 7 mk_i (f_X6_blame p1 p2 S) [.ref (0), .int p1, .int p2] S := by
  refine x_met (cc := cX6_blame) (nL := 6) (ret := (some .int)) (L := [some (.ref (0)), some (.int p1), some (.int p2), none, none, none]) (by decide +kernel) rfl (And.intro rfl (And.intro rfl (And.intro rfl trivial))) (Nat.le_of_ble_eq_true rfl) ?_
  unfold f_X6_blame
  refine x_aload_n dX6_blame_0 rfl rfl ?_
  refine x_getR (r := 1) (k := 0) (j := 0) dX6_blame_1 hF.1 rfl rfl (Nat.le_of_ble_eq_true rfl) (fun w h => List.mem_cons_of_mem _ (inlX6 w h)) w_X6_blame_f12 ?_
  refine x_iload_n dX6_blame_4 rfl rfl ?_
  refine x_b (fun r1_ S1 e1 => ?_)
  cases r1_ with
  | none =>
    refine x_oN ?_
    refine x_callVn (As := [.int p1]) dX6_blame_5 (aMet_of e1 (m_X2_find (1) hF.2.1 p1 S)) g_X6_blame_116 rfl hF.2.1.1 rfl dd_X2_find rfl rfl (Nat.le_of_ble_eq_true rfl) (Nat.le_of_ble_eq_true rfl) (Nat.le_of_ble_eq_true rfl) ?_
    refine x_astore_nN dX6_blame_8 rfl (Nat.le_of_ble_eq_true rfl) rfl ?_
    refine x_aload_nN dX6_blame_9 rfl rfl ?_
    refine x_ifnullN (tgt := 22) dX6_blame_10 (by decide) ?_
    refine x_iconst (-1 : Int32) dX6_blame_22 (by decide) ?_
    exact x_iret dX6_blame_23 rfl
  | some a1_ =>
    have h1_ := find_tr hF.2.1 e1
    refine x_oS ?_
    refine x_callVr (As := [.int p1]) dX6_blame_5 (aMet_of e1 (m_X2_find (1) hF.2.1 p1 S)) g_X6_blame_116 rfl hF.2.1.1 rfl dd_X2_find rfl rfl (Nat.le_of_ble_eq_true rfl) (Nat.le_of_ble_eq_true rfl) (Nat.le_of_ble_eq_true rfl) ?_
    refine x_astore_n dX6_blame_8 rfl (Nat.le_of_ble_eq_true rfl) rfl ?_
    refine x_aload_n dX6_blame_9 rfl rfl ?_
    refine x_ifnull dX6_blame_10 ?_
    refine x_iload_n dX6_blame_13 rfl rfl ?_
    refine x_bipush (7 : Int32) dX6_blame_14 (by decide) ?_
    refine x_b (fun r2_ S2 e2 => ?_)
    refine x_callSi (As := [.int p2, .int (7 : Int32)]) dX6_blame_16 (aMet_of e2 (m_X6_outside p2 (7 : Int32) S1)) g_X6_blame_57 rfl dd_X6_outside rfl rfl (Nat.le_of_ble_eq_true rfl) (Nat.le_of_ble_eq_true rfl) (Nat.le_of_ble_eq_true rfl) ?_
    refine x_if_eq (tgt := 24) dX6_blame_19 (by decide) ?_ ?_
    · refine x_aload_n dX6_blame_24 rfl rfl ?_
      refine x_getI (k := a1_) (j := 8) dX6_blame_25 h1_.1 rfl rfl (Nat.le_of_ble_eq_true rfl) (fun w h => List.mem_cons_of_mem _ (inlX4 w h)) w_X6_blame_f141 ?_
      refine x_if_ne (tgt := 34) dX6_blame_28 (by decide) ?_ ?_
      · refine x_iconst (0 : Int32) dX6_blame_34 (by decide) ?_
        refine x_istore dX6_blame_35 (Nat.le_of_ble_eq_true rfl) rfl ?_
        refine x_iconst (-1 : Int32) dX6_blame_37 (by decide) ?_
        refine x_istore dX6_blame_38 (Nat.le_of_ble_eq_true rfl) rfl ?_
        exact x_le (v_X6_blame_40 hF aF p2 (a1_) h1_ (0 : Int32) (-1 : Int32) S2) (And.intro rfl (And.intro rfl (And.intro rfl (And.intro rfl (And.intro rfl trivial)))))
      · refine x_bipush (-3 : Int32) dX6_blame_31 (by decide) ?_
        exact x_iret dX6_blame_33 rfl
    · refine x_iconst (-1 : Int32) dX6_blame_22 (by decide) ?_
      exact x_iret dX6_blame_23 rfl
theorem w_X6_knock_f12 : Cond.fieldLink yX6_knock.cls 12 (TX6 0).1 (TX6 0).2.1 (TX6 0).2.2.1 ∈ uX6_knock := List.mem_cons_of_mem _ (wU_r1 _ (List.mem_of_getElem? (i := 16) rfl))
theorem g_X6_knock_116 : GoodIn uX6_knock (wsV yX6_knock.cls 116 RX2 yX2_find uX2_find) := gU_V (wU_r18 _ (List.mem_of_getElem? (i := 17) rfl)) (wU_r18 _ (List.mem_of_getElem? (i := 18) rfl)) (wU_r18 _ (List.mem_of_getElem? (i := 19) rfl)) (wU_r1 _ (List.mem_of_getElem? (i := 15) rfl)) (wU_r18 _ (List.mem_of_getElem? (i := 20) rfl))
theorem g_X6_knock_57 : GoodIn uX6_knock (va_wsS yX6_knock.cls 57 yX6_outside uX6_outside) := gU_S (wU_r5 _ (List.mem_of_getElem? (i := 21) rfl)) (wU_r5 _ (List.mem_of_getElem? (i := 22) rfl)) (wU_r1 _ (List.mem_of_getElem? (i := 2) rfl)) (wU_r5 _ (List.mem_of_getElem? (i := 23) rfl))
theorem w_X6_knock_f141 : Cond.fieldLink yX6_knock.cls 141 (TX4 8).1 (TX4 8).2.1 (TX4 8).2.2.1 ∈ uX6_knock := List.mem_cons_of_mem _ (wU_r19 _ (List.mem_of_getElem? (i := 16) rfl))
theorem w_X6_knock_f42 : Cond.fieldLink yX6_knock.cls 42 (TX6 4).1 (TX6 4).2.1 (TX6 4).2.2.1 ∈ uX6_knock := List.mem_cons_of_mem _ (wU_r2 _ (List.mem_of_getElem? (i := 8) rfl))
theorem g_X6_knock_183 : GoodIn uX6_knock (wsV yX6_knock.cls 183 RX4 yX4_copyFrom uX4_copyFrom) := gU_V (wU_r28 _ (List.mem_of_getElem? (i := 5) rfl)) (wU_r28 _ (List.mem_of_getElem? (i := 6) rfl)) (wU_r28 _ (List.mem_of_getElem? (i := 7) rfl)) (wU_r2 _ (List.mem_of_getElem? (i := 7) rfl)) (wU_r28 _ (List.mem_of_getElem? (i := 8) rfl))
theorem w_X6_knock_f126 : Cond.fieldLink yX6_knock.cls 126 (TX4 7).1 (TX4 7).2.1 (TX4 7).2.2.1 ∈ uX6_knock := List.mem_cons_of_mem _ (wU_r18 _ (List.mem_of_getElem? (i := 16) rfl))
theorem w_X6_knock_f28 : Cond.fieldLink yX6_knock.cls 28 (TX6 2).1 (TX6 2).2.1 (TX6 2).2.2.1 ∈ uX6_knock := List.mem_cons_of_mem _ (wU_r2 _ (List.mem_of_getElem? (i := 0) rfl))
theorem w_X6_knock_f79 : Cond.fieldLink yX6_knock.cls 79 (TX2 8).1 (TX2 8).2.1 (TX2 8).2.2.1 ∈ uX6_knock := List.mem_cons_of_mem _ (wU_r6 _ (List.mem_of_getElem? (i := 13) rfl))
theorem g_X6_knock_179 : GoodIn uX6_knock (wsV yX6_knock.cls 179 RX1 yX1_decide uX1_decide) := gU_V (wU_r27 _ (List.mem_of_getElem? (i := 20) rfl)) (wU_r21 _ (List.mem_of_getElem? (i := 0) rfl)) (wU_r21 _ (List.mem_of_getElem? (i := 1) rfl)) (wU_r1 _ (List.mem_of_getElem? (i := 23) rfl)) (wU_r21 _ (List.mem_of_getElem? (i := 2) rfl))
theorem w_X6_knock_f165 : Cond.fieldLink yX6_knock.cls 165 (TX1 4).1 (TX1 4).2.1 (TX1 4).2.2.1 ∈ uX6_knock := List.mem_cons_of_mem _ (wU_r20 _ (List.mem_of_getElem? (i := 14) rfl))
theorem g_X6_knock_197 : GoodIn uX6_knock (va_wsS yX6_knock.cls 197 yX6_bitOf uX6_bitOf) := gU_S (wU_r28 _ (List.mem_of_getElem? (i := 17) rfl)) (wU_r24 _ (List.mem_of_getElem? (i := 3) rfl)) (wU_r1 _ (List.mem_of_getElem? (i := 2) rfl)) (wU_r24 _ (List.mem_of_getElem? (i := 4) rfl))
def f_X6_knock_104 (r47 : Int32 → Int32 → Int32 → aSt → Option (Int32 × aSt)) (l2 : Int32) (l5 : Int32) (s0 : Int32) (s1 : Int32) (S : aSt) : Option (Int32 × aSt) := (aLt (s1 ||| s0) (fun x7 => (aLt (l5 + (1 : Int32)) (fun x8 => (r47 l2 x7 x8 S)))))
set_option maxRecDepth 20000 in
set_option maxHeartbeats 4000000 in
theorem v_X6_knock_104 {G : aG} {K : Option Nat} (hF : aFt G K) (r47 : Int32 → Int32 → Int32 → aSt → Option (Int32 × aSt)) (hr47 : ∀ (l2 : Int32) (l4 : Int32) (l5 : Int32) (S : aSt), aX G yX6_knock cX6_knock 6 (some .int) uX6_knock 7 mk_i (r47 l2 l4 l5 S) 47 [some (.ref (0)), none, some (.int l2), none, some (.int l4), some (.int l5)] [] S) (l2 : Int32) (l5 : Int32) (s0 : Int32) (s1 : Int32) (S : aSt) : aX G yX6_knock cX6_knock 6 (some .int) uX6_knock 7 mk_i (f_X6_knock_104 r47 l2 l5 s0 s1 S) 104 [some (.ref (0)), none, some (.int l2), none, none, some (.int l5)] [.int s0, .int s1] S := by
  unfold f_X6_knock_104
  refine x_ior dX6_knock_104 ?_
  refine x_lti (fun x7 => ?_)
  refine x_istore dX6_knock_105 (Nat.le_of_ble_eq_true rfl) rfl ?_
  refine x_iincL (w := (1 : Int32)) dX6_knock_107 rfl (by decide) (Nat.le_of_ble_eq_true rfl) rfl (fun x8 => ?_)
  refine x_goto (tgt := 47) dX6_knock_110 (by decide) ?_
  exact x_le (hr47 l2 x7 x8 S) (And.intro rfl (And.intro rfl (And.intro rfl (And.intro rfl trivial))))
def f_X6_knock_47  : Nat → Int32 → Int32 → Int32 → aSt → Option (Int32 × aSt)
  | 0, _, _, _, _ => none
  | n + 1, l2, l4, l5, S => (if (9 : Int32) < l5 then (some (l4, S)) else (aLt (aUi S (32) 7 l5) (fun S4 => (aB (f_X1_decide (1 + 3) (32) (-1 : Int32) S4) (fun r5_ S5 => (if (S5.1 (29) 4) = l2 then (aB (f_X6_bitOf l5 S5) (fun r6_ S6 => (f_X6_knock_104 (fun l2 l4 l5 S => (f_X6_knock_47 n l2 l4 l5 S)) l2 l5 r6_ l4 S6))) else (f_X6_knock_104 (fun l2 l4 l5 S => (f_X6_knock_47 n l2 l4 l5 S)) l2 l5 (0 : Int32) l4 S5)))))))
set_option maxRecDepth 20000 in
set_option maxHeartbeats 4000000 in
theorem v_X6_knock_47 {G : aG} {K : Option Nat} (hF : aFt G K) : ∀ (n : Nat) (l2 : Int32) (l4 : Int32) (l5 : Int32) (S : aSt), aX G yX6_knock cX6_knock 6 (some .int) uX6_knock 7 mk_i (f_X6_knock_47 n l2 l4 l5 S) 47 [some (.ref (0)), none, some (.int l2), none, some (.int l4), some (.int l5)] [] S := by
  intro n
  induction n with
  | zero => intro l2 l4 l5 S; exact x_none
  | succ n ih =>
    intro l2 l4 l5 S
    unfold f_X6_knock_47
    refine x_iload dX6_knock_47 rfl ?_
    refine x_bipush (9 : Int32) dX6_knock_49 (by decide) ?_
    refine x_icmp_gt (tgt := 113) dX6_knock_51 (by decide) ?_ ?_
    · refine x_iload dX6_knock_113 rfl ?_
      exact x_iret dX6_knock_115 rfl
    · refine x_aload_n dX6_knock_54 rfl rfl ?_
      refine x_getR (r := 32) (k := 0) (j := 4) dX6_knock_55 hF.1 rfl rfl (Nat.le_of_ble_eq_true rfl) (fun w h => List.mem_cons_of_mem _ (inlX6 w h)) w_X6_knock_f42 ?_
      refine x_iload dX6_knock_58 rfl ?_
      refine x_putI (k := 32) (j := 7) dX6_knock_60 hF.2.2.2.2.2.1.1 rfl rfl (Nat.le_of_ble_eq_true rfl) (fun w h => List.mem_cons_of_mem _ (inlX4 w h)) w_X6_knock_f126 tyX4 tyX4_ok nmX4 rfl (by decide +kernel) ?_
      refine x_ltS (fun S4 => ?_)
      refine x_aload_n dX6_knock_63 rfl rfl ?_
      refine x_getR (r := 29) (k := 0) (j := 2) dX6_knock_64 hF.1 rfl rfl (Nat.le_of_ble_eq_true rfl) (fun w h => List.mem_cons_of_mem _ (inlX6 w h)) w_X6_knock_f28 ?_
      refine x_aload_n dX6_knock_67 rfl rfl ?_
      refine x_getR (r := 1) (k := 0) (j := 0) dX6_knock_68 hF.1 rfl rfl (Nat.le_of_ble_eq_true rfl) (fun w h => List.mem_cons_of_mem _ (inlX6 w h)) w_X6_knock_f12 ?_
      refine x_getR (r := 1 + 3) (k := 1) (j := 8) dX6_knock_71 hF.2.1.1 rfl rfl (Nat.le_of_ble_eq_true rfl) (fun w h => List.mem_cons_of_mem _ (inlX2 w h)) w_X6_knock_f79 ?_
      refine x_aload_n dX6_knock_74 rfl rfl ?_
      refine x_getR (r := 32) (k := 0) (j := 4) dX6_knock_75 hF.1 rfl rfl (Nat.le_of_ble_eq_true rfl) (fun w h => List.mem_cons_of_mem _ (inlX6 w h)) w_X6_knock_f42 ?_
      refine x_iconst (-1 : Int32) dX6_knock_78 (by decide) ?_
      refine x_b (fun r5_ S5 e5 => ?_)
      refine x_callVv (As := [.ref (1 + 3), .ref (32), .int (-1 : Int32)]) dX6_knock_79 (aMet_of e5 (m_X1_decide hF.2.2.2.1 (1 + 3) hF.2.1.2.2.2.1 (32) hF.2.2.2.2.2.1 (-1 : Int32) S4)) g_X6_knock_179 rfl hF.2.2.2.1 rfl dd_X1_decide rfl rfl (Nat.le_of_ble_eq_true rfl) (Nat.le_of_ble_eq_true rfl) (Nat.le_of_ble_eq_true rfl) ?_
      refine x_iload dX6_knock_82 rfl ?_
      refine x_aload_n dX6_knock_84 rfl rfl ?_
      refine x_getR (r := 29) (k := 0) (j := 2) dX6_knock_85 hF.1 rfl rfl (Nat.le_of_ble_eq_true rfl) (fun w h => List.mem_cons_of_mem _ (inlX6 w h)) w_X6_knock_f28 ?_
      refine x_getI (k := 29) (j := 4) dX6_knock_88 hF.2.2.2.1 rfl rfl (Nat.le_of_ble_eq_true rfl) (fun w h => List.mem_cons_of_mem _ (inlX1 w h)) w_X6_knock_f165 ?_
      refine x_iload_n dX6_knock_91 rfl rfl ?_
      refine x_icmp_ne (tgt := 103) dX6_knock_92 (by decide) ?_ ?_
      · refine x_iconst (0 : Int32) dX6_knock_103 (by decide) ?_
        exact x_le (v_X6_knock_104 hF (fun l2 l4 l5 S => (f_X6_knock_47 n l2 l4 l5 S)) ih l2 l5 (0 : Int32) l4 S5) (And.intro rfl (And.intro rfl (And.intro rfl trivial)))
      · refine x_iload dX6_knock_95 rfl ?_
        refine x_b (fun r6_ S6 e6 => ?_)
        refine x_callSi (As := [.int l5]) dX6_knock_97 (aMet_of e6 (m_X6_bitOf l5 S5)) g_X6_knock_197 rfl dd_X6_bitOf rfl rfl (Nat.le_of_ble_eq_true rfl) (Nat.le_of_ble_eq_true rfl) (Nat.le_of_ble_eq_true rfl) ?_
        refine x_goto (tgt := 104) dX6_knock_100 (by decide) ?_
        exact x_le (v_X6_knock_104 hF (fun l2 l4 l5 S => (f_X6_knock_47 n l2 l4 l5 S)) ih l2 l5 r6_ l4 S6) (And.intro rfl (And.intro rfl (And.intro rfl trivial)))
def f_X6_knock (p1 : Int32) (p2 : Int32) (S : aSt) : Option (Int32 × aSt) := (aB (f_X2_find (1) p1 S) (fun r1_ S1 => aO r1_ (some ((-1 : Int32), S1)) (fun a1_ => (aB (f_X6_outside p2 (4 : Int32) S1) (fun r2_ S2 => (if r2_ = 0 then (if (S2.1 (a1_) 8) = 0 then (some ((-3 : Int32), S2)) else (aB (f_X4_copyFrom (32) (a1_) S2) (fun r3_ S3 => (f_X6_knock_47 aF p2 (0 : Int32) (0 : Int32) S3)))) else (some ((-1 : Int32), S2))))))))
set_option maxRecDepth 20000 in
set_option maxHeartbeats 4000000 in
theorem m_X6_knock {G : aG} {K : Option Nat} (hF : aFt G K) (p1 : Int32) (p2 : Int32) (S : aSt) : aMet G yX6_knock uX6_knock 7 mk_i (f_X6_knock p1 p2 S) [.ref (0), .int p1, .int p2] S := by
  refine x_met (cc := cX6_knock) (nL := 6) (ret := (some .int)) (L := [some (.ref (0)), some (.int p1), some (.int p2), none, none, none]) (by decide +kernel) rfl (And.intro rfl (And.intro rfl (And.intro rfl trivial))) (Nat.le_of_ble_eq_true rfl) ?_
  unfold f_X6_knock
  refine x_aload_n dX6_knock_0 rfl rfl ?_
  refine x_getR (r := 1) (k := 0) (j := 0) dX6_knock_1 hF.1 rfl rfl (Nat.le_of_ble_eq_true rfl) (fun w h => List.mem_cons_of_mem _ (inlX6 w h)) w_X6_knock_f12 ?_
  refine x_iload_n dX6_knock_4 rfl rfl ?_
  refine x_b (fun r1_ S1 e1 => ?_)
  cases r1_ with
  | none =>
    refine x_oN ?_
    refine x_callVn (As := [.int p1]) dX6_knock_5 (aMet_of e1 (m_X2_find (1) hF.2.1 p1 S)) g_X6_knock_116 rfl hF.2.1.1 rfl dd_X2_find rfl rfl (Nat.le_of_ble_eq_true rfl) (Nat.le_of_ble_eq_true rfl) (Nat.le_of_ble_eq_true rfl) ?_
    refine x_astore_nN dX6_knock_8 rfl (Nat.le_of_ble_eq_true rfl) rfl ?_
    refine x_aload_nN dX6_knock_9 rfl rfl ?_
    refine x_ifnullN (tgt := 21) dX6_knock_10 (by decide) ?_
    refine x_iconst (-1 : Int32) dX6_knock_21 (by decide) ?_
    exact x_iret dX6_knock_22 rfl
  | some a1_ =>
    have h1_ := find_tr hF.2.1 e1
    refine x_oS ?_
    refine x_callVr (As := [.int p1]) dX6_knock_5 (aMet_of e1 (m_X2_find (1) hF.2.1 p1 S)) g_X6_knock_116 rfl hF.2.1.1 rfl dd_X2_find rfl rfl (Nat.le_of_ble_eq_true rfl) (Nat.le_of_ble_eq_true rfl) (Nat.le_of_ble_eq_true rfl) ?_
    refine x_astore_n dX6_knock_8 rfl (Nat.le_of_ble_eq_true rfl) rfl ?_
    refine x_aload_n dX6_knock_9 rfl rfl ?_
    refine x_ifnull dX6_knock_10 ?_
    refine x_iload_n dX6_knock_13 rfl rfl ?_
    refine x_iconst (4 : Int32) dX6_knock_14 (by decide) ?_
    refine x_b (fun r2_ S2 e2 => ?_)
    refine x_callSi (As := [.int p2, .int (4 : Int32)]) dX6_knock_15 (aMet_of e2 (m_X6_outside p2 (4 : Int32) S1)) g_X6_knock_57 rfl dd_X6_outside rfl rfl (Nat.le_of_ble_eq_true rfl) (Nat.le_of_ble_eq_true rfl) (Nat.le_of_ble_eq_true rfl) ?_
    refine x_if_eq (tgt := 23) dX6_knock_18 (by decide) ?_ ?_
    · refine x_aload_n dX6_knock_23 rfl rfl ?_
      refine x_getI (k := a1_) (j := 8) dX6_knock_24 h1_.1 rfl rfl (Nat.le_of_ble_eq_true rfl) (fun w h => List.mem_cons_of_mem _ (inlX4 w h)) w_X6_knock_f141 ?_
      refine x_if_ne (tgt := 33) dX6_knock_27 (by decide) ?_ ?_
      · refine x_aload_n dX6_knock_33 rfl rfl ?_
        refine x_getR (r := 32) (k := 0) (j := 4) dX6_knock_34 hF.1 rfl rfl (Nat.le_of_ble_eq_true rfl) (fun w h => List.mem_cons_of_mem _ (inlX6 w h)) w_X6_knock_f42 ?_
        refine x_aload_n dX6_knock_37 rfl rfl ?_
        refine x_b (fun r3_ S3 e3 => ?_)
        refine x_callVv (As := [.ref (a1_)]) dX6_knock_38 (aMet_of e3 (m_X4_copyFrom (32) hF.2.2.2.2.2.1 (a1_) h1_ S2)) g_X6_knock_183 rfl hF.2.2.2.2.2.1.1 rfl dd_X4_copyFrom rfl rfl (Nat.le_of_ble_eq_true rfl) (Nat.le_of_ble_eq_true rfl) (Nat.le_of_ble_eq_true rfl) ?_
        refine x_iconst (0 : Int32) dX6_knock_41 (by decide) ?_
        refine x_istore dX6_knock_42 (Nat.le_of_ble_eq_true rfl) rfl ?_
        refine x_iconst (0 : Int32) dX6_knock_44 (by decide) ?_
        refine x_istore dX6_knock_45 (Nat.le_of_ble_eq_true rfl) rfl ?_
        exact x_le (v_X6_knock_47 hF aF p2 (0 : Int32) (0 : Int32) S3) (And.intro rfl (And.intro rfl (And.intro rfl (And.intro rfl trivial))))
      · refine x_bipush (-3 : Int32) dX6_knock_30 (by decide) ?_
        exact x_iret dX6_knock_32 rfl
    · refine x_iconst (-1 : Int32) dX6_knock_21 (by decide) ?_
      exact x_iret dX6_knock_22 rfl
theorem w_X6_limbs_f12 : Cond.fieldLink yX6_limbs.cls 12 (TX6 0).1 (TX6 0).2.1 (TX6 0).2.2.1 ∈ uX6_limbs := List.mem_cons_of_mem _ (wU_r1 _ (List.mem_of_getElem? (i := 16) rfl))
theorem g_X6_limbs_116 : GoodIn uX6_limbs (wsV yX6_limbs.cls 116 RX2 yX2_find uX2_find) := gU_V (wU_r18 _ (List.mem_of_getElem? (i := 17) rfl)) (wU_r18 _ (List.mem_of_getElem? (i := 18) rfl)) (wU_r18 _ (List.mem_of_getElem? (i := 19) rfl)) (wU_r1 _ (List.mem_of_getElem? (i := 15) rfl)) (wU_r18 _ (List.mem_of_getElem? (i := 20) rfl))
theorem w_X6_limbs_f141 : Cond.fieldLink yX6_limbs.cls 141 (TX4 8).1 (TX4 8).2.1 (TX4 8).2.2.1 ∈ uX6_limbs := List.mem_cons_of_mem _ (wU_r19 _ (List.mem_of_getElem? (i := 16) rfl))
theorem w_X6_limbs_f42 : Cond.fieldLink yX6_limbs.cls 42 (TX6 4).1 (TX6 4).2.1 (TX6 4).2.2.1 ∈ uX6_limbs := List.mem_cons_of_mem _ (wU_r2 _ (List.mem_of_getElem? (i := 8) rfl))
theorem g_X6_limbs_183 : GoodIn uX6_limbs (wsV yX6_limbs.cls 183 RX4 yX4_copyFrom uX4_copyFrom) := gU_V (wU_r28 _ (List.mem_of_getElem? (i := 5) rfl)) (wU_r28 _ (List.mem_of_getElem? (i := 6) rfl)) (wU_r28 _ (List.mem_of_getElem? (i := 7) rfl)) (wU_r2 _ (List.mem_of_getElem? (i := 7) rfl)) (wU_r28 _ (List.mem_of_getElem? (i := 8) rfl))
theorem w_X6_limbs_f120 : Cond.fieldLink yX6_limbs.cls 120 (TX4 5).1 (TX4 5).2.1 (TX4 5).2.2.1 ∈ uX6_limbs := List.mem_cons_of_mem _ (wU_r18 _ (List.mem_of_getElem? (i := 14) rfl))
theorem w_X6_limbs_f28 : Cond.fieldLink yX6_limbs.cls 28 (TX6 2).1 (TX6 2).2.1 (TX6 2).2.2.1 ∈ uX6_limbs := List.mem_cons_of_mem _ (wU_r2 _ (List.mem_of_getElem? (i := 0) rfl))
theorem w_X6_limbs_f79 : Cond.fieldLink yX6_limbs.cls 79 (TX2 8).1 (TX2 8).2.1 (TX2 8).2.2.1 ∈ uX6_limbs := List.mem_cons_of_mem _ (wU_r6 _ (List.mem_of_getElem? (i := 13) rfl))
theorem g_X6_limbs_179 : GoodIn uX6_limbs (wsV yX6_limbs.cls 179 RX1 yX1_decide uX1_decide) := gU_V (wU_r27 _ (List.mem_of_getElem? (i := 20) rfl)) (wU_r21 _ (List.mem_of_getElem? (i := 0) rfl)) (wU_r21 _ (List.mem_of_getElem? (i := 1) rfl)) (wU_r1 _ (List.mem_of_getElem? (i := 23) rfl)) (wU_r21 _ (List.mem_of_getElem? (i := 2) rfl))
theorem w_X6_limbs_f165 : Cond.fieldLink yX6_limbs.cls 165 (TX1 4).1 (TX1 4).2.1 (TX1 4).2.2.1 ∈ uX6_limbs := List.mem_cons_of_mem _ (wU_r20 _ (List.mem_of_getElem? (i := 14) rfl))
def f_X6_limbs_35  : Nat → Nat → Int32 → aSt → Option (Int32 × aSt)
  | 0, _, _, _ => none
  | n + 1, l2, l3, S => (if (S.1 (l2) 5) < l3 then (some ((-5 : Int32), S)) else (aLt (aUi S (32) 5 ((S.1 (l2) 5) - l3)) (fun S3 => (aB (f_X1_decide (1 + 3) (32) (-1 : Int32) S3) (fun r4_ S4 => (if (S4.1 (29) 4) = 0 then (some (l3, S4)) else (aLt (l3 + (1 : Int32)) (fun x5 => (f_X6_limbs_35 n (l2) x5 S4)))))))))
set_option maxRecDepth 20000 in
set_option maxHeartbeats 4000000 in
theorem v_X6_limbs_35 {G : aG} {K : Option Nat} (hF : aFt G K) : ∀ (n : Nat) (l2 : Nat) (ql2 : aTr G l2) (l3 : Int32) (S : aSt), aX G yX6_limbs cX6_limbs 4 (some .int) uX6_limbs 7 mk_i (f_X6_limbs_35 n l2 l3 S) 35 [some (.ref (0)), none, some (.ref (l2)), some (.int l3)] [] S := by
  intro n
  induction n with
  | zero => intro l2 ql2 l3 S; exact x_none
  | succ n ih =>
    intro l2 ql2 l3 S
    unfold f_X6_limbs_35
    refine x_iload_n dX6_limbs_35 rfl rfl ?_
    refine x_aload_n dX6_limbs_36 rfl rfl ?_
    refine x_getI (k := l2) (j := 5) dX6_limbs_37 ql2.1 rfl rfl (Nat.le_of_ble_eq_true rfl) (fun w h => List.mem_cons_of_mem _ (inlX4 w h)) w_X6_limbs_f120 ?_
    refine x_icmp_gt (tgt := 93) dX6_limbs_40 (by decide) ?_ ?_
    · refine x_bipush (-5 : Int32) dX6_limbs_93 (by decide) ?_
      exact x_iret dX6_limbs_95 rfl
    · refine x_aload_n dX6_limbs_43 rfl rfl ?_
      refine x_getR (r := 32) (k := 0) (j := 4) dX6_limbs_44 hF.1 rfl rfl (Nat.le_of_ble_eq_true rfl) (fun w h => List.mem_cons_of_mem _ (inlX6 w h)) w_X6_limbs_f42 ?_
      refine x_aload_n dX6_limbs_47 rfl rfl ?_
      refine x_getI (k := l2) (j := 5) dX6_limbs_48 ql2.1 rfl rfl (Nat.le_of_ble_eq_true rfl) (fun w h => List.mem_cons_of_mem _ (inlX4 w h)) w_X6_limbs_f120 ?_
      refine x_iload_n dX6_limbs_51 rfl rfl ?_
      refine x_isub dX6_limbs_52 ?_
      refine x_putI (k := 32) (j := 5) dX6_limbs_53 hF.2.2.2.2.2.1.1 rfl rfl (Nat.le_of_ble_eq_true rfl) (fun w h => List.mem_cons_of_mem _ (inlX4 w h)) w_X6_limbs_f120 tyX4 tyX4_ok nmX4 rfl (by decide +kernel) ?_
      refine x_ltS (fun S3 => ?_)
      refine x_aload_n dX6_limbs_56 rfl rfl ?_
      refine x_getR (r := 29) (k := 0) (j := 2) dX6_limbs_57 hF.1 rfl rfl (Nat.le_of_ble_eq_true rfl) (fun w h => List.mem_cons_of_mem _ (inlX6 w h)) w_X6_limbs_f28 ?_
      refine x_aload_n dX6_limbs_60 rfl rfl ?_
      refine x_getR (r := 1) (k := 0) (j := 0) dX6_limbs_61 hF.1 rfl rfl (Nat.le_of_ble_eq_true rfl) (fun w h => List.mem_cons_of_mem _ (inlX6 w h)) w_X6_limbs_f12 ?_
      refine x_getR (r := 1 + 3) (k := 1) (j := 8) dX6_limbs_64 hF.2.1.1 rfl rfl (Nat.le_of_ble_eq_true rfl) (fun w h => List.mem_cons_of_mem _ (inlX2 w h)) w_X6_limbs_f79 ?_
      refine x_aload_n dX6_limbs_67 rfl rfl ?_
      refine x_getR (r := 32) (k := 0) (j := 4) dX6_limbs_68 hF.1 rfl rfl (Nat.le_of_ble_eq_true rfl) (fun w h => List.mem_cons_of_mem _ (inlX6 w h)) w_X6_limbs_f42 ?_
      refine x_iconst (-1 : Int32) dX6_limbs_71 (by decide) ?_
      refine x_b (fun r4_ S4 e4 => ?_)
      refine x_callVv (As := [.ref (1 + 3), .ref (32), .int (-1 : Int32)]) dX6_limbs_72 (aMet_of e4 (m_X1_decide hF.2.2.2.1 (1 + 3) hF.2.1.2.2.2.1 (32) hF.2.2.2.2.2.1 (-1 : Int32) S3)) g_X6_limbs_179 rfl hF.2.2.2.1 rfl dd_X1_decide rfl rfl (Nat.le_of_ble_eq_true rfl) (Nat.le_of_ble_eq_true rfl) (Nat.le_of_ble_eq_true rfl) ?_
      refine x_aload_n dX6_limbs_75 rfl rfl ?_
      refine x_getR (r := 29) (k := 0) (j := 2) dX6_limbs_76 hF.1 rfl rfl (Nat.le_of_ble_eq_true rfl) (fun w h => List.mem_cons_of_mem _ (inlX6 w h)) w_X6_limbs_f28 ?_
      refine x_getI (k := 29) (j := 4) dX6_limbs_79 hF.2.2.2.1 rfl rfl (Nat.le_of_ble_eq_true rfl) (fun w h => List.mem_cons_of_mem _ (inlX1 w h)) w_X6_limbs_f165 ?_
      refine x_if_ne (tgt := 87) dX6_limbs_82 (by decide) ?_ ?_
      · refine x_iincL (w := (1 : Int32)) dX6_limbs_87 rfl (by decide) (Nat.le_of_ble_eq_true rfl) rfl (fun x5 => ?_)
        refine x_goto (tgt := 35) dX6_limbs_90 (by decide) ?_
        exact x_le (ih (l2) ql2 x5 S4) (And.intro rfl (And.intro rfl (And.intro rfl trivial)))
      · refine x_iload_n dX6_limbs_85 rfl rfl ?_
        exact x_iret dX6_limbs_86 rfl
def f_X6_limbs (p1 : Int32) (S : aSt) : Option (Int32 × aSt) := (aB (f_X2_find (1) p1 S) (fun r1_ S1 => aO r1_ (some ((-1 : Int32), S1)) (fun a1_ => (if (S1.1 (a1_) 8) = 0 then (some ((-3 : Int32), S1)) else (aB (f_X4_copyFrom (32) (a1_) S1) (fun r2_ S2 => (f_X6_limbs_35 aF (a1_) (0 : Int32) S2)))))))
set_option maxRecDepth 20000 in
set_option maxHeartbeats 4000000 in
theorem m_X6_limbs {G : aG} {K : Option Nat} (hF : aFt G K) (p1 : Int32) (S : aSt) : aMet G yX6_limbs uX6_limbs 7 mk_i (f_X6_limbs p1 S) [.ref (0), .int p1] S := by
  refine x_met (cc := cX6_limbs) (nL := 4) (ret := (some .int)) (L := [some (.ref (0)), some (.int p1), none, none]) (by decide +kernel) rfl (And.intro rfl (And.intro rfl trivial)) (Nat.le_of_ble_eq_true rfl) ?_
  unfold f_X6_limbs
  refine x_aload_n dX6_limbs_0 rfl rfl ?_
  refine x_getR (r := 1) (k := 0) (j := 0) dX6_limbs_1 hF.1 rfl rfl (Nat.le_of_ble_eq_true rfl) (fun w h => List.mem_cons_of_mem _ (inlX6 w h)) w_X6_limbs_f12 ?_
  refine x_iload_n dX6_limbs_4 rfl rfl ?_
  refine x_b (fun r1_ S1 e1 => ?_)
  cases r1_ with
  | none =>
    refine x_oN ?_
    refine x_callVn (As := [.int p1]) dX6_limbs_5 (aMet_of e1 (m_X2_find (1) hF.2.1 p1 S)) g_X6_limbs_116 rfl hF.2.1.1 rfl dd_X2_find rfl rfl (Nat.le_of_ble_eq_true rfl) (Nat.le_of_ble_eq_true rfl) (Nat.le_of_ble_eq_true rfl) ?_
    refine x_astore_nN dX6_limbs_8 rfl (Nat.le_of_ble_eq_true rfl) rfl ?_
    refine x_aload_nN dX6_limbs_9 rfl rfl ?_
    refine x_ifnonnullN dX6_limbs_10 ?_
    refine x_iconst (-1 : Int32) dX6_limbs_13 (by decide) ?_
    exact x_iret dX6_limbs_14 rfl
  | some a1_ =>
    have h1_ := find_tr hF.2.1 e1
    refine x_oS ?_
    refine x_callVr (As := [.int p1]) dX6_limbs_5 (aMet_of e1 (m_X2_find (1) hF.2.1 p1 S)) g_X6_limbs_116 rfl hF.2.1.1 rfl dd_X2_find rfl rfl (Nat.le_of_ble_eq_true rfl) (Nat.le_of_ble_eq_true rfl) (Nat.le_of_ble_eq_true rfl) ?_
    refine x_astore_n dX6_limbs_8 rfl (Nat.le_of_ble_eq_true rfl) rfl ?_
    refine x_aload_n dX6_limbs_9 rfl rfl ?_
    refine x_ifnonnull (tgt := 15) dX6_limbs_10 (by decide) ?_
    refine x_aload_n dX6_limbs_15 rfl rfl ?_
    refine x_getI (k := a1_) (j := 8) dX6_limbs_16 h1_.1 rfl rfl (Nat.le_of_ble_eq_true rfl) (fun w h => List.mem_cons_of_mem _ (inlX4 w h)) w_X6_limbs_f141 ?_
    refine x_if_ne (tgt := 25) dX6_limbs_19 (by decide) ?_ ?_
    · refine x_aload_n dX6_limbs_25 rfl rfl ?_
      refine x_getR (r := 32) (k := 0) (j := 4) dX6_limbs_26 hF.1 rfl rfl (Nat.le_of_ble_eq_true rfl) (fun w h => List.mem_cons_of_mem _ (inlX6 w h)) w_X6_limbs_f42 ?_
      refine x_aload_n dX6_limbs_29 rfl rfl ?_
      refine x_b (fun r2_ S2 e2 => ?_)
      refine x_callVv (As := [.ref (a1_)]) dX6_limbs_30 (aMet_of e2 (m_X4_copyFrom (32) hF.2.2.2.2.2.1 (a1_) h1_ S1)) g_X6_limbs_183 rfl hF.2.2.2.2.2.1.1 rfl dd_X4_copyFrom rfl rfl (Nat.le_of_ble_eq_true rfl) (Nat.le_of_ble_eq_true rfl) (Nat.le_of_ble_eq_true rfl) ?_
      refine x_iconst (0 : Int32) dX6_limbs_33 (by decide) ?_
      refine x_istore_n dX6_limbs_34 rfl (Nat.le_of_ble_eq_true rfl) rfl ?_
      exact x_le (v_X6_limbs_35 hF aF (a1_) h1_ (0 : Int32) S2) (And.intro rfl (And.intro rfl (And.intro rfl trivial)))
    · refine x_bipush (-3 : Int32) dX6_limbs_22 (by decide) ?_
      exact x_iret dX6_limbs_24 rfl
theorem g_X6_judged_57 : GoodIn uX6_judged (va_wsS yX6_judged.cls 57 yX6_outside uX6_outside) := gU_S (wU_r5 _ (List.mem_of_getElem? (i := 21) rfl)) (wU_r5 _ (List.mem_of_getElem? (i := 22) rfl)) (wU_r1 _ (List.mem_of_getElem? (i := 2) rfl)) (wU_r5 _ (List.mem_of_getElem? (i := 23) rfl))
theorem w_X6_judged_f12 : Cond.fieldLink yX6_judged.cls 12 (TX6 0).1 (TX6 0).2.1 (TX6 0).2.2.1 ∈ uX6_judged := List.mem_cons_of_mem _ (wU_r1 _ (List.mem_of_getElem? (i := 16) rfl))
theorem w_X6_judged_f105 : Cond.fieldLink yX6_judged.cls 105 (TX2 4).1 (TX2 4).2.1 (TX2 4).2.2.1 ∈ uX6_judged := List.mem_cons_of_mem _ (wU_r17 _ (List.mem_of_getElem? (i := 9) rfl))
theorem w_X6_judged_f237 : Cond.fieldLink yX6_judged.cls 237 (TX2 5).1 (TX2 5).2.1 (TX2 5).2.2.1 ∈ uX6_judged := List.mem_cons_of_mem _ (wU_r34 _ (List.mem_of_getElem? (i := 23) rfl))
theorem w_X6_judged_m243 : Cond.methodLink yX6_judged.cls 243 Lib.Math.min.name ∈ uX6_judged := List.mem_cons_of_mem _ (wU_r23 _ (List.mem_of_getElem? (i := 1) rfl))
theorem w_X6_judged_ms_min : Cond.static Lib.Math.min.name ∈ uX6_judged := List.mem_cons_of_mem _ (wU_r11 _ (List.mem_of_getElem? (i := 2) rfl))
theorem w_X6_judged_mi : Cond.initialized "java/lang/Math" ∈ uX6_judged := List.mem_cons_of_mem _ (wU_r10 _ (List.mem_of_getElem? (i := 23) rfl))
theorem w_X6_judged_mc_min : Cond.code Lib.Math.min.name Lib.Math.min.code 2 (some .int) ∈ uX6_judged := List.mem_cons_of_mem _ (wU_r11 _ (List.mem_of_getElem? (i := 3) rfl))
theorem w_X6_judged_f108 : Cond.fieldLink yX6_judged.cls 108 (TX2 9).1 (TX2 9).2.1 (TX2 9).2.2.1 ∈ uX6_judged := List.mem_cons_of_mem _ (wU_r17 _ (List.mem_of_getElem? (i := 10) rfl))
theorem w_X6_judged_f141 : Cond.fieldLink yX6_judged.cls 141 (TX4 8).1 (TX4 8).2.1 (TX4 8).2.2.1 ∈ uX6_judged := List.mem_cons_of_mem _ (wU_r19 _ (List.mem_of_getElem? (i := 16) rfl))
theorem w_X6_judged_f28 : Cond.fieldLink yX6_judged.cls 28 (TX6 2).1 (TX6 2).2.1 (TX6 2).2.2.1 ∈ uX6_judged := List.mem_cons_of_mem _ (wU_r2 _ (List.mem_of_getElem? (i := 0) rfl))
theorem w_X6_judged_f79 : Cond.fieldLink yX6_judged.cls 79 (TX2 8).1 (TX2 8).2.1 (TX2 8).2.2.1 ∈ uX6_judged := List.mem_cons_of_mem _ (wU_r6 _ (List.mem_of_getElem? (i := 13) rfl))
theorem g_X6_judged_179 : GoodIn uX6_judged (wsV yX6_judged.cls 179 RX1 yX1_decide uX1_decide) := gU_V (wU_r27 _ (List.mem_of_getElem? (i := 20) rfl)) (wU_r21 _ (List.mem_of_getElem? (i := 0) rfl)) (wU_r21 _ (List.mem_of_getElem? (i := 1) rfl)) (wU_r1 _ (List.mem_of_getElem? (i := 23) rfl)) (wU_r21 _ (List.mem_of_getElem? (i := 2) rfl))
theorem w_X6_judged_f168 : Cond.fieldLink yX6_judged.cls 168 (TX1 5).1 (TX1 5).2.1 (TX1 5).2.2.1 ∈ uX6_judged := List.mem_cons_of_mem _ (wU_r20 _ (List.mem_of_getElem? (i := 15) rfl))
theorem w_X6_judged_f240 : Cond.fieldLink yX6_judged.cls 240 (TX2 7).1 (TX2 7).2.1 (TX2 7).2.2.1 ∈ uX6_judged := List.mem_cons_of_mem _ (wU_r35 _ (List.mem_of_getElem? (i := 0) rfl))
def f_X6_judged_116 (r37 : Int32 → Int32 → Int32 → Int32 → Int32 → aSt → Option (Int32 × aSt)) (l1 : Int32) (l2 : Int32) (l3 : Int32) (l4 : Int32) (l5 : Int32) (S : aSt) : Option (Int32 × aSt) := (aLt (l5 + (1 : Int32)) (fun x6 => (r37 l1 l2 l3 l4 x6 S)))
set_option maxRecDepth 20000 in
set_option maxHeartbeats 4000000 in
theorem v_X6_judged_116 {G : aG} {K : Option Nat} (hF : aFt G K) (r37 : Int32 → Int32 → Int32 → Int32 → Int32 → aSt → Option (Int32 × aSt)) (hr37 : ∀ (l1 : Int32) (l2 : Int32) (l3 : Int32) (l4 : Int32) (l5 : Int32) (S : aSt), aX G yX6_judged cX6_judged 7 (some .int) uX6_judged 7 mk_i (r37 l1 l2 l3 l4 l5 S) 37 [some (.ref (0)), some (.int l1), some (.int l2), some (.int l3), some (.int l4), some (.int l5), none] [] S) (l1 : Int32) (l2 : Int32) (l3 : Int32) (l4 : Int32) (l5 : Int32) (S : aSt) : aX G yX6_judged cX6_judged 7 (some .int) uX6_judged 7 mk_i (f_X6_judged_116 r37 l1 l2 l3 l4 l5 S) 116 [some (.ref (0)), some (.int l1), some (.int l2), some (.int l3), some (.int l4), some (.int l5), none] [] S := by
  unfold f_X6_judged_116
  refine x_iincL (w := (1 : Int32)) dX6_judged_116 rfl (by decide) (Nat.le_of_ble_eq_true rfl) rfl (fun x6 => ?_)
  refine x_goto (tgt := 37) dX6_judged_119 (by decide) ?_
  exact x_le (hr37 l1 l2 l3 l4 x6 S) (And.intro rfl (And.intro rfl (And.intro rfl (And.intro rfl (And.intro rfl (And.intro rfl trivial))))))
def f_X6_judged_37  : Nat → Int32 → Int32 → Int32 → Int32 → Int32 → aSt → Option (Int32 × aSt)
  | 0, _, _, _, _, _, _ => none
  | n + 1, l1, l2, l3, l4, l5, S => (if l4 ≤ l5 then (if l1 = 0 then (some (l2, S)) else (some (l3, S))) else (if l5 < 0 ∨ 6 ≤ (l5).toNatClampNeg then none else (if (S.1 (1 + 9 + 2 * (l5).toNatClampNeg) 8) = 0 then (f_X6_judged_116 (fun l1 l2 l3 l4 l5 S => (f_X6_judged_37 n l1 l2 l3 l4 l5 S)) l1 l2 l3 l4 l5 S) else (aB (f_X1_decide (1 + 3) (1 + 9 + 2 * (l5).toNatClampNeg) (-1 : Int32) S) (fun r4_ S4 => (if l5 < 0 ∨ 6 ≤ (l5).toNatClampNeg then none else (if (S4.1 (29) 5) = (S4.1 (1 + 2) (l5).toNatClampNeg) then (aLt (l2 + (1 : Int32)) (fun x5 => (f_X6_judged_116 (fun l1 l2 l3 l4 l5 S => (f_X6_judged_37 n l1 l2 l3 l4 l5 S)) l1 x5 l3 l4 l5 S4))) else (if l3 = (-5 : Int32) then (f_X6_judged_116 (fun l1 l2 l3 l4 l5 S => (f_X6_judged_37 n l1 l2 l3 l4 l5 S)) l1 l2 l5 l4 l5 S4) else (f_X6_judged_116 (fun l1 l2 l3 l4 l5 S => (f_X6_judged_37 n l1 l2 l3 l4 l5 S)) l1 l2 l3 l4 l5 S4)))))))))
set_option maxRecDepth 20000 in
set_option maxHeartbeats 4000000 in
theorem v_X6_judged_37 {G : aG} {K : Option Nat} (hF : aFt G K) : ∀ (n : Nat) (l1 : Int32) (l2 : Int32) (l3 : Int32) (l4 : Int32) (l5 : Int32) (S : aSt), aX G yX6_judged cX6_judged 7 (some .int) uX6_judged 7 mk_i (f_X6_judged_37 n l1 l2 l3 l4 l5 S) 37 [some (.ref (0)), some (.int l1), some (.int l2), some (.int l3), some (.int l4), some (.int l5), none] [] S := by
  intro n
  induction n with
  | zero => intro l1 l2 l3 l4 l5 S; exact x_none
  | succ n ih =>
    intro l1 l2 l3 l4 l5 S
    unfold f_X6_judged_37
    refine x_iload dX6_judged_37 rfl ?_
    refine x_iload dX6_judged_39 rfl ?_
    refine x_icmp_ge (tgt := 122) dX6_judged_41 (by decide) ?_ ?_
    · refine x_iload_n dX6_judged_122 rfl rfl ?_
      refine x_if_ne (tgt := 130) dX6_judged_123 (by decide) ?_ ?_
      · refine x_iload_n dX6_judged_130 rfl rfl ?_
        exact x_iret dX6_judged_131 rfl
      · refine x_iload_n dX6_judged_126 rfl rfl ?_
        refine x_goto (tgt := 131) dX6_judged_127 (by decide) ?_
        exact x_iret dX6_judged_131 rfl
    · refine x_aload_n dX6_judged_44 rfl rfl ?_
      refine x_getR (r := 1) (k := 0) (j := 0) dX6_judged_45 hF.1 rfl rfl (Nat.le_of_ble_eq_true rfl) (fun w h => List.mem_cons_of_mem _ (inlX6 w h)) w_X6_judged_f12 ?_
      refine x_getR (r := 1 + 8) (k := 1) (j := 9) dX6_judged_48 hF.2.1.1 rfl rfl (Nat.le_of_ble_eq_true rfl) (fun w h => List.mem_cons_of_mem _ (inlX2 w h)) w_X6_judged_f108 ?_
      refine x_iload dX6_judged_51 rfl ?_
      refine x_aald (g := fun j => 1 + 9 + 2 * j) dX6_judged_53 hF.2.1.2.2.2.2.1 (fun _ => rfl) (fun h3 => ?_)
      refine x_astore dX6_judged_54 (Nat.le_of_ble_eq_true rfl) rfl ?_
      refine x_aload dX6_judged_56 rfl ?_
      refine x_getI (k := 1 + 9 + 2 * (l5).toNatClampNeg) (j := 8) dX6_judged_58 (hF.2.1.2.2.2.2.2 _ (a_lt h3)).1 rfl rfl (Nat.le_of_ble_eq_true rfl) (fun w h => List.mem_cons_of_mem _ (inlX4 w h)) w_X6_judged_f141 ?_
      refine x_if_eq (tgt := 116) dX6_judged_61 (by decide) ?_ ?_
      · exact x_le (v_X6_judged_116 hF (fun l1 l2 l3 l4 l5 S => (f_X6_judged_37 n l1 l2 l3 l4 l5 S)) ih l1 l2 l3 l4 l5 S) (And.intro rfl (And.intro rfl (And.intro rfl (And.intro rfl (And.intro rfl (And.intro rfl trivial))))))
      · refine x_aload_n dX6_judged_64 rfl rfl ?_
        refine x_getR (r := 29) (k := 0) (j := 2) dX6_judged_65 hF.1 rfl rfl (Nat.le_of_ble_eq_true rfl) (fun w h => List.mem_cons_of_mem _ (inlX6 w h)) w_X6_judged_f28 ?_
        refine x_aload_n dX6_judged_68 rfl rfl ?_
        refine x_getR (r := 1) (k := 0) (j := 0) dX6_judged_69 hF.1 rfl rfl (Nat.le_of_ble_eq_true rfl) (fun w h => List.mem_cons_of_mem _ (inlX6 w h)) w_X6_judged_f12 ?_
        refine x_getR (r := 1 + 3) (k := 1) (j := 8) dX6_judged_72 hF.2.1.1 rfl rfl (Nat.le_of_ble_eq_true rfl) (fun w h => List.mem_cons_of_mem _ (inlX2 w h)) w_X6_judged_f79 ?_
        refine x_aload dX6_judged_75 rfl ?_
        refine x_iconst (-1 : Int32) dX6_judged_77 (by decide) ?_
        refine x_b (fun r4_ S4 e4 => ?_)
        refine x_callVv (As := [.ref (1 + 3), .ref (1 + 9 + 2 * (l5).toNatClampNeg), .int (-1 : Int32)]) dX6_judged_78 (aMet_of e4 (m_X1_decide hF.2.2.2.1 (1 + 3) hF.2.1.2.2.2.1 (1 + 9 + 2 * (l5).toNatClampNeg) (hF.2.1.2.2.2.2.2 _ (a_lt h3)) (-1 : Int32) S)) g_X6_judged_179 rfl hF.2.2.2.1 rfl dd_X1_decide rfl rfl (Nat.le_of_ble_eq_true rfl) (Nat.le_of_ble_eq_true rfl) (Nat.le_of_ble_eq_true rfl) ?_
        refine x_aload_n dX6_judged_81 rfl rfl ?_
        refine x_getR (r := 29) (k := 0) (j := 2) dX6_judged_82 hF.1 rfl rfl (Nat.le_of_ble_eq_true rfl) (fun w h => List.mem_cons_of_mem _ (inlX6 w h)) w_X6_judged_f28 ?_
        refine x_getI (k := 29) (j := 5) dX6_judged_85 hF.2.2.2.1 rfl rfl (Nat.le_of_ble_eq_true rfl) (fun w h => List.mem_cons_of_mem _ (inlX1 w h)) w_X6_judged_f168 ?_
        refine x_aload_n dX6_judged_88 rfl rfl ?_
        refine x_getR (r := 1) (k := 0) (j := 0) dX6_judged_89 hF.1 rfl rfl (Nat.le_of_ble_eq_true rfl) (fun w h => List.mem_cons_of_mem _ (inlX6 w h)) w_X6_judged_f12 ?_
        refine x_getR (r := 1 + 2) (k := 1) (j := 7) dX6_judged_92 hF.2.1.1 rfl rfl (Nat.le_of_ble_eq_true rfl) (fun w h => List.mem_cons_of_mem _ (inlX2 w h)) w_X6_judged_f240 ?_
        refine x_iload dX6_judged_95 rfl ?_
        refine x_iald dX6_judged_97 hF.2.1.2.2.1 ?_
        refine x_icmp_ne (tgt := 107) dX6_judged_98 (by decide) ?_ ?_
        · refine x_iload_n dX6_judged_107 rfl rfl ?_
          refine x_bipush (-5 : Int32) dX6_judged_108 (by decide) ?_
          refine x_icmp_ne (tgt := 116) dX6_judged_110 (by decide) ?_ ?_
          · exact x_le (v_X6_judged_116 hF (fun l1 l2 l3 l4 l5 S => (f_X6_judged_37 n l1 l2 l3 l4 l5 S)) ih l1 l2 l3 l4 l5 S4) (And.intro rfl (And.intro rfl (And.intro rfl (And.intro rfl (And.intro rfl (And.intro rfl trivial))))))
          · refine x_iload dX6_judged_113 rfl ?_
            refine x_istore_n dX6_judged_115 rfl (Nat.le_of_ble_eq_true rfl) rfl ?_
            exact x_le (v_X6_judged_116 hF (fun l1 l2 l3 l4 l5 S => (f_X6_judged_37 n l1 l2 l3 l4 l5 S)) ih l1 l2 l5 l4 l5 S4) (And.intro rfl (And.intro rfl (And.intro rfl (And.intro rfl (And.intro rfl (And.intro rfl trivial))))))
        · refine x_iincL (w := (1 : Int32)) dX6_judged_101 rfl (by decide) (Nat.le_of_ble_eq_true rfl) rfl (fun x5 => ?_)
          refine x_goto (tgt := 116) dX6_judged_104 (by decide) ?_
          exact x_le (v_X6_judged_116 hF (fun l1 l2 l3 l4 l5 S => (f_X6_judged_37 n l1 l2 l3 l4 l5 S)) ih l1 x5 l3 l4 l5 S4) (And.intro rfl (And.intro rfl (And.intro rfl (And.intro rfl (And.intro rfl (And.intro rfl trivial))))))
def f_X6_judged (p1 : Int32) (S : aSt) : Option (Int32 × aSt) := (aB (f_X6_outside p1 (1 : Int32) S) (fun r1_ S1 => (if r1_ = 0 then (aLt (if (S1.1 (1) 5) < (S1.1 (1) 4) then (S1.1 (1) 5) else (S1.1 (1) 4)) (fun x2 => (f_X6_judged_37 aF p1 (0 : Int32) (-5 : Int32) x2 (0 : Int32) S1))) else (some ((-1 : Int32), S1)))))
set_option maxRecDepth 20000 in
set_option maxHeartbeats 4000000 in
theorem m_X6_judged {G : aG} {K : Option Nat} (hF : aFt G K) (p1 : Int32) (S : aSt) : aMet G yX6_judged uX6_judged 7 mk_i (f_X6_judged p1 S) [.ref (0), .int p1] S := by
  refine x_met (cc := cX6_judged) (nL := 7) (ret := (some .int)) (L := [some (.ref (0)), some (.int p1), none, none, none, none, none]) (by decide +kernel) rfl (And.intro rfl (And.intro rfl trivial)) (Nat.le_of_ble_eq_true rfl) ?_
  unfold f_X6_judged
  refine x_iload_n dX6_judged_0 rfl rfl ?_
  refine x_iconst (1 : Int32) dX6_judged_1 (by decide) ?_
  refine x_b (fun r1_ S1 e1 => ?_)
  refine x_callSi (As := [.int p1, .int (1 : Int32)]) dX6_judged_2 (aMet_of e1 (m_X6_outside p1 (1 : Int32) S)) g_X6_judged_57 rfl dd_X6_outside rfl rfl (Nat.le_of_ble_eq_true rfl) (Nat.le_of_ble_eq_true rfl) (Nat.le_of_ble_eq_true rfl) ?_
  refine x_if_eq (tgt := 10) dX6_judged_5 (by decide) ?_ ?_
  · refine x_iconst (0 : Int32) dX6_judged_10 (by decide) ?_
    refine x_istore_n dX6_judged_11 rfl (Nat.le_of_ble_eq_true rfl) rfl ?_
    refine x_bipush (-5 : Int32) dX6_judged_12 (by decide) ?_
    refine x_istore_n dX6_judged_14 rfl (Nat.le_of_ble_eq_true rfl) rfl ?_
    refine x_aload_n dX6_judged_15 rfl rfl ?_
    refine x_getR (r := 1) (k := 0) (j := 0) dX6_judged_16 hF.1 rfl rfl (Nat.le_of_ble_eq_true rfl) (fun w h => List.mem_cons_of_mem _ (inlX6 w h)) w_X6_judged_f12 ?_
    refine x_getI (k := 1) (j := 4) dX6_judged_19 hF.2.1.1 rfl rfl (Nat.le_of_ble_eq_true rfl) (fun w h => List.mem_cons_of_mem _ (inlX2 w h)) w_X6_judged_f105 ?_
    refine x_aload_n dX6_judged_22 rfl rfl ?_
    refine x_getR (r := 1) (k := 0) (j := 0) dX6_judged_23 hF.1 rfl rfl (Nat.le_of_ble_eq_true rfl) (fun w h => List.mem_cons_of_mem _ (inlX6 w h)) w_X6_judged_f12 ?_
    refine x_getI (k := 1) (j := 5) dX6_judged_26 hF.2.1.1 rfl rfl (Nat.le_of_ble_eq_true rfl) (fun w h => List.mem_cons_of_mem _ (inlX2 w h)) w_X6_judged_f237 ?_
    refine x_min dX6_judged_29 w_X6_judged_m243 w_X6_judged_ms_min w_X6_judged_mi w_X6_judged_mc_min (Nat.le_of_ble_eq_true rfl) (Nat.le_of_ble_eq_true rfl) ?_
    refine x_lti (fun x2 => ?_)
    refine x_istore dX6_judged_32 (Nat.le_of_ble_eq_true rfl) rfl ?_
    refine x_iconst (0 : Int32) dX6_judged_34 (by decide) ?_
    refine x_istore dX6_judged_35 (Nat.le_of_ble_eq_true rfl) rfl ?_
    exact x_le (v_X6_judged_37 hF aF p1 (0 : Int32) (-5 : Int32) x2 (0 : Int32) S1) (And.intro rfl (And.intro rfl (And.intro rfl (And.intro rfl (And.intro rfl (And.intro rfl trivial))))))
  · refine x_iconst (-1 : Int32) dX6_judged_8 (by decide) ?_
    exact x_iret dX6_judged_9 rfl
theorem dd_X0_run : yX0_run.cls = RX0 ∧ yX0_run.cls ≠ "java/lang/invoke/MethodHandle" ∧ yX0_run.cls ≠ "java/lang/invoke/VarHandle" ∧ (parseMethodDescriptor yX0_run.desc).map (fun d => d.parameters.length) = some 3 := by decide +kernel
theorem w_X6_act_f35 : Cond.fieldLink yX6_act.cls 35 (TX6 3).1 (TX6 3).2.1 (TX6 3).2.2.1 ∈ uX6_act := List.mem_cons_of_mem _ (wU_r2 _ (List.mem_of_getElem? (i := 4) rfl))
theorem w_X6_act_f248 : Cond.fieldLink yX6_act.cls 248 (TX0 1).1 (TX0 1).2.1 (TX0 1).2.2.1 ∈ uX6_act := List.mem_cons_of_mem _ (wU_r35 _ (List.mem_of_getElem? (i := 17) rfl))
theorem w_X6_act_f12 : Cond.fieldLink yX6_act.cls 12 (TX6 0).1 (TX6 0).2.1 (TX6 0).2.2.1 ∈ uX6_act := List.mem_cons_of_mem _ (wU_r1 _ (List.mem_of_getElem? (i := 16) rfl))
theorem g_X6_act_116 : GoodIn uX6_act (wsV yX6_act.cls 116 RX2 yX2_find uX2_find) := gU_V (wU_r18 _ (List.mem_of_getElem? (i := 17) rfl)) (wU_r18 _ (List.mem_of_getElem? (i := 18) rfl)) (wU_r18 _ (List.mem_of_getElem? (i := 19) rfl)) (wU_r1 _ (List.mem_of_getElem? (i := 15) rfl)) (wU_r18 _ (List.mem_of_getElem? (i := 20) rfl))
theorem g_X6_act_251 : GoodIn uX6_act (wsV yX6_act.cls 251 RX0 yX0_run uX0_run) := gU_V (wU_r35 _ (List.mem_of_getElem? (i := 18) rfl)) (wU_r35 _ (List.mem_of_getElem? (i := 19) rfl)) (wU_r35 _ (List.mem_of_getElem? (i := 20) rfl)) (wU_r2 _ (List.mem_of_getElem? (i := 3) rfl)) (wU_r35 _ (List.mem_of_getElem? (i := 21) rfl))
def f_X6_act (p1 : Int32) (p2 : Int32) (p3 : Int32) (S : aSt) : Option (Int32 × aSt) := (aLt (aUi S (30) 1 (0 : Int32)) (fun S1 => (aB (f_X2_find (1) p1 S1) (fun r2_ S2 => aO r2_ (some ((0 : Int32), S2)) (fun a2_ => (aB (f_X0_run (a2_) p2 p3 S2) (fun r3_ S3 => (some (r3_, S3)))))))))
set_option maxRecDepth 20000 in
set_option maxHeartbeats 4000000 in
theorem m_X6_act {G : aG} {K : Option Nat} (hF : aFt G K) (p1 : Int32) (p2 : Int32) (p3 : Int32) (S : aSt) : aMet G yX6_act uX6_act 16 mk_i (f_X6_act p1 p2 p3 S) [.ref (0), .int p1, .int p2, .int p3] S := by
  refine x_met (cc := cX6_act) (nL := 5) (ret := (some .int)) (L := [some (.ref (0)), some (.int p1), some (.int p2), some (.int p3), none]) (by decide +kernel) rfl (And.intro rfl (And.intro rfl (And.intro rfl (And.intro rfl trivial)))) (Nat.le_of_ble_eq_true rfl) ?_
  unfold f_X6_act
  refine x_aload_n dX6_act_0 rfl rfl ?_
  refine x_getR (r := 30) (k := 0) (j := 3) dX6_act_1 hF.1 rfl rfl (Nat.le_of_ble_eq_true rfl) (fun w h => List.mem_cons_of_mem _ (inlX6 w h)) w_X6_act_f35 ?_
  refine x_iconst (0 : Int32) dX6_act_4 (by decide) ?_
  refine x_putI (k := 30) (j := 1) dX6_act_5 hF.2.2.2.2.1.1 rfl rfl (Nat.le_of_ble_eq_true rfl) (fun w h => List.mem_cons_of_mem _ (inlX0 w h)) w_X6_act_f248 tyX0 tyX0_ok nmX0 rfl (by decide +kernel) ?_
  refine x_ltS (fun S1 => ?_)
  refine x_aload_n dX6_act_8 rfl rfl ?_
  refine x_getR (r := 1) (k := 0) (j := 0) dX6_act_9 hF.1 rfl rfl (Nat.le_of_ble_eq_true rfl) (fun w h => List.mem_cons_of_mem _ (inlX6 w h)) w_X6_act_f12 ?_
  refine x_iload_n dX6_act_12 rfl rfl ?_
  refine x_b (fun r2_ S2 e2 => ?_)
  cases r2_ with
  | none =>
    refine x_oN ?_
    refine x_callVn (As := [.int p1]) dX6_act_13 (aMet_of e2 (m_X2_find (1) hF.2.1 p1 S1)) g_X6_act_116 rfl hF.2.1.1 rfl dd_X2_find rfl rfl (Nat.le_of_ble_eq_true rfl) (Nat.le_of_ble_eq_true rfl) (Nat.le_of_ble_eq_true rfl) ?_
    refine x_astoreN dX6_act_16 (Nat.le_of_ble_eq_true rfl) rfl ?_
    refine x_aloadN dX6_act_18 rfl ?_
    refine x_ifnonnullN dX6_act_20 ?_
    refine x_iconst (0 : Int32) dX6_act_23 (by decide) ?_
    refine x_goto (tgt := 38) dX6_act_24 (by decide) ?_
    exact x_iret dX6_act_38 rfl
  | some a2_ =>
    have h2_ := find_tr hF.2.1 e2
    refine x_oS ?_
    refine x_callVr (As := [.int p1]) dX6_act_13 (aMet_of e2 (m_X2_find (1) hF.2.1 p1 S1)) g_X6_act_116 rfl hF.2.1.1 rfl dd_X2_find rfl rfl (Nat.le_of_ble_eq_true rfl) (Nat.le_of_ble_eq_true rfl) (Nat.le_of_ble_eq_true rfl) ?_
    refine x_astore dX6_act_16 (Nat.le_of_ble_eq_true rfl) rfl ?_
    refine x_aload dX6_act_18 rfl ?_
    refine x_ifnonnull (tgt := 27) dX6_act_20 (by decide) ?_
    refine x_aload_n dX6_act_27 rfl rfl ?_
    refine x_getR (r := 30) (k := 0) (j := 3) dX6_act_28 hF.1 rfl rfl (Nat.le_of_ble_eq_true rfl) (fun w h => List.mem_cons_of_mem _ (inlX6 w h)) w_X6_act_f35 ?_
    refine x_aload dX6_act_31 rfl ?_
    refine x_iload_n dX6_act_33 rfl rfl ?_
    refine x_iload_n dX6_act_34 rfl rfl ?_
    refine x_b (fun r3_ S3 e3 => ?_)
    refine x_callVi (As := [.ref (a2_), .int p2, .int p3]) dX6_act_35 (aMet_of e3 (m_X0_run hF.2.2.2.2.1 (a2_) h2_ p2 p3 S2)) g_X6_act_251 rfl hF.2.2.2.2.1.1 rfl dd_X0_run rfl rfl (Nat.le_of_ble_eq_true rfl) (Nat.le_of_ble_eq_true rfl) (Nat.le_of_ble_eq_true rfl) ?_
    exact x_iret dX6_act_38 rfl

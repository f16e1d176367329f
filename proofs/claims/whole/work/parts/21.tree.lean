/-! written by program: what the bytecode does, and the walk -/
theorem w_X4_begin_f15 : Cond.fieldLink yX4_begin.cls 15 (TX4 0).1 (TX4 0).2.1 (TX4 0).2.2.1 ∈ uX4_begin := List.mem_cons_of_mem _ (wU_r17 _ (List.mem_of_getElem? (i := 21) rfl))
theorem w_X4_begin_f19 : Cond.fieldLink yX4_begin.cls 19 (TX4 1).1 (TX4 1).2.1 (TX4 1).2.2.1 ∈ uX4_begin := List.mem_cons_of_mem _ (wU_r17 _ (List.mem_of_getElem? (i := 22) rfl))
theorem w_X4_begin_f22 : Cond.fieldLink yX4_begin.cls 22 (TX4 2).1 (TX4 2).2.1 (TX4 2).2.2.1 ∈ uX4_begin := List.mem_cons_of_mem _ (wU_r17 _ (List.mem_of_getElem? (i := 23) rfl))
theorem w_X4_begin_f25 : Cond.fieldLink yX4_begin.cls 25 (TX4 3).1 (TX4 3).2.1 (TX4 3).2.2.1 ∈ uX4_begin := List.mem_cons_of_mem _ (wU_r18 _ (List.mem_of_getElem? (i := 0) rfl))
theorem w_X4_begin_f28 : Cond.fieldLink yX4_begin.cls 28 (TX4 4).1 (TX4 4).2.1 (TX4 4).2.2.1 ∈ uX4_begin := List.mem_cons_of_mem _ (wU_r18 _ (List.mem_of_getElem? (i := 1) rfl))
theorem w_X4_begin_f31 : Cond.fieldLink yX4_begin.cls 31 (TX4 5).1 (TX4 5).2.1 (TX4 5).2.2.1 ∈ uX4_begin := List.mem_cons_of_mem _ (wU_r18 _ (List.mem_of_getElem? (i := 2) rfl))
theorem w_X4_begin_f34 : Cond.fieldLink yX4_begin.cls 34 (TX4 6).1 (TX4 6).2.1 (TX4 6).2.2.1 ∈ uX4_begin := List.mem_cons_of_mem _ (wU_r18 _ (List.mem_of_getElem? (i := 3) rfl))
theorem w_X4_begin_f37 : Cond.fieldLink yX4_begin.cls 37 (TX4 7).1 (TX4 7).2.1 (TX4 7).2.2.1 ∈ uX4_begin := List.mem_cons_of_mem _ (wU_r18 _ (List.mem_of_getElem? (i := 4) rfl))
theorem w_X4_begin_f40 : Cond.fieldLink yX4_begin.cls 40 (TX4 8).1 (TX4 8).2.1 (TX4 8).2.2.1 ∈ uX4_begin := List.mem_cons_of_mem _ (wU_r18 _ (List.mem_of_getElem? (i := 5) rfl))
theorem w_X4_begin_f9 : Cond.fieldLink yX4_begin.cls 9 (TX4 9).1 (TX4 9).2.1 (TX4 9).2.2.1 ∈ uX4_begin := List.mem_cons_of_mem _ (wU_r3 _ (List.mem_of_getElem? (i := 19) rfl))
def f_X4_begin_50  : Nat → Nat → Int32 → aSt → Option (Unit × aSt)
  | 0, _, _, _ => none
  | n + 1, l0, l6, S => (if (6 : Int32) ≤ l6 then (some ((), S)) else (if l6 < 0 ∨ 6 ≤ (l6).toNatClampNeg then none else (aLt (aUi S (l0 + 1) (l6).toNatClampNeg (0 : Int32)) (fun S10 => (aLt (l6 + (1 : Int32)) (fun x11 => (f_X4_begin_50 n (l0) x11 S10)))))))
set_option maxRecDepth 20000 in
set_option maxHeartbeats 4000000 in
theorem v_X4_begin_50 {G : aG} : ∀ (n : Nat) (l0 : Nat) (ql0 : aTr G l0) (l6 : Int32) (S : aSt), aX G yX4_begin cX4_begin 7 none uX4_begin 2 mk_v (f_X4_begin_50 n l0 l6 S) 50 [some (.ref (l0)), none, none, none, none, none, some (.int l6)] [] S := by
  intro n
  induction n with
  | zero => intro l0 ql0 l6 S; exact x_none
  | succ n ih =>
    intro l0 ql0 l6 S
    unfold f_X4_begin_50
    refine x_iload dX4_begin_50 rfl ?_
    refine x_bipush (6 : Int32) dX4_begin_52 (by decide) ?_
    refine x_icmp_ge (tgt := 71) dX4_begin_54 (by decide) ?_ ?_
    · exact x_vret dX4_begin_71 rfl
    · refine x_aload_n dX4_begin_57 rfl rfl ?_
      refine x_getR (r := l0 + 1) (k := l0) (j := 9) dX4_begin_58 ql0.1 rfl rfl (Nat.le_of_ble_eq_true rfl) (fun w h => List.mem_cons_of_mem _ (inlX4 w h)) w_X4_begin_f9 ?_
      refine x_iload dX4_begin_61 rfl ?_
      refine x_iconst (0 : Int32) dX4_begin_63 (by decide) ?_
      refine x_iast dX4_begin_64 ql0.2 ?_
      refine x_ltS (fun S10 => ?_)
      refine x_iincL (w := (1 : Int32)) dX4_begin_65 rfl (by decide) (Nat.le_of_ble_eq_true rfl) rfl (fun x11 => ?_)
      refine x_goto (tgt := 50) dX4_begin_68 (by decide) ?_
      exact x_le (ih (l0) ql0 x11 S10) (And.intro rfl (And.intro rfl trivial))
def f_X4_begin (p0 : Nat) (p1 : Int32) (p2 : Int32) (p3 : Int32) (p4 : Int32) (p5 : Int32) (S : aSt) : Option (Unit × aSt) := (aLt (aUi S (p0) 0 p1) (fun S1 => (aLt (aUi S1 (p0) 1 p2) (fun S2 => (aLt (aUi S2 (p0) 2 p3) (fun S3 => (aLt (aUi S3 (p0) 3 p4) (fun S4 => (aLt (aUi S4 (p0) 4 p5) (fun S5 => (aLt (aUi S5 (p0) 5 (0 : Int32)) (fun S6 => (aLt (aUi S6 (p0) 6 (0 : Int32)) (fun S7 => (aLt (aUi S7 (p0) 7 (0 : Int32)) (fun S8 => (aLt (aUi S8 (p0) 8 (1 : Int32)) (fun S9 => (f_X4_begin_50 aF (p0) (0 : Int32) S9)))))))))))))))))))
set_option maxRecDepth 20000 in
set_option maxHeartbeats 4000000 in
theorem m_X4_begin {G : aG} (p0 : Nat) (q0 : aTr G p0) (p1 : Int32) (p2 : Int32) (p3 : Int32) (p4 : Int32) (p5 : Int32) (S : aSt) : aMet G yX4_begin uX4_begin 2 mk_v (f_X4_begin p0 p1 p2 p3 p4 p5 S) [.ref (p0), .int p1, .int p2, .int p3, .int p4, .int p5] S := by
  refine x_met (cc := cX4_begin) (nL := 7) (ret := none) (L := [some (.ref (p0)), some (.int p1), some (.int p2), some (.int p3), some (.int p4), some (.int p5), none]) (by decide +kernel) rfl (And.intro rfl (And.intro rfl (And.intro rfl (And.intro rfl (And.intro rfl (And.intro rfl trivial)))))) (Nat.le_of_ble_eq_true rfl) ?_
  unfold f_X4_begin
  refine x_aload_n dX4_begin_0 rfl rfl ?_
  refine x_iload_n dX4_begin_1 rfl rfl ?_
  refine x_putI (k := p0) (j := 0) dX4_begin_2 q0.1 rfl rfl (Nat.le_of_ble_eq_true rfl) (fun w h => List.mem_cons_of_mem _ (inlX4 w h)) w_X4_begin_f15 tyX4 tyX4_ok nmX4 rfl (by decide +kernel) ?_
  refine x_ltS (fun S1 => ?_)
  refine x_aload_n dX4_begin_5 rfl rfl ?_
  refine x_iload_n dX4_begin_6 rfl rfl ?_
  refine x_putI (k := p0) (j := 1) dX4_begin_7 q0.1 rfl rfl (Nat.le_of_ble_eq_true rfl) (fun w h => List.mem_cons_of_mem _ (inlX4 w h)) w_X4_begin_f19 tyX4 tyX4_ok nmX4 rfl (by decide +kernel) ?_
  refine x_ltS (fun S2 => ?_)
  refine x_aload_n dX4_begin_10 rfl rfl ?_
  refine x_iload_n dX4_begin_11 rfl rfl ?_
  refine x_putI (k := p0) (j := 2) dX4_begin_12 q0.1 rfl rfl (Nat.le_of_ble_eq_true rfl) (fun w h => List.mem_cons_of_mem _ (inlX4 w h)) w_X4_begin_f22 tyX4 tyX4_ok nmX4 rfl (by decide +kernel) ?_
  refine x_ltS (fun S3 => ?_)
  refine x_aload_n dX4_begin_15 rfl rfl ?_
  refine x_iload dX4_begin_16 rfl ?_
  refine x_putI (k := p0) (j := 3) dX4_begin_18 q0.1 rfl rfl (Nat.le_of_ble_eq_true rfl) (fun w h => List.mem_cons_of_mem _ (inlX4 w h)) w_X4_begin_f25 tyX4 tyX4_ok nmX4 rfl (by decide +kernel) ?_
  refine x_ltS (fun S4 => ?_)
  refine x_aload_n dX4_begin_21 rfl rfl ?_
  refine x_iload dX4_begin_22 rfl ?_
  refine x_putI (k := p0) (j := 4) dX4_begin_24 q0.1 rfl rfl (Nat.le_of_ble_eq_true rfl) (fun w h => List.mem_cons_of_mem _ (inlX4 w h)) w_X4_begin_f28 tyX4 tyX4_ok nmX4 rfl (by decide +kernel) ?_
  refine x_ltS (fun S5 => ?_)
  refine x_aload_n dX4_begin_27 rfl rfl ?_
  refine x_iconst (0 : Int32) dX4_begin_28 (by decide) ?_
  refine x_putI (k := p0) (j := 5) dX4_begin_29 q0.1 rfl rfl (Nat.le_of_ble_eq_true rfl) (fun w h => List.mem_cons_of_mem _ (inlX4 w h)) w_X4_begin_f31 tyX4 tyX4_ok nmX4 rfl (by decide +kernel) ?_
  refine x_ltS (fun S6 => ?_)
  refine x_aload_n dX4_begin_32 rfl rfl ?_
  refine x_iconst (0 : Int32) dX4_begin_33 (by decide) ?_
  refine x_putI (k := p0) (j := 6) dX4_begin_34 q0.1 rfl rfl (Nat.le_of_ble_eq_true rfl) (fun w h => List.mem_cons_of_mem _ (inlX4 w h)) w_X4_begin_f34 tyX4 tyX4_ok nmX4 rfl (by decide +kernel) ?_
  refine x_ltS (fun S7 => ?_)
  refine x_aload_n dX4_begin_37 rfl rfl ?_
  refine x_iconst (0 : Int32) dX4_begin_38 (by decide) ?_
  refine x_putI (k := p0) (j := 7) dX4_begin_39 q0.1 rfl rfl (Nat.le_of_ble_eq_true rfl) (fun w h => List.mem_cons_of_mem _ (inlX4 w h)) w_X4_begin_f37 tyX4 tyX4_ok nmX4 rfl (by decide +kernel) ?_
  refine x_ltS (fun S8 => ?_)
  refine x_aload_n dX4_begin_42 rfl rfl ?_
  refine x_iconst (1 : Int32) dX4_begin_43 (by decide) ?_
  refine x_putZc (k := p0) (j := 8) dX4_begin_44 q0.1 rfl rfl (Nat.le_of_ble_eq_true rfl) (fun w h => List.mem_cons_of_mem _ (inlX4 w h)) w_X4_begin_f40 tyX4 tyX4_ok nmX4 rfl (by decide +kernel) (by decide) ?_
  refine x_ltS (fun S9 => ?_)
  refine x_iconst (0 : Int32) dX4_begin_47 (by decide) ?_
  refine x_istore dX4_begin_48 (Nat.le_of_ble_eq_true rfl) rfl ?_
  exact x_le (v_X4_begin_50 aF (p0) q0 (0 : Int32) S9) (And.intro rfl (And.intro rfl trivial))
theorem dd_X4_begin : yX4_begin.cls = RX4 ∧ yX4_begin.cls ≠ "java/lang/invoke/MethodHandle" ∧ yX4_begin.cls ≠ "java/lang/invoke/VarHandle" ∧ (parseMethodDescriptor yX4_begin.desc).map (fun d => d.parameters.length) = some 5 := by decide +kernel
theorem w_X4_copyFrom_f15 : Cond.fieldLink yX4_copyFrom.cls 15 (TX4 0).1 (TX4 0).2.1 (TX4 0).2.2.1 ∈ uX4_copyFrom := List.mem_cons_of_mem _ (wU_r17 _ (List.mem_of_getElem? (i := 21) rfl))
theorem w_X4_copyFrom_f19 : Cond.fieldLink yX4_copyFrom.cls 19 (TX4 1).1 (TX4 1).2.1 (TX4 1).2.2.1 ∈ uX4_copyFrom := List.mem_cons_of_mem _ (wU_r17 _ (List.mem_of_getElem? (i := 22) rfl))
theorem w_X4_copyFrom_f22 : Cond.fieldLink yX4_copyFrom.cls 22 (TX4 2).1 (TX4 2).2.1 (TX4 2).2.2.1 ∈ uX4_copyFrom := List.mem_cons_of_mem _ (wU_r17 _ (List.mem_of_getElem? (i := 23) rfl))
theorem w_X4_copyFrom_f25 : Cond.fieldLink yX4_copyFrom.cls 25 (TX4 3).1 (TX4 3).2.1 (TX4 3).2.2.1 ∈ uX4_copyFrom := List.mem_cons_of_mem _ (wU_r18 _ (List.mem_of_getElem? (i := 0) rfl))
theorem w_X4_copyFrom_f28 : Cond.fieldLink yX4_copyFrom.cls 28 (TX4 4).1 (TX4 4).2.1 (TX4 4).2.2.1 ∈ uX4_copyFrom := List.mem_cons_of_mem _ (wU_r18 _ (List.mem_of_getElem? (i := 1) rfl))
theorem g_X4_copyFrom_44 : GoodIn uX4_copyFrom (wsV yX4_copyFrom.cls 44 RX4 yX4_begin uX4_begin) := gU_V (wU_r28 _ (List.mem_of_getElem? (i := 10) rfl)) (wU_r17 _ (List.mem_of_getElem? (i := 18) rfl)) (wU_r17 _ (List.mem_of_getElem? (i := 19) rfl)) (wU_r2 _ (List.mem_of_getElem? (i := 7) rfl)) (wU_r17 _ (List.mem_of_getElem? (i := 20) rfl))
theorem w_X4_copyFrom_f31 : Cond.fieldLink yX4_copyFrom.cls 31 (TX4 5).1 (TX4 5).2.1 (TX4 5).2.2.1 ∈ uX4_copyFrom := List.mem_cons_of_mem _ (wU_r18 _ (List.mem_of_getElem? (i := 2) rfl))
theorem w_X4_copyFrom_f34 : Cond.fieldLink yX4_copyFrom.cls 34 (TX4 6).1 (TX4 6).2.1 (TX4 6).2.2.1 ∈ uX4_copyFrom := List.mem_cons_of_mem _ (wU_r18 _ (List.mem_of_getElem? (i := 3) rfl))
theorem w_X4_copyFrom_f37 : Cond.fieldLink yX4_copyFrom.cls 37 (TX4 7).1 (TX4 7).2.1 (TX4 7).2.2.1 ∈ uX4_copyFrom := List.mem_cons_of_mem _ (wU_r18 _ (List.mem_of_getElem? (i := 4) rfl))
theorem w_X4_copyFrom_f40 : Cond.fieldLink yX4_copyFrom.cls 40 (TX4 8).1 (TX4 8).2.1 (TX4 8).2.2.1 ∈ uX4_copyFrom := List.mem_cons_of_mem _ (wU_r18 _ (List.mem_of_getElem? (i := 5) rfl))
theorem w_X4_copyFrom_f9 : Cond.fieldLink yX4_copyFrom.cls 9 (TX4 9).1 (TX4 9).2.1 (TX4 9).2.2.1 ∈ uX4_copyFrom := List.mem_cons_of_mem _ (wU_r3 _ (List.mem_of_getElem? (i := 19) rfl))
theorem w_X4_copyFrom_m48 : Cond.methodLink yX4_copyFrom.cls 48 arraycopyName ∈ uX4_copyFrom := List.mem_cons_of_mem _ (wU_r28 _ (List.mem_of_getElem? (i := 9) rfl))
theorem w_X4_copyFrom_cn : Cond.native arraycopyName ∈ uX4_copyFrom := List.mem_cons_of_mem _ (wU_r6 _ (List.mem_of_getElem? (i := 20) rfl))
theorem w_X4_copyFrom_cs : Cond.static arraycopyName ∈ uX4_copyFrom := List.mem_cons_of_mem _ (wU_r6 _ (List.mem_of_getElem? (i := 21) rfl))
theorem w_X4_copyFrom_ci : Cond.initialized "java/lang/System" ∈ uX4_copyFrom := List.mem_cons_of_mem _ (wU_r6 _ (List.mem_of_getElem? (i := 22) rfl))
def f_X4_copyFrom (p0 : Nat) (p1 : Nat) (S : aSt) : Option (Unit × aSt) := (aB (f_X4_begin (p0) (S.1 (p1) 0) (S.1 (p1) 1) (S.1 (p1) 2) (S.1 (p1) 3) (S.1 (p1) 4) S) (fun r1_ S1 => (aLt (aUi S1 (p0) 5 (S1.1 (p1) 5)) (fun S2 => (aLt (aUi S2 (p0) 6 (S2.1 (p1) 6)) (fun S3 => (aLt (aUi S3 (p0) 7 (S3.1 (p1) 7)) (fun S4 => (if (S4.1 (p1) 8) = 0 ∨ (S4.1 (p1) 8) = 1 then (aLt (aUi S4 (p0) 8 (S4.1 (p1) 8)) (fun S5 => (aLt (aCp S5 (p1 + 1) (p0 + 1) 6) (fun S6 => (some ((), S6)))))) else none)))))))))
set_option maxRecDepth 20000 in
set_option maxHeartbeats 4000000 in
theorem m_X4_copyFrom {G : aG} (p0 : Nat) (q0 : aTr G p0) (p1 : Nat) (q1 : aTr G p1) (S : aSt) : aMet G yX4_copyFrom uX4_copyFrom 3 mk_v (f_X4_copyFrom p0 p1 S) [.ref (p0), .ref (p1)] S := by
  refine x_met (cc := cX4_copyFrom) (nL := 2) (ret := none) (L := [some (.ref (p0)), some (.ref (p1))]) (by decide +kernel) rfl (And.intro rfl (And.intro rfl trivial)) (Nat.le_of_ble_eq_true rfl) ?_
  unfold f_X4_copyFrom
  refine x_aload_n dX4_copyFrom_0 rfl rfl ?_
  refine x_aload_n dX4_copyFrom_1 rfl rfl ?_
  refine x_getI (k := p1) (j := 0) dX4_copyFrom_2 q1.1 rfl rfl (Nat.le_of_ble_eq_true rfl) (fun w h => List.mem_cons_of_mem _ (inlX4 w h)) w_X4_copyFrom_f15 ?_
  refine x_aload_n dX4_copyFrom_5 rfl rfl ?_
  refine x_getI (k := p1) (j := 1) dX4_copyFrom_6 q1.1 rfl rfl (Nat.le_of_ble_eq_true rfl) (fun w h => List.mem_cons_of_mem _ (inlX4 w h)) w_X4_copyFrom_f19 ?_
  refine x_aload_n dX4_copyFrom_9 rfl rfl ?_
  refine x_getI (k := p1) (j := 2) dX4_copyFrom_10 q1.1 rfl rfl (Nat.le_of_ble_eq_true rfl) (fun w h => List.mem_cons_of_mem _ (inlX4 w h)) w_X4_copyFrom_f22 ?_
  refine x_aload_n dX4_copyFrom_13 rfl rfl ?_
  refine x_getI (k := p1) (j := 3) dX4_copyFrom_14 q1.1 rfl rfl (Nat.le_of_ble_eq_true rfl) (fun w h => List.mem_cons_of_mem _ (inlX4 w h)) w_X4_copyFrom_f25 ?_
  refine x_aload_n dX4_copyFrom_17 rfl rfl ?_
  refine x_getI (k := p1) (j := 4) dX4_copyFrom_18 q1.1 rfl rfl (Nat.le_of_ble_eq_true rfl) (fun w h => List.mem_cons_of_mem _ (inlX4 w h)) w_X4_copyFrom_f28 ?_
  refine x_b (fun r1_ S1 e1 => ?_)
  refine x_callVv (As := [.int (S.1 (p1) 0), .int (S.1 (p1) 1), .int (S.1 (p1) 2), .int (S.1 (p1) 3), .int (S.1 (p1) 4)]) dX4_copyFrom_21 (aMet_of e1 (m_X4_begin (p0) q0 (S.1 (p1) 0) (S.1 (p1) 1) (S.1 (p1) 2) (S.1 (p1) 3) (S.1 (p1) 4) S)) g_X4_copyFrom_44 rfl q0.1 rfl dd_X4_begin rfl rfl (Nat.le_of_ble_eq_true rfl) (Nat.le_of_ble_eq_true rfl) (Nat.le_of_ble_eq_true rfl) ?_
  refine x_aload_n dX4_copyFrom_24 rfl rfl ?_
  refine x_aload_n dX4_copyFrom_25 rfl rfl ?_
  refine x_getI (k := p1) (j := 5) dX4_copyFrom_26 q1.1 rfl rfl (Nat.le_of_ble_eq_true rfl) (fun w h => List.mem_cons_of_mem _ (inlX4 w h)) w_X4_copyFrom_f31 ?_
  refine x_putI (k := p0) (j := 5) dX4_copyFrom_29 q0.1 rfl rfl (Nat.le_of_ble_eq_true rfl) (fun w h => List.mem_cons_of_mem _ (inlX4 w h)) w_X4_copyFrom_f31 tyX4 tyX4_ok nmX4 rfl (by decide +kernel) ?_
  refine x_ltS (fun S2 => ?_)
  refine x_aload_n dX4_copyFrom_32 rfl rfl ?_
  refine x_aload_n dX4_copyFrom_33 rfl rfl ?_
  refine x_getI (k := p1) (j := 6) dX4_copyFrom_34 q1.1 rfl rfl (Nat.le_of_ble_eq_true rfl) (fun w h => List.mem_cons_of_mem _ (inlX4 w h)) w_X4_copyFrom_f34 ?_
  refine x_putI (k := p0) (j := 6) dX4_copyFrom_37 q0.1 rfl rfl (Nat.le_of_ble_eq_true rfl) (fun w h => List.mem_cons_of_mem _ (inlX4 w h)) w_X4_copyFrom_f34 tyX4 tyX4_ok nmX4 rfl (by decide +kernel) ?_
  refine x_ltS (fun S3 => ?_)
  refine x_aload_n dX4_copyFrom_40 rfl rfl ?_
  refine x_aload_n dX4_copyFrom_41 rfl rfl ?_
  refine x_getI (k := p1) (j := 7) dX4_copyFrom_42 q1.1 rfl rfl (Nat.le_of_ble_eq_true rfl) (fun w h => List.mem_cons_of_mem _ (inlX4 w h)) w_X4_copyFrom_f37 ?_
  refine x_putI (k := p0) (j := 7) dX4_copyFrom_45 q0.1 rfl rfl (Nat.le_of_ble_eq_true rfl) (fun w h => List.mem_cons_of_mem _ (inlX4 w h)) w_X4_copyFrom_f37 tyX4 tyX4_ok nmX4 rfl (by decide +kernel) ?_
  refine x_ltS (fun S4 => ?_)
  refine x_aload_n dX4_copyFrom_48 rfl rfl ?_
  refine x_aload_n dX4_copyFrom_49 rfl rfl ?_
  refine x_getI (k := p1) (j := 8) dX4_copyFrom_50 q1.1 rfl rfl (Nat.le_of_ble_eq_true rfl) (fun w h => List.mem_cons_of_mem _ (inlX4 w h)) w_X4_copyFrom_f40 ?_
  refine x_putZ (k := p0) (j := 8) dX4_copyFrom_53 q0.1 rfl rfl (Nat.le_of_ble_eq_true rfl) (fun w h => List.mem_cons_of_mem _ (inlX4 w h)) w_X4_copyFrom_f40 tyX4 tyX4_ok nmX4 rfl (by decide +kernel) ?_
  refine x_ltS (fun S5 => ?_)
  refine x_aload_n dX4_copyFrom_56 rfl rfl ?_
  refine x_getR (r := p1 + 1) (k := p1) (j := 9) dX4_copyFrom_57 q1.1 rfl rfl (Nat.le_of_ble_eq_true rfl) (fun w h => List.mem_cons_of_mem _ (inlX4 w h)) w_X4_copyFrom_f9 ?_
  refine x_iconst (0 : Int32) dX4_copyFrom_60 (by decide) ?_
  refine x_aload_n dX4_copyFrom_61 rfl rfl ?_
  refine x_getR (r := p0 + 1) (k := p0) (j := 9) dX4_copyFrom_62 q0.1 rfl rfl (Nat.le_of_ble_eq_true rfl) (fun w h => List.mem_cons_of_mem _ (inlX4 w h)) w_X4_copyFrom_f9 ?_
  refine x_iconst (0 : Int32) dX4_copyFrom_65 (by decide) ?_
  refine x_bipush (6 : Int32) dX4_copyFrom_66 (by decide) ?_
  refine x_cpyc (n := 6) dX4_copyFrom_68 w_X4_copyFrom_m48 w_X4_copyFrom_cn w_X4_copyFrom_cs w_X4_copyFrom_ci q1.2 q0.2 rfl rfl rfl rfl (by decide) (by decide) (Nat.le_of_ble_eq_true rfl) (Nat.le_of_ble_eq_true rfl) (fun _ _ => rfl) (Nat.le_of_ble_eq_true rfl) (Nat.le_of_ble_eq_true rfl) ?_
  refine x_ltS (fun S6 => ?_)
  exact x_vret dX4_copyFrom_71 rfl
theorem w_X5_clear_f27 : Cond.fieldLink yX5_clear.cls 27 (TX5 0).1 (TX5 0).2.1 (TX5 0).2.2.1 ∈ uX5_clear := List.mem_cons_of_mem _ (wU_r3 _ (List.mem_of_getElem? (i := 12) rfl))
theorem w_X5_clear_f31 : Cond.fieldLink yX5_clear.cls 31 (TX5 1).1 (TX5 1).2.1 (TX5 1).2.2.1 ∈ uX5_clear := List.mem_cons_of_mem _ (wU_r3 _ (List.mem_of_getElem? (i := 13) rfl))
theorem w_X5_clear_f34 : Cond.fieldLink yX5_clear.cls 34 (TX5 2).1 (TX5 2).2.1 (TX5 2).2.2.1 ∈ uX5_clear := List.mem_cons_of_mem _ (wU_r3 _ (List.mem_of_getElem? (i := 14) rfl))
theorem w_X5_clear_f37 : Cond.fieldLink yX5_clear.cls 37 (TX5 3).1 (TX5 3).2.1 (TX5 3).2.2.1 ∈ uX5_clear := List.mem_cons_of_mem _ (wU_r3 _ (List.mem_of_getElem? (i := 15) rfl))
def f_X5_clear (p0 : Nat) (S : aSt) : Option (Unit × aSt) := (aLt (aUi S (p0) 0 (0 : Int32)) (fun S1 => (aLt (aUi S1 (p0) 1 (0 : Int32)) (fun S2 => (aLt (aUi S2 (p0) 2 (3 : Int32)) (fun S3 => (aLt (aUi S3 (p0) 3 (2 : Int32)) (fun S4 => (some ((), S4))))))))))
set_option maxRecDepth 20000 in
set_option maxHeartbeats 4000000 in
theorem m_X5_clear {G : aG} (p0 : Nat) (q0 : aWd G p0) (S : aSt) : aMet G yX5_clear uX5_clear 2 mk_v (f_X5_clear p0 S) [.ref (p0)] S := by
  refine x_met (cc := cX5_clear) (nL := 1) (ret := none) (L := [some (.ref (p0))]) (by decide +kernel) rfl (And.intro rfl trivial) (Nat.le_of_ble_eq_true rfl) ?_
  unfold f_X5_clear
  refine x_aload_n dX5_clear_0 rfl rfl ?_
  refine x_iconst (0 : Int32) dX5_clear_1 (by decide) ?_
  refine x_putI (k := p0) (j := 0) dX5_clear_2 q0.1 rfl rfl (Nat.le_of_ble_eq_true rfl) (fun w h => List.mem_cons_of_mem _ (inlX5 w h)) w_X5_clear_f27 tyX5 tyX5_ok nmX5 rfl (by decide +kernel) ?_
  refine x_ltS (fun S1 => ?_)
  refine x_aload_n dX5_clear_5 rfl rfl ?_
  refine x_iconst (0 : Int32) dX5_clear_6 (by decide) ?_
  refine x_putI (k := p0) (j := 1) dX5_clear_7 q0.1 rfl rfl (Nat.le_of_ble_eq_true rfl) (fun w h => List.mem_cons_of_mem _ (inlX5 w h)) w_X5_clear_f31 tyX5 tyX5_ok nmX5 rfl (by decide +kernel) ?_
  refine x_ltS (fun S2 => ?_)
  refine x_aload_n dX5_clear_10 rfl rfl ?_
  refine x_iconst (3 : Int32) dX5_clear_11 (by decide) ?_
  refine x_putI (k := p0) (j := 2) dX5_clear_12 q0.1 rfl rfl (Nat.le_of_ble_eq_true rfl) (fun w h => List.mem_cons_of_mem _ (inlX5 w h)) w_X5_clear_f34 tyX5 tyX5_ok nmX5 rfl (by decide +kernel) ?_
  refine x_ltS (fun S3 => ?_)
  refine x_aload_n dX5_clear_15 rfl rfl ?_
  refine x_iconst (2 : Int32) dX5_clear_16 (by decide) ?_
  refine x_putI (k := p0) (j := 3) dX5_clear_17 q0.1 rfl rfl (Nat.le_of_ble_eq_true rfl) (fun w h => List.mem_cons_of_mem _ (inlX5 w h)) w_X5_clear_f37 tyX5 tyX5_ok nmX5 rfl (by decide +kernel) ?_
  refine x_ltS (fun S4 => ?_)
  exact x_vret dX5_clear_20 rfl
theorem w_X5_copyFrom_f27 : Cond.fieldLink yX5_copyFrom.cls 27 (TX5 0).1 (TX5 0).2.1 (TX5 0).2.2.1 ∈ uX5_copyFrom := List.mem_cons_of_mem _ (wU_r3 _ (List.mem_of_getElem? (i := 12) rfl))
theorem w_X5_copyFrom_f31 : Cond.fieldLink yX5_copyFrom.cls 31 (TX5 1).1 (TX5 1).2.1 (TX5 1).2.2.1 ∈ uX5_copyFrom := List.mem_cons_of_mem _ (wU_r3 _ (List.mem_of_getElem? (i := 13) rfl))
theorem w_X5_copyFrom_f34 : Cond.fieldLink yX5_copyFrom.cls 34 (TX5 2).1 (TX5 2).2.1 (TX5 2).2.2.1 ∈ uX5_copyFrom := List.mem_cons_of_mem _ (wU_r3 _ (List.mem_of_getElem? (i := 14) rfl))
theorem w_X5_copyFrom_f37 : Cond.fieldLink yX5_copyFrom.cls 37 (TX5 3).1 (TX5 3).2.1 (TX5 3).2.2.1 ∈ uX5_copyFrom := List.mem_cons_of_mem _ (wU_r3 _ (List.mem_of_getElem? (i := 15) rfl))
theorem w_X5_copyFrom_f9 : Cond.fieldLink yX5_copyFrom.cls 9 (TX5 4).1 (TX5 4).2.1 (TX5 4).2.2.1 ∈ uX5_copyFrom := List.mem_cons_of_mem _ (wU_r3 _ (List.mem_of_getElem? (i := 4) rfl))
theorem w_X5_copyFrom_m40 : Cond.methodLink yX5_copyFrom.cls 40 arraycopyName ∈ uX5_copyFrom := List.mem_cons_of_mem _ (wU_r14 _ (List.mem_of_getElem? (i := 2) rfl))
theorem w_X5_copyFrom_cn : Cond.native arraycopyName ∈ uX5_copyFrom := List.mem_cons_of_mem _ (wU_r6 _ (List.mem_of_getElem? (i := 20) rfl))
theorem w_X5_copyFrom_cs : Cond.static arraycopyName ∈ uX5_copyFrom := List.mem_cons_of_mem _ (wU_r6 _ (List.mem_of_getElem? (i := 21) rfl))
theorem w_X5_copyFrom_ci : Cond.initialized "java/lang/System" ∈ uX5_copyFrom := List.mem_cons_of_mem _ (wU_r6 _ (List.mem_of_getElem? (i := 22) rfl))
theorem w_X5_copyFrom_f15 : Cond.fieldLink yX5_copyFrom.cls 15 (TX5 5).1 (TX5 5).2.1 (TX5 5).2.2.1 ∈ uX5_copyFrom := List.mem_cons_of_mem _ (wU_r3 _ (List.mem_of_getElem? (i := 5) rfl))
theorem w_X5_copyFrom_f18 : Cond.fieldLink yX5_copyFrom.cls 18 (TX5 6).1 (TX5 6).2.1 (TX5 6).2.2.1 ∈ uX5_copyFrom := List.mem_cons_of_mem _ (wU_r3 _ (List.mem_of_getElem? (i := 6) rfl))
theorem w_X5_copyFrom_f21 : Cond.fieldLink yX5_copyFrom.cls 21 (TX5 7).1 (TX5 7).2.1 (TX5 7).2.2.1 ∈ uX5_copyFrom := List.mem_cons_of_mem _ (wU_r3 _ (List.mem_of_getElem? (i := 7) rfl))
def f_X5_copyFrom (p0 : Nat) (p1 : Nat) (S : aSt) : Option (Unit × aSt) := (aLt (aUi S (p0) 0 (S.1 (p1) 0)) (fun S1 => (aLt (aUi S1 (p0) 1 (S1.1 (p1) 1)) (fun S2 => (aLt (aUi S2 (p0) 2 (S2.1 (p1) 2)) (fun S3 => (aLt (aUi S3 (p0) 3 (S3.1 (p1) 3)) (fun S4 => (aLt (aCp S4 (p1 + 1) (p0 + 1) 10) (fun S5 => (aLt (aCp S5 (p1 + 2) (p0 + 2) 10) (fun S6 => (aLt (aCp S6 (p1 + 3) (p0 + 3) 10) (fun S7 => (aLt (aCp S7 (p1 + 4) (p0 + 4) 100) (fun S8 => (some ((), S8))))))))))))))))))
set_option maxRecDepth 20000 in
set_option maxHeartbeats 4000000 in
theorem m_X5_copyFrom {G : aG} (p0 : Nat) (q0 : aWd G p0) (p1 : Nat) (q1 : aWd G p1) (S : aSt) : aMet G yX5_copyFrom uX5_copyFrom 2 mk_v (f_X5_copyFrom p0 p1 S) [.ref (p0), .ref (p1)] S := by
  refine x_met (cc := cX5_copyFrom) (nL := 2) (ret := none) (L := [some (.ref (p0)), some (.ref (p1))]) (by decide +kernel) rfl (And.intro rfl (And.intro rfl trivial)) (Nat.le_of_ble_eq_true rfl) ?_
  unfold f_X5_copyFrom
  refine x_aload_n dX5_copyFrom_0 rfl rfl ?_
  refine x_aload_n dX5_copyFrom_1 rfl rfl ?_
  refine x_getI (k := p1) (j := 0) dX5_copyFrom_2 q1.1 rfl rfl (Nat.le_of_ble_eq_true rfl) (fun w h => List.mem_cons_of_mem _ (inlX5 w h)) w_X5_copyFrom_f27 ?_
  refine x_putI (k := p0) (j := 0) dX5_copyFrom_5 q0.1 rfl rfl (Nat.le_of_ble_eq_true rfl) (fun w h => List.mem_cons_of_mem _ (inlX5 w h)) w_X5_copyFrom_f27 tyX5 tyX5_ok nmX5 rfl (by decide +kernel) ?_
  refine x_ltS (fun S1 => ?_)
  refine x_aload_n dX5_copyFrom_8 rfl rfl ?_
  refine x_aload_n dX5_copyFrom_9 rfl rfl ?_
  refine x_getI (k := p1) (j := 1) dX5_copyFrom_10 q1.1 rfl rfl (Nat.le_of_ble_eq_true rfl) (fun w h => List.mem_cons_of_mem _ (inlX5 w h)) w_X5_copyFrom_f31 ?_
  refine x_putI (k := p0) (j := 1) dX5_copyFrom_13 q0.1 rfl rfl (Nat.le_of_ble_eq_true rfl) (fun w h => List.mem_cons_of_mem _ (inlX5 w h)) w_X5_copyFrom_f31 tyX5 tyX5_ok nmX5 rfl (by decide +kernel) ?_
  refine x_ltS (fun S2 => ?_)
  refine x_aload_n dX5_copyFrom_16 rfl rfl ?_
  refine x_aload_n dX5_copyFrom_17 rfl rfl ?_
  refine x_getI (k := p1) (j := 2) dX5_copyFrom_18 q1.1 rfl rfl (Nat.le_of_ble_eq_true rfl) (fun w h => List.mem_cons_of_mem _ (inlX5 w h)) w_X5_copyFrom_f34 ?_
  refine x_putI (k := p0) (j := 2) dX5_copyFrom_21 q0.1 rfl rfl (Nat.le_of_ble_eq_true rfl) (fun w h => List.mem_cons_of_mem _ (inlX5 w h)) w_X5_copyFrom_f34 tyX5 tyX5_ok nmX5 rfl (by decide +kernel) ?_
  refine x_ltS (fun S3 => ?_)
  refine x_aload_n dX5_copyFrom_24 rfl rfl ?_
  refine x_aload_n dX5_copyFrom_25 rfl rfl ?_
  refine x_getI (k := p1) (j := 3) dX5_copyFrom_26 q1.1 rfl rfl (Nat.le_of_ble_eq_true rfl) (fun w h => List.mem_cons_of_mem _ (inlX5 w h)) w_X5_copyFrom_f37 ?_
  refine x_putI (k := p0) (j := 3) dX5_copyFrom_29 q0.1 rfl rfl (Nat.le_of_ble_eq_true rfl) (fun w h => List.mem_cons_of_mem _ (inlX5 w h)) w_X5_copyFrom_f37 tyX5 tyX5_ok nmX5 rfl (by decide +kernel) ?_
  refine x_ltS (fun S4 => ?_)
  refine x_aload_n dX5_copyFrom_32 rfl rfl ?_
  refine x_getR (r := p1 + 1) (k := p1) (j := 4) dX5_copyFrom_33 q1.1 rfl rfl (Nat.le_of_ble_eq_true rfl) (fun w h => List.mem_cons_of_mem _ (inlX5 w h)) w_X5_copyFrom_f9 ?_
  refine x_iconst (0 : Int32) dX5_copyFrom_36 (by decide) ?_
  refine x_aload_n dX5_copyFrom_37 rfl rfl ?_
  refine x_getR (r := p0 + 1) (k := p0) (j := 4) dX5_copyFrom_38 q0.1 rfl rfl (Nat.le_of_ble_eq_true rfl) (fun w h => List.mem_cons_of_mem _ (inlX5 w h)) w_X5_copyFrom_f9 ?_
  refine x_iconst (0 : Int32) dX5_copyFrom_41 (by decide) ?_
  refine x_bipush (10 : Int32) dX5_copyFrom_42 (by decide) ?_
  refine x_cpyc (n := 10) dX5_copyFrom_44 w_X5_copyFrom_m40 w_X5_copyFrom_cn w_X5_copyFrom_cs w_X5_copyFrom_ci q1.2.1 q0.2.1 rfl rfl rfl rfl (by decide) (by decide) (Nat.le_of_ble_eq_true rfl) (Nat.le_of_ble_eq_true rfl) (fun _ _ => rfl) (Nat.le_of_ble_eq_true rfl) (Nat.le_of_ble_eq_true rfl) ?_
  refine x_ltS (fun S5 => ?_)
  refine x_aload_n dX5_copyFrom_47 rfl rfl ?_
  refine x_getR (r := p1 + 2) (k := p1) (j := 5) dX5_copyFrom_48 q1.1 rfl rfl (Nat.le_of_ble_eq_true rfl) (fun w h => List.mem_cons_of_mem _ (inlX5 w h)) w_X5_copyFrom_f15 ?_
  refine x_iconst (0 : Int32) dX5_copyFrom_51 (by decide) ?_
  refine x_aload_n dX5_copyFrom_52 rfl rfl ?_
  refine x_getR (r := p0 + 2) (k := p0) (j := 5) dX5_copyFrom_53 q0.1 rfl rfl (Nat.le_of_ble_eq_true rfl) (fun w h => List.mem_cons_of_mem _ (inlX5 w h)) w_X5_copyFrom_f15 ?_
  refine x_iconst (0 : Int32) dX5_copyFrom_56 (by decide) ?_
  refine x_bipush (10 : Int32) dX5_copyFrom_57 (by decide) ?_
  refine x_cpyc (n := 10) dX5_copyFrom_59 w_X5_copyFrom_m40 w_X5_copyFrom_cn w_X5_copyFrom_cs w_X5_copyFrom_ci q1.2.2.1 q0.2.2.1 rfl rfl rfl rfl (by decide) (by decide) (Nat.le_of_ble_eq_true rfl) (Nat.le_of_ble_eq_true rfl) (fun _ _ => rfl) (Nat.le_of_ble_eq_true rfl) (Nat.le_of_ble_eq_true rfl) ?_
  refine x_ltS (fun S6 => ?_)
  refine x_aload_n dX5_copyFrom_62 rfl rfl ?_
  refine x_getR (r := p1 + 3) (k := p1) (j := 6) dX5_copyFrom_63 q1.1 rfl rfl (Nat.le_of_ble_eq_true rfl) (fun w h => List.mem_cons_of_mem _ (inlX5 w h)) w_X5_copyFrom_f18 ?_
  refine x_iconst (0 : Int32) dX5_copyFrom_66 (by decide) ?_
  refine x_aload_n dX5_copyFrom_67 rfl rfl ?_
  refine x_getR (r := p0 + 3) (k := p0) (j := 6) dX5_copyFrom_68 q0.1 rfl rfl (Nat.le_of_ble_eq_true rfl) (fun w h => List.mem_cons_of_mem _ (inlX5 w h)) w_X5_copyFrom_f18 ?_
  refine x_iconst (0 : Int32) dX5_copyFrom_71 (by decide) ?_
  refine x_bipush (10 : Int32) dX5_copyFrom_72 (by decide) ?_
  refine x_cpyc (n := 10) dX5_copyFrom_74 w_X5_copyFrom_m40 w_X5_copyFrom_cn w_X5_copyFrom_cs w_X5_copyFrom_ci q1.2.2.2.1 q0.2.2.2.1 rfl rfl rfl rfl (by decide) (by decide) (Nat.le_of_ble_eq_true rfl) (Nat.le_of_ble_eq_true rfl) (fun _ _ => rfl) (Nat.le_of_ble_eq_true rfl) (Nat.le_of_ble_eq_true rfl) ?_
  refine x_ltS (fun S7 => ?_)
  refine x_aload_n dX5_copyFrom_77 rfl rfl ?_
  refine x_getR (r := p1 + 4) (k := p1) (j := 7) dX5_copyFrom_78 q1.1 rfl rfl (Nat.le_of_ble_eq_true rfl) (fun w h => List.mem_cons_of_mem _ (inlX5 w h)) w_X5_copyFrom_f21 ?_
  refine x_iconst (0 : Int32) dX5_copyFrom_81 (by decide) ?_
  refine x_aload_n dX5_copyFrom_82 rfl rfl ?_
  refine x_getR (r := p0 + 4) (k := p0) (j := 7) dX5_copyFrom_83 q0.1 rfl rfl (Nat.le_of_ble_eq_true rfl) (fun w h => List.mem_cons_of_mem _ (inlX5 w h)) w_X5_copyFrom_f21 ?_
  refine x_iconst (0 : Int32) dX5_copyFrom_86 (by decide) ?_
  refine x_bipush (100 : Int32) dX5_copyFrom_87 (by decide) ?_
  refine x_cpyc (n := 100) dX5_copyFrom_89 w_X5_copyFrom_m40 w_X5_copyFrom_cn w_X5_copyFrom_cs w_X5_copyFrom_ci q1.2.2.2.2 q0.2.2.2.2 rfl rfl rfl rfl (by decide) (by decide) (Nat.le_of_ble_eq_true rfl) (Nat.le_of_ble_eq_true rfl) (fun _ _ => rfl) (Nat.le_of_ble_eq_true rfl) (Nat.le_of_ble_eq_true rfl) ?_
  refine x_ltS (fun S8 => ?_)
  exact x_vret dX5_copyFrom_92 rfl
theorem w_X5_put_f31 : Cond.fieldLink yX5_put.cls 31 (TX5 1).1 (TX5 1).2.1 (TX5 1).2.2.1 ∈ uX5_put := List.mem_cons_of_mem _ (wU_r3 _ (List.mem_of_getElem? (i := 13) rfl))
theorem w_X5_put_f21 : Cond.fieldLink yX5_put.cls 21 (TX5 7).1 (TX5 7).2.1 (TX5 7).2.2.1 ∈ uX5_put := List.mem_cons_of_mem _ (wU_r3 _ (List.mem_of_getElem? (i := 7) rfl))
def f_X5_put (p0 : Nat) (p1 : Int32) (S : aSt) : Option (Unit × aSt) := (if (100 : Int32) ≤ (S.1 (p0) 1) then (some ((), S)) else (if (S.1 (p0) 1) < 0 ∨ 100 ≤ ((S.1 (p0) 1)).toNatClampNeg then none else (aLt (aUi S (p0 + 4) ((S.1 (p0) 1)).toNatClampNeg p1) (fun S1 => (aLt (aUi S1 (p0) 1 ((S1.1 (p0) 1) + (1 : Int32))) (fun S2 => (some ((), S2))))))))
set_option maxRecDepth 20000 in
set_option maxHeartbeats 4000000 in
theorem m_X5_put {G : aG} (p0 : Nat) (q0 : aWd G p0) (p1 : Int32) (S : aSt) : aMet G yX5_put uX5_put 2 mk_v (f_X5_put p0 p1 S) [.ref (p0), .int p1] S := by
  refine x_met (cc := cX5_put) (nL := 2) (ret := none) (L := [some (.ref (p0)), some (.int p1)]) (by decide +kernel) rfl (And.intro rfl (And.intro rfl trivial)) (Nat.le_of_ble_eq_true rfl) ?_
  unfold f_X5_put
  refine x_aload_n dX5_put_0 rfl rfl ?_
  refine x_getI (k := p0) (j := 1) dX5_put_1 q0.1 rfl rfl (Nat.le_of_ble_eq_true rfl) (fun w h => List.mem_cons_of_mem _ (inlX5 w h)) w_X5_put_f31 ?_
  refine x_bipush (100 : Int32) dX5_put_4 (by decide) ?_
  refine x_icmp_ge (tgt := 29) dX5_put_6 (by decide) ?_ ?_
  · exact x_vret dX5_put_29 rfl
  · refine x_aload_n dX5_put_9 rfl rfl ?_
    refine x_getR (r := p0 + 4) (k := p0) (j := 7) dX5_put_10 q0.1 rfl rfl (Nat.le_of_ble_eq_true rfl) (fun w h => List.mem_cons_of_mem _ (inlX5 w h)) w_X5_put_f21 ?_
    refine x_aload_n dX5_put_13 rfl rfl ?_
    refine x_getI (k := p0) (j := 1) dX5_put_14 q0.1 rfl rfl (Nat.le_of_ble_eq_true rfl) (fun w h => List.mem_cons_of_mem _ (inlX5 w h)) w_X5_put_f31 ?_
    refine x_iload_n dX5_put_17 rfl rfl ?_
    refine x_iast dX5_put_18 q0.2.2.2.2 ?_
    refine x_ltS (fun S1 => ?_)
    refine x_aload_n dX5_put_19 rfl rfl ?_
    refine x_dup dX5_put_20 rfl ?_
    refine x_getI (k := p0) (j := 1) dX5_put_21 q0.1 rfl rfl (Nat.le_of_ble_eq_true rfl) (fun w h => List.mem_cons_of_mem _ (inlX5 w h)) w_X5_put_f31 ?_
    refine x_iconst (1 : Int32) dX5_put_24 (by decide) ?_
    refine x_iadd dX5_put_25 ?_
    refine x_putI (k := p0) (j := 1) dX5_put_26 q0.1 rfl rfl (Nat.le_of_ble_eq_true rfl) (fun w h => List.mem_cons_of_mem _ (inlX5 w h)) w_X5_put_f31 tyX5 tyX5_ok nmX5 rfl (by decide +kernel) ?_
    refine x_ltS (fun S2 => ?_)
    exact x_vret dX5_put_29 rfl
theorem w_X5_close_f27 : Cond.fieldLink yX5_close.cls 27 (TX5 0).1 (TX5 0).2.1 (TX5 0).2.2.1 ∈ uX5_close := List.mem_cons_of_mem _ (wU_r3 _ (List.mem_of_getElem? (i := 12) rfl))
theorem w_X5_close_f9 : Cond.fieldLink yX5_close.cls 9 (TX5 4).1 (TX5 4).2.1 (TX5 4).2.2.1 ∈ uX5_close := List.mem_cons_of_mem _ (wU_r3 _ (List.mem_of_getElem? (i := 4) rfl))
theorem w_X5_close_f15 : Cond.fieldLink yX5_close.cls 15 (TX5 5).1 (TX5 5).2.1 (TX5 5).2.2.1 ∈ uX5_close := List.mem_cons_of_mem _ (wU_r3 _ (List.mem_of_getElem? (i := 5) rfl))
theorem w_X5_close_f18 : Cond.fieldLink yX5_close.cls 18 (TX5 6).1 (TX5 6).2.1 (TX5 6).2.2.1 ∈ uX5_close := List.mem_cons_of_mem _ (wU_r3 _ (List.mem_of_getElem? (i := 6) rfl))
theorem w_X5_close_f31 : Cond.fieldLink yX5_close.cls 31 (TX5 1).1 (TX5 1).2.1 (TX5 1).2.2.1 ∈ uX5_close := List.mem_cons_of_mem _ (wU_r3 _ (List.mem_of_getElem? (i := 13) rfl))
def f_X5_close (p0 : Nat) (p1 : Int32) (p2 : Int32) (S : aSt) : Option (Unit × aSt) := (if (10 : Int32) ≤ (S.1 (p0) 0) then (some ((), S)) else (if (S.1 (p0) 0) < 0 ∨ 10 ≤ ((S.1 (p0) 0)).toNatClampNeg then none else (aLt (aUi S (p0 + 1) ((S.1 (p0) 0)).toNatClampNeg p1) (fun S1 => (if (S1.1 (p0) 0) < 0 ∨ 10 ≤ ((S1.1 (p0) 0)).toNatClampNeg then none else (aLt (aUi S1 (p0 + 2) ((S1.1 (p0) 0)).toNatClampNeg p2) (fun S2 => (if (S2.1 (p0) 0) < 0 ∨ 10 ≤ ((S2.1 (p0) 0)).toNatClampNeg then none else (aLt (aUi S2 (p0 + 3) ((S2.1 (p0) 0)).toNatClampNeg (S2.1 (p0) 1)) (fun S3 => (aLt (aUi S3 (p0) 0 ((S3.1 (p0) 0) + (1 : Int32))) (fun S4 => (some ((), S4))))))))))))))
set_option maxRecDepth 20000 in
set_option maxHeartbeats 4000000 in
theorem m_X5_close {G : aG} (p0 : Nat) (q0 : aWd G p0) (p1 : Int32) (p2 : Int32) (S : aSt) : aMet G yX5_close uX5_close 2 mk_v (f_X5_close p0 p1 p2 S) [.ref (p0), .int p1, .int p2] S := by
  refine x_met (cc := cX5_close) (nL := 3) (ret := none) (L := [some (.ref (p0)), some (.int p1), some (.int p2)]) (by decide +kernel) rfl (And.intro rfl (And.intro rfl (And.intro rfl trivial))) (Nat.le_of_ble_eq_true rfl) ?_
  unfold f_X5_close
  refine x_aload_n dX5_close_0 rfl rfl ?_
  refine x_getI (k := p0) (j := 0) dX5_close_1 q0.1 rfl rfl (Nat.le_of_ble_eq_true rfl) (fun w h => List.mem_cons_of_mem _ (inlX5 w h)) w_X5_close_f27 ?_
  refine x_bipush (10 : Int32) dX5_close_4 (by decide) ?_
  refine x_icmp_ge (tgt := 52) dX5_close_6 (by decide) ?_ ?_
  · exact x_vret dX5_close_52 rfl
  · refine x_aload_n dX5_close_9 rfl rfl ?_
    refine x_getR (r := p0 + 1) (k := p0) (j := 4) dX5_close_10 q0.1 rfl rfl (Nat.le_of_ble_eq_true rfl) (fun w h => List.mem_cons_of_mem _ (inlX5 w h)) w_X5_close_f9 ?_
    refine x_aload_n dX5_close_13 rfl rfl ?_
    refine x_getI (k := p0) (j := 0) dX5_close_14 q0.1 rfl rfl (Nat.le_of_ble_eq_true rfl) (fun w h => List.mem_cons_of_mem _ (inlX5 w h)) w_X5_close_f27 ?_
    refine x_iload_n dX5_close_17 rfl rfl ?_
    refine x_iast dX5_close_18 q0.2.1 ?_
    refine x_ltS (fun S1 => ?_)
    refine x_aload_n dX5_close_19 rfl rfl ?_
    refine x_getR (r := p0 + 2) (k := p0) (j := 5) dX5_close_20 q0.1 rfl rfl (Nat.le_of_ble_eq_true rfl) (fun w h => List.mem_cons_of_mem _ (inlX5 w h)) w_X5_close_f15 ?_
    refine x_aload_n dX5_close_23 rfl rfl ?_
    refine x_getI (k := p0) (j := 0) dX5_close_24 q0.1 rfl rfl (Nat.le_of_ble_eq_true rfl) (fun w h => List.mem_cons_of_mem _ (inlX5 w h)) w_X5_close_f27 ?_
    refine x_iload_n dX5_close_27 rfl rfl ?_
    refine x_iast dX5_close_28 q0.2.2.1 ?_
    refine x_ltS (fun S2 => ?_)
    refine x_aload_n dX5_close_29 rfl rfl ?_
    refine x_getR (r := p0 + 3) (k := p0) (j := 6) dX5_close_30 q0.1 rfl rfl (Nat.le_of_ble_eq_true rfl) (fun w h => List.mem_cons_of_mem _ (inlX5 w h)) w_X5_close_f18 ?_
    refine x_aload_n dX5_close_33 rfl rfl ?_
    refine x_getI (k := p0) (j := 0) dX5_close_34 q0.1 rfl rfl (Nat.le_of_ble_eq_true rfl) (fun w h => List.mem_cons_of_mem _ (inlX5 w h)) w_X5_close_f27 ?_
    refine x_aload_n dX5_close_37 rfl rfl ?_
    refine x_getI (k := p0) (j := 1) dX5_close_38 q0.1 rfl rfl (Nat.le_of_ble_eq_true rfl) (fun w h => List.mem_cons_of_mem _ (inlX5 w h)) w_X5_close_f31 ?_
    refine x_iast dX5_close_41 q0.2.2.2.1 ?_
    refine x_ltS (fun S3 => ?_)
    refine x_aload_n dX5_close_42 rfl rfl ?_
    refine x_dup dX5_close_43 rfl ?_
    refine x_getI (k := p0) (j := 0) dX5_close_44 q0.1 rfl rfl (Nat.le_of_ble_eq_true rfl) (fun w h => List.mem_cons_of_mem _ (inlX5 w h)) w_X5_close_f27 ?_
    refine x_iconst (1 : Int32) dX5_close_47 (by decide) ?_
    refine x_iadd dX5_close_48 ?_
    refine x_putI (k := p0) (j := 0) dX5_close_49 q0.1 rfl rfl (Nat.le_of_ble_eq_true rfl) (fun w h => List.mem_cons_of_mem _ (inlX5 w h)) w_X5_close_f27 tyX5 tyX5_ok nmX5 rfl (by decide +kernel) ?_
    refine x_ltS (fun S4 => ?_)
    exact x_vret dX5_close_52 rfl
theorem w_X5_valueOf_f72 : Cond.fieldLink yX5_valueOf.cls 72 (TX4 7).1 (TX4 7).2.1 (TX4 7).2.2.1 ∈ uX5_valueOf := List.mem_cons_of_mem _ (wU_r22 _ (List.mem_of_getElem? (i := 2) rfl))
theorem w_X5_valueOf_f69 : Cond.fieldLink yX5_valueOf.cls 69 (TX4 5).1 (TX4 5).2.1 (TX4 5).2.2.1 ∈ uX5_valueOf := List.mem_cons_of_mem _ (wU_r22 _ (List.mem_of_getElem? (i := 1) rfl))
theorem w_X5_valueOf_f66 : Cond.fieldLink yX5_valueOf.cls 66 (TX4 4).1 (TX4 4).2.1 (TX4 4).2.2.1 ∈ uX5_valueOf := List.mem_cons_of_mem _ (wU_r22 _ (List.mem_of_getElem? (i := 0) rfl))
theorem w_X5_valueOf_f63 : Cond.fieldLink yX5_valueOf.cls 63 (TX4 1).1 (TX4 1).2.1 (TX4 1).2.2.1 ∈ uX5_valueOf := List.mem_cons_of_mem _ (wU_r21 _ (List.mem_of_getElem? (i := 23) rfl))
theorem w_X5_valueOf_f58 : Cond.fieldLink yX5_valueOf.cls 58 (TX4 0).1 (TX4 0).2.1 (TX4 0).2.2.1 ∈ uX5_valueOf := List.mem_cons_of_mem _ (wU_r21 _ (List.mem_of_getElem? (i := 22) rfl))
def f_X5_valueOf (p0 : Int32) (p1 : Nat) (p2 : Int32) (S : aSt) : Option (Int32 × aSt) := (if (p0 / (512 : Int32)) = (0 : Int32) then (some ((S.1 (p1) 0), S)) else (if (p0 / (512 : Int32)) = (1 : Int32) then (some ((S.1 (p1) 1), S)) else (if (p0 / (512 : Int32)) = (2 : Int32) then (some ((S.1 (p1) 4), S)) else (if (p0 / (512 : Int32)) = (3 : Int32) then (some ((S.1 (p1) 5), S)) else (if (p0 / (512 : Int32)) = (4 : Int32) then (some ((S.1 (p1) 7), S)) else (some (p2, S)))))))
set_option maxRecDepth 20000 in
set_option maxHeartbeats 4000000 in
theorem m_X5_valueOf {G : aG} (p0 : Int32) (p1 : Nat) (q1 : aTr G p1) (p2 : Int32) (S : aSt) : aMet G yX5_valueOf uX5_valueOf 2 mk_i (f_X5_valueOf p0 p1 p2 S) [.int p0, .ref (p1), .int p2] S := by
  refine x_met (cc := cX5_valueOf) (nL := 3) (ret := (some .int)) (L := [some (.int p0), some (.ref (p1)), some (.int p2)]) (by decide +kernel) rfl (And.intro rfl (And.intro rfl (And.intro rfl trivial))) (Nat.le_of_ble_eq_true rfl) ?_
  unfold f_X5_valueOf
  refine x_iload_n dX5_valueOf_0 rfl rfl ?_
  refine x_sipush (512 : Int32) dX5_valueOf_1 (by decide) ?_
  refine x_idivc dX5_valueOf_4 (by decide) ?_
  refine x_sw (0 : Int32) ?_ (fun hv0 => ?_)
  · refine x_tabIn (off := 35) (tgt := 40) dX5_valueOf_5 (by decide) (by decide) (by decide) (by decide) ?_
    refine x_aload_n dX5_valueOf_40 rfl rfl ?_
    refine x_getI (k := p1) (j := 0) dX5_valueOf_41 q1.1 rfl rfl (Nat.le_of_ble_eq_true rfl) (fun w h => List.mem_cons_of_mem _ (inlX4 w h)) w_X5_valueOf_f58 ?_
    exact x_iret dX5_valueOf_44 rfl
  · refine x_sw (1 : Int32) ?_ (fun hv1 => ?_)
    · refine x_tabIn (off := 40) (tgt := 45) dX5_valueOf_5 (by decide) (by decide) (by decide) (by decide) ?_
      refine x_aload_n dX5_valueOf_45 rfl rfl ?_
      refine x_getI (k := p1) (j := 1) dX5_valueOf_46 q1.1 rfl rfl (Nat.le_of_ble_eq_true rfl) (fun w h => List.mem_cons_of_mem _ (inlX4 w h)) w_X5_valueOf_f63 ?_
      exact x_iret dX5_valueOf_49 rfl
    · refine x_sw (2 : Int32) ?_ (fun hv2 => ?_)
      · refine x_tabIn (off := 45) (tgt := 50) dX5_valueOf_5 (by decide) (by decide) (by decide) (by decide) ?_
        refine x_aload_n dX5_valueOf_50 rfl rfl ?_
        refine x_getI (k := p1) (j := 4) dX5_valueOf_51 q1.1 rfl rfl (Nat.le_of_ble_eq_true rfl) (fun w h => List.mem_cons_of_mem _ (inlX4 w h)) w_X5_valueOf_f66 ?_
        exact x_iret dX5_valueOf_54 rfl
      · refine x_sw (3 : Int32) ?_ (fun hv3 => ?_)
        · refine x_tabIn (off := 50) (tgt := 55) dX5_valueOf_5 (by decide) (by decide) (by decide) (by decide) ?_
          refine x_aload_n dX5_valueOf_55 rfl rfl ?_
          refine x_getI (k := p1) (j := 5) dX5_valueOf_56 q1.1 rfl rfl (Nat.le_of_ble_eq_true rfl) (fun w h => List.mem_cons_of_mem _ (inlX4 w h)) w_X5_valueOf_f69 ?_
          exact x_iret dX5_valueOf_59 rfl
        · refine x_sw (4 : Int32) ?_ (fun hv4 => ?_)
          · refine x_tabIn (off := 55) (tgt := 60) dX5_valueOf_5 (by decide) (by decide) (by decide) (by decide) ?_
            refine x_aload_n dX5_valueOf_60 rfl rfl ?_
            refine x_getI (k := p1) (j := 7) dX5_valueOf_61 q1.1 rfl rfl (Nat.le_of_ble_eq_true rfl) (fun w h => List.mem_cons_of_mem _ (inlX4 w h)) w_X5_valueOf_f72 ?_
            exact x_iret dX5_valueOf_64 rfl
          · refine x_tabOut (tgt := 65) dX5_valueOf_5 (a_out 5 [(0 : Int32), (1 : Int32), (2 : Int32), (3 : Int32), (4 : Int32)] (by decide) (by decide +kernel) (List.forall_mem_cons.mpr ⟨hv0, (List.forall_mem_cons.mpr ⟨hv1, (List.forall_mem_cons.mpr ⟨hv2, (List.forall_mem_cons.mpr ⟨hv3, (List.forall_mem_cons.mpr ⟨hv4, (fun _ h => absurd h List.not_mem_nil)⟩)⟩)⟩)⟩)⟩)) (by decide) ?_
            refine x_iload_n dX5_valueOf_65 rfl rfl ?_
            exact x_iret dX5_valueOf_66 rfl
def f_X5_result_79  (l3 : Int32) (S : aSt) : Option (Int32 × aSt) := (if l3 = 0 then (some ((0 : Int32), S)) else (some ((1 : Int32), S)))
set_option maxRecDepth 20000 in
set_option maxHeartbeats 4000000 in
theorem v_X5_result_79 {G : aG} (l3 : Int32) (S : aSt) : aX G yX5_result cX5_result 4 (some .int) uX5_result 2 mk_i (f_X5_result_79 l3 S) 79 [none, none, none, some (.int l3)] [] S := by
  unfold f_X5_result_79
  refine x_iload_n dX5_result_79 rfl rfl ?_
  refine x_if_eq (tgt := 87) dX5_result_80 (by decide) ?_ ?_
  · refine x_iconst (0 : Int32) dX5_result_87 (by decide) ?_
    exact x_iret dX5_result_88 rfl
  · refine x_iconst (1 : Int32) dX5_result_83 (by decide) ?_
    refine x_goto (tgt := 88) dX5_result_84 (by decide) ?_
    exact x_iret dX5_result_88 rfl
def f_X5_result_78  (s0 : Int32) (S : aSt) : Option (Int32 × aSt) := (f_X5_result_79 s0 S)
set_option maxRecDepth 20000 in
set_option maxHeartbeats 4000000 in
theorem v_X5_result_78 {G : aG} (s0 : Int32) (S : aSt) : aX G yX5_result cX5_result 4 (some .int) uX5_result 2 mk_i (f_X5_result_78 s0 S) 78 [none, none, none, none] [.int s0] S := by
  unfold f_X5_result_78
  refine x_istore_n dX5_result_78 rfl (Nat.le_of_ble_eq_true rfl) rfl ?_
  exact x_le (v_X5_result_79 s0 S) (And.intro rfl trivial)
def f_X5_result_64  (s0 : Int32) (S : aSt) : Option (Int32 × aSt) := (f_X5_result_79 s0 S)
set_option maxRecDepth 20000 in
set_option maxHeartbeats 4000000 in
theorem v_X5_result_64 {G : aG} (s0 : Int32) (S : aSt) : aX G yX5_result cX5_result 4 (some .int) uX5_result 2 mk_i (f_X5_result_64 s0 S) 64 [none, none, none, none] [.int s0] S := by
  unfold f_X5_result_64
  refine x_istore_n dX5_result_64 rfl (Nat.le_of_ble_eq_true rfl) rfl ?_
  refine x_goto (tgt := 79) dX5_result_65 (by decide) ?_
  exact x_le (v_X5_result_79 s0 S) (And.intro rfl trivial)
def f_X5_result_50  (s0 : Int32) (S : aSt) : Option (Int32 × aSt) := (f_X5_result_79 s0 S)
set_option maxRecDepth 20000 in
set_option maxHeartbeats 4000000 in
theorem v_X5_result_50 {G : aG} (s0 : Int32) (S : aSt) : aX G yX5_result cX5_result 4 (some .int) uX5_result 2 mk_i (f_X5_result_50 s0 S) 50 [none, none, none, none] [.int s0] S := by
  unfold f_X5_result_50
  refine x_istore_n dX5_result_50 rfl (Nat.le_of_ble_eq_true rfl) rfl ?_
  refine x_goto (tgt := 79) dX5_result_51 (by decide) ?_
  exact x_le (v_X5_result_79 s0 S) (And.intro rfl trivial)
def f_X5_result (p0 : Int32) (p1 : Int32) (S : aSt) : Option (Int32 × aSt) := (aLt (p0 - p0 / (128 : Int32) * (128 : Int32)) (fun x1 => (if ((p0 - p0 / (512 : Int32) * (512 : Int32)) / (128 : Int32)) = (0 : Int32) then (if x1 ≤ p1 then (f_X5_result_50 (0 : Int32) S) else (f_X5_result_50 (1 : Int32) S)) else (if ((p0 - p0 / (512 : Int32) * (512 : Int32)) / (128 : Int32)) = (1 : Int32) then (if p1 = x1 then (f_X5_result_64 (1 : Int32) S) else (f_X5_result_64 (0 : Int32) S)) else (if p1 ≤ x1 then (f_X5_result_78 (0 : Int32) S) else (f_X5_result_78 (1 : Int32) S))))))
set_option maxRecDepth 20000 in
set_option maxHeartbeats 4000000 in
theorem m_X5_result {G : aG} (p0 : Int32) (p1 : Int32) (S : aSt) : aMet G yX5_result uX5_result 2 mk_i (f_X5_result p0 p1 S) [.int p0, .int p1] S := by
  refine x_met (cc := cX5_result) (nL := 4) (ret := (some .int)) (L := [some (.int p0), some (.int p1), none, none]) (by decide +kernel) rfl (And.intro rfl (And.intro rfl trivial)) (Nat.le_of_ble_eq_true rfl) ?_
  unfold f_X5_result
  refine x_iload_n dX5_result_0 rfl rfl ?_
  refine x_sipush (128 : Int32) dX5_result_1 (by decide) ?_
  refine x_iremc dX5_result_4 (by decide) ?_
  refine x_lti (fun x1 => ?_)
  refine x_istore_n dX5_result_5 rfl (Nat.le_of_ble_eq_true rfl) rfl ?_
  refine x_iload_n dX5_result_6 rfl rfl ?_
  refine x_sipush (512 : Int32) dX5_result_7 (by decide) ?_
  refine x_iremc dX5_result_10 (by decide) ?_
  refine x_sipush (128 : Int32) dX5_result_11 (by decide) ?_
  refine x_idivc dX5_result_14 (by decide) ?_
  refine x_sw (0 : Int32) ?_ (fun hv0 => ?_)
  · refine x_look (off := 25) (tgt := 40) dX5_result_15 (by decide +kernel) (by decide +kernel) (by decide) ?_
    refine x_iload_n dX5_result_40 rfl rfl ?_
    refine x_iload_n dX5_result_41 rfl rfl ?_
    refine x_icmp_ge (tgt := 49) dX5_result_42 (by decide) ?_ ?_
    · refine x_iconst (0 : Int32) dX5_result_49 (by decide) ?_
      exact x_le (v_X5_result_50 (0 : Int32) S) trivial
    · refine x_iconst (1 : Int32) dX5_result_45 (by decide) ?_
      refine x_goto (tgt := 50) dX5_result_46 (by decide) ?_
      exact x_le (v_X5_result_50 (1 : Int32) S) trivial
  · refine x_sw (1 : Int32) ?_ (fun hv1 => ?_)
    · refine x_look (off := 39) (tgt := 54) dX5_result_15 (by decide +kernel) (by decide +kernel) (by decide) ?_
      refine x_iload_n dX5_result_54 rfl rfl ?_
      refine x_iload_n dX5_result_55 rfl rfl ?_
      refine x_icmp_ne (tgt := 63) dX5_result_56 (by decide) ?_ ?_
      · refine x_iconst (0 : Int32) dX5_result_63 (by decide) ?_
        exact x_le (v_X5_result_64 (0 : Int32) S) trivial
      · refine x_iconst (1 : Int32) dX5_result_59 (by decide) ?_
        refine x_goto (tgt := 64) dX5_result_60 (by decide) ?_
        exact x_le (v_X5_result_64 (1 : Int32) S) trivial
    · refine x_look (off := 53) (tgt := 68) dX5_result_15 (by decide +kernel) (a_lookN [(0 : Int32), (1 : Int32)] (by decide +kernel) (List.forall_mem_cons.mpr ⟨hv0, (List.forall_mem_cons.mpr ⟨hv1, (fun _ h => absurd h List.not_mem_nil)⟩)⟩)) (by decide) ?_
      refine x_iload_n dX5_result_68 rfl rfl ?_
      refine x_iload_n dX5_result_69 rfl rfl ?_
      refine x_icmp_le (tgt := 77) dX5_result_70 (by decide) ?_ ?_
      · refine x_iconst (0 : Int32) dX5_result_77 (by decide) ?_
        exact x_le (v_X5_result_78 (0 : Int32) S) trivial
      · refine x_iconst (1 : Int32) dX5_result_73 (by decide) ?_
        refine x_goto (tgt := 78) dX5_result_74 (by decide) ?_
        exact x_le (v_X5_result_78 (1 : Int32) S) trivial
theorem dd_X5_valueOf : yX5_valueOf.cls ≠ "java/lang/invoke/MethodHandle" ∧ yX5_valueOf.cls ≠ "java/lang/invoke/VarHandle" ∧ (parseMethodDescriptor yX5_valueOf.desc).map (fun d => d.parameters.length) = some 3 := by decide +kernel
theorem dd_X5_result : yX5_result.cls ≠ "java/lang/invoke/MethodHandle" ∧ yX5_result.cls ≠ "java/lang/invoke/VarHandle" ∧ (parseMethodDescriptor yX5_result.desc).map (fun d => d.parameters.length) = some 2 := by decide +kernel
theorem w_X5_isMet_f21 : Cond.fieldLink yX5_isMet.cls 21 (TX5 7).1 (TX5 7).2.1 (TX5 7).2.2.1 ∈ uX5_isMet := List.mem_cons_of_mem _ (wU_r3 _ (List.mem_of_getElem? (i := 7) rfl))
theorem g_X5_isMet_50 : GoodIn uX5_isMet (va_wsS yX5_isMet.cls 50 yX5_valueOf uX5_valueOf) := gU_S (wU_r21 _ (List.mem_of_getElem? (i := 19) rfl)) (wU_r21 _ (List.mem_of_getElem? (i := 20) rfl)) (wU_r2 _ (List.mem_of_getElem? (i := 20) rfl)) (wU_r21 _ (List.mem_of_getElem? (i := 21) rfl))
theorem g_X5_isMet_54 : GoodIn uX5_isMet (va_wsS yX5_isMet.cls 54 yX5_result uX5_result) := gU_S (wU_r22 _ (List.mem_of_getElem? (i := 3) rfl)) (wU_r22 _ (List.mem_of_getElem? (i := 4) rfl)) (wU_r2 _ (List.mem_of_getElem? (i := 20) rfl)) (wU_r22 _ (List.mem_of_getElem? (i := 5) rfl))
def f_X5_isMet_140  (l5 : Int32) (S : aSt) : Option (Int32 × aSt) := (if (l5 &&& (1 : Int32)) = (1 : Int32) then (some ((1 : Int32), S)) else (some ((0 : Int32), S)))
set_option maxRecDepth 20000 in
set_option maxHeartbeats 4000000 in
theorem v_X5_isMet_140 {G : aG} (l5 : Int32) (S : aSt) : aX G yX5_isMet cX5_isMet 9 (some .boolean) uX5_isMet 3 mk_i (f_X5_isMet_140 l5 S) 140 [none, none, none, none, none, some (.int l5), none, none, none] [] S := by
  unfold f_X5_isMet_140
  refine x_iload dX5_isMet_140 rfl ?_
  refine x_iconst (1 : Int32) dX5_isMet_142 (by decide) ?_
  refine x_iand dX5_isMet_143 ?_
  refine x_iconst (1 : Int32) dX5_isMet_144 (by decide) ?_
  refine x_icmp_ne (tgt := 152) dX5_isMet_145 (by decide) ?_ ?_
  · refine x_iconst (0 : Int32) dX5_isMet_152 (by decide) ?_
    exact x_zret dX5_isMet_153 rfl rfl
  · refine x_iconst (1 : Int32) dX5_isMet_148 (by decide) ?_
    refine x_goto (tgt := 153) dX5_isMet_149 (by decide) ?_
    exact x_zret dX5_isMet_153 rfl rfl
def f_X5_isMet_134 (r6 : Nat → Int32 → Nat → Int32 → Int32 → Int32 → aSt → Option (Int32 × aSt)) (l0 : Nat) (l2 : Int32) (l3 : Nat) (l4 : Int32) (l5 : Int32) (l6 : Int32) (S : aSt) : Option (Int32 × aSt) := (aLt (l6 + (1 : Int32)) (fun x8 => (r6 (l0) l2 (l3) l4 l5 x8 S)))
set_option maxRecDepth 20000 in
set_option maxHeartbeats 4000000 in
theorem v_X5_isMet_134 {G : aG} (r6 : Nat → Int32 → Nat → Int32 → Int32 → Int32 → aSt → Option (Int32 × aSt)) (hr6 : ∀ (l0 : Nat) (ql0 : aWd G l0) (l2 : Int32) (l3 : Nat) (ql3 : aTr G l3) (l4 : Int32) (l5 : Int32) (l6 : Int32) (S : aSt), aX G yX5_isMet cX5_isMet 9 (some .boolean) uX5_isMet 3 mk_i (r6 l0 l2 l3 l4 l5 l6 S) 6 [some (.ref (l0)), none, some (.int l2), some (.ref (l3)), some (.int l4), some (.int l5), some (.int l6), none, none] [] S) (l0 : Nat) (ql0 : aWd G l0) (l2 : Int32) (l3 : Nat) (ql3 : aTr G l3) (l4 : Int32) (l5 : Int32) (l6 : Int32) (S : aSt) : aX G yX5_isMet cX5_isMet 9 (some .boolean) uX5_isMet 3 mk_i (f_X5_isMet_134 r6 l0 l2 l3 l4 l5 l6 S) 134 [some (.ref (l0)), none, some (.int l2), some (.ref (l3)), some (.int l4), some (.int l5), some (.int l6), none, none] [] S := by
  unfold f_X5_isMet_134
  refine x_iincL (w := (1 : Int32)) dX5_isMet_134 rfl (by decide) (Nat.le_of_ble_eq_true rfl) rfl (fun x8 => ?_)
  refine x_goto (tgt := 6) dX5_isMet_137 (by decide) ?_
  exact x_le (hr6 (l0) ql0 l2 (l3) ql3 l4 l5 x8 S) (And.intro rfl (And.intro rfl (And.intro rfl (And.intro rfl (And.intro rfl (And.intro rfl trivial))))))
def f_X5_isMet_89 (r6 : Nat → Int32 → Nat → Int32 → Int32 → Int32 → aSt → Option (Int32 × aSt)) (l0 : Nat) (l2 : Int32) (l3 : Nat) (l4 : Int32) (l6 : Int32) (s0 : Int32) (S : aSt) : Option (Int32 × aSt) := (f_X5_isMet_134 r6 (l0) l2 (l3) l4 s0 l6 S)
set_option maxRecDepth 20000 in
set_option maxHeartbeats 4000000 in
theorem v_X5_isMet_89 {G : aG} (r6 : Nat → Int32 → Nat → Int32 → Int32 → Int32 → aSt → Option (Int32 × aSt)) (hr6 : ∀ (l0 : Nat) (ql0 : aWd G l0) (l2 : Int32) (l3 : Nat) (ql3 : aTr G l3) (l4 : Int32) (l5 : Int32) (l6 : Int32) (S : aSt), aX G yX5_isMet cX5_isMet 9 (some .boolean) uX5_isMet 3 mk_i (r6 l0 l2 l3 l4 l5 l6 S) 6 [some (.ref (l0)), none, some (.int l2), some (.ref (l3)), some (.int l4), some (.int l5), some (.int l6), none, none] [] S) (l0 : Nat) (ql0 : aWd G l0) (l2 : Int32) (l3 : Nat) (ql3 : aTr G l3) (l4 : Int32) (l6 : Int32) (s0 : Int32) (S : aSt) : aX G yX5_isMet cX5_isMet 9 (some .boolean) uX5_isMet 3 mk_i (f_X5_isMet_89 r6 l0 l2 l3 l4 l6 s0 S) 89 [some (.ref (l0)), none, some (.int l2), some (.ref (l3)), some (.int l4), none, some (.int l6), none, none] [.int s0] S := by
  unfold f_X5_isMet_89
  refine x_istore dX5_isMet_89 (Nat.le_of_ble_eq_true rfl) rfl ?_
  refine x_goto (tgt := 134) dX5_isMet_91 (by decide) ?_
  exact x_le (v_X5_isMet_134 r6 hr6 (l0) ql0 l2 (l3) ql3 l4 s0 l6 S) (And.intro rfl (And.intro rfl (And.intro rfl (And.intro rfl (And.intro rfl (And.intro rfl trivial))))))
def f_X5_isMet_6  : Nat → Nat → Int32 → Nat → Int32 → Int32 → Int32 → aSt → Option (Int32 × aSt)
  | 0, _, _, _, _, _, _, _ => none
  | n + 1, l0, l2, l3, l4, l5, l6, S => (if l2 ≤ l6 then (f_X5_isMet_140 l5 S) else (if (100 : Int32) ≤ l6 then (f_X5_isMet_140 l5 S) else (aLt (l5 &&& (1 : Int32)) (fun x1 => (aLt ((l5).toUInt32 >>> (((1 : Int32)).toUInt32 &&& Int32.toUInt32 31)).toInt32 (fun x2 => (if l6 < 0 ∨ 100 ≤ (l6).toNatClampNeg then none else (if (S.1 (l0 + 4) (l6).toNatClampNeg) = (-3 : Int32) then (aLt (x2 ||| x1) (fun x7 => (f_X5_isMet_134 (fun l0 l2 l3 l4 l5 l6 S => (f_X5_isMet_6 n l0 l2 l3 l4 l5 l6 S)) (l0) l2 (l3) l4 x7 l6 S))) else (if (S.1 (l0 + 4) (l6).toNatClampNeg) = (-2 : Int32) then (if x1 = (1 : Int32) then (f_X5_isMet_89 (fun l0 l2 l3 l4 l5 l6 S => (f_X5_isMet_6 n l0 l2 l3 l4 l5 l6 S)) (l0) l2 (l3) l4 l6 x2 S) else (f_X5_isMet_89 (fun l0 l2 l3 l4 l5 l6 S => (f_X5_isMet_6 n l0 l2 l3 l4 l5 l6 S)) (l0) l2 (l3) l4 l6 (x2 &&& (-2 : Int32)) S)) else (if (S.1 (l0 + 4) (l6).toNatClampNeg) = (-1 : Int32) then (aLt (l5 ^^^ (1 : Int32)) (fun x6 => (f_X5_isMet_134 (fun l0 l2 l3 l4 l5 l6 S => (f_X5_isMet_6 n l0 l2 l3 l4 l5 l6 S)) (l0) l2 (l3) l4 x6 l6 S))) else (if l6 < 0 ∨ 100 ≤ (l6).toNatClampNeg then none else (if l6 < 0 ∨ 100 ≤ (l6).toNatClampNeg then none else (aB (f_X5_valueOf (S.1 (l0 + 4) (l6).toNatClampNeg) (l3) l4 S) (fun r3_ S3 => (aB (f_X5_result (S.1 (l0 + 4) (l6).toNatClampNeg) r3_ S3) (fun r4_ S4 => (aLt ((l5 <<< ((1 : Int32) &&& 31)) ||| r4_) (fun x5 => (f_X5_isMet_134 (fun l0 l2 l3 l4 l5 l6 S => (f_X5_isMet_6 n l0 l2 l3 l4 l5 l6 S)) (l0) l2 (l3) l4 x5 l6 S4)))))))))))))))))))
set_option maxRecDepth 20000 in
set_option maxHeartbeats 4000000 in
theorem v_X5_isMet_6 {G : aG} : ∀ (n : Nat) (l0 : Nat) (ql0 : aWd G l0) (l2 : Int32) (l3 : Nat) (ql3 : aTr G l3) (l4 : Int32) (l5 : Int32) (l6 : Int32) (S : aSt), aX G yX5_isMet cX5_isMet 9 (some .boolean) uX5_isMet 3 mk_i (f_X5_isMet_6 n l0 l2 l3 l4 l5 l6 S) 6 [some (.ref (l0)), none, some (.int l2), some (.ref (l3)), some (.int l4), some (.int l5), some (.int l6), none, none] [] S := by
  intro n
  induction n with
  | zero => intro l0 ql0 l2 l3 ql3 l4 l5 l6 S; exact x_none
  | succ n ih =>
    intro l0 ql0 l2 l3 ql3 l4 l5 l6 S
    unfold f_X5_isMet_6
    refine x_iload dX5_isMet_6 rfl ?_
    refine x_iload_n dX5_isMet_8 rfl rfl ?_
    refine x_icmp_ge (tgt := 140) dX5_isMet_9 (by decide) ?_ ?_
    · exact x_le (v_X5_isMet_140 l5 S) (And.intro rfl trivial)
    · refine x_iload dX5_isMet_12 rfl ?_
      refine x_bipush (100 : Int32) dX5_isMet_14 (by decide) ?_
      refine x_icmp_ge (tgt := 140) dX5_isMet_16 (by decide) ?_ ?_
      · exact x_le (v_X5_isMet_140 l5 S) (And.intro rfl trivial)
      · refine x_iload dX5_isMet_19 rfl ?_
        refine x_iconst (1 : Int32) dX5_isMet_21 (by decide) ?_
        refine x_iand dX5_isMet_22 ?_
        refine x_lti (fun x1 => ?_)
        refine x_istore dX5_isMet_23 (Nat.le_of_ble_eq_true rfl) rfl ?_
        refine x_iload dX5_isMet_25 rfl ?_
        refine x_iconst (1 : Int32) dX5_isMet_27 (by decide) ?_
        refine x_iushr dX5_isMet_28 ?_
        refine x_lti (fun x2 => ?_)
        refine x_istore dX5_isMet_29 (Nat.le_of_ble_eq_true rfl) rfl ?_
        refine x_aload_n dX5_isMet_31 rfl rfl ?_
        refine x_getR (r := l0 + 4) (k := l0) (j := 7) dX5_isMet_32 ql0.1 rfl rfl (Nat.le_of_ble_eq_true rfl) (fun w h => List.mem_cons_of_mem _ (inlX5 w h)) w_X5_isMet_f21 ?_
        refine x_iload dX5_isMet_35 rfl ?_
        refine x_iald dX5_isMet_37 ql0.2.2.2.2 ?_
        refine x_sw (-3 : Int32) ?_ (fun hv0 => ?_)
        · refine x_tabIn (off := 56) (tgt := 94) dX5_isMet_38 (by decide) (by decide) (by decide) (by decide) ?_
          refine x_iload dX5_isMet_94 rfl ?_
          refine x_iload dX5_isMet_96 rfl ?_
          refine x_ior dX5_isMet_98 ?_
          refine x_lti (fun x7 => ?_)
          refine x_istore dX5_isMet_99 (Nat.le_of_ble_eq_true rfl) rfl ?_
          refine x_goto (tgt := 134) dX5_isMet_101 (by decide) ?_
          exact x_le (v_X5_isMet_134 (fun l0 l2 l3 l4 l5 l6 S => (f_X5_isMet_6 n l0 l2 l3 l4 l5 l6 S)) ih (l0) ql0 l2 (l3) ql3 l4 x7 l6 S) (And.intro rfl (And.intro rfl (And.intro rfl (And.intro rfl (And.intro rfl (And.intro rfl trivial))))))
        · refine x_sw (-2 : Int32) ?_ (fun hv1 => ?_)
          · refine x_tabIn (off := 35) (tgt := 73) dX5_isMet_38 (by decide) (by decide) (by decide) (by decide) ?_
            refine x_iload dX5_isMet_73 rfl ?_
            refine x_iconst (1 : Int32) dX5_isMet_75 (by decide) ?_
            refine x_icmp_ne (tgt := 84) dX5_isMet_76 (by decide) ?_ ?_
            · refine x_iload dX5_isMet_84 rfl ?_
              refine x_bipush (-2 : Int32) dX5_isMet_86 (by decide) ?_
              refine x_iand dX5_isMet_88 ?_
              exact x_le (v_X5_isMet_89 (fun l0 l2 l3 l4 l5 l6 S => (f_X5_isMet_6 n l0 l2 l3 l4 l5 l6 S)) ih (l0) ql0 l2 (l3) ql3 l4 l6 (x2 &&& (-2 : Int32)) S) (And.intro rfl (And.intro rfl (And.intro rfl (And.intro rfl (And.intro rfl trivial)))))
            · refine x_iload dX5_isMet_79 rfl ?_
              refine x_goto (tgt := 89) dX5_isMet_81 (by decide) ?_
              exact x_le (v_X5_isMet_89 (fun l0 l2 l3 l4 l5 l6 S => (f_X5_isMet_6 n l0 l2 l3 l4 l5 l6 S)) ih (l0) ql0 l2 (l3) ql3 l4 l6 x2 S) (And.intro rfl (And.intro rfl (And.intro rfl (And.intro rfl (And.intro rfl trivial)))))
          · refine x_sw (-1 : Int32) ?_ (fun hv2 => ?_)
            · refine x_tabIn (off := 26) (tgt := 64) dX5_isMet_38 (by decide) (by decide) (by decide) (by decide) ?_
              refine x_iload dX5_isMet_64 rfl ?_
              refine x_iconst (1 : Int32) dX5_isMet_66 (by decide) ?_
              refine x_ixor dX5_isMet_67 ?_
              refine x_lti (fun x6 => ?_)
              refine x_istore dX5_isMet_68 (Nat.le_of_ble_eq_true rfl) rfl ?_
              refine x_goto (tgt := 134) dX5_isMet_70 (by decide) ?_
              exact x_le (v_X5_isMet_134 (fun l0 l2 l3 l4 l5 l6 S => (f_X5_isMet_6 n l0 l2 l3 l4 l5 l6 S)) ih (l0) ql0 l2 (l3) ql3 l4 x6 l6 S) (And.intro rfl (And.intro rfl (And.intro rfl (And.intro rfl (And.intro rfl (And.intro rfl trivial))))))
            · refine x_tabOut (tgt := 104) dX5_isMet_38 (a_out 3 [(-3 : Int32), (-2 : Int32), (-1 : Int32)] (by decide) (by decide +kernel) (List.forall_mem_cons.mpr ⟨hv0, (List.forall_mem_cons.mpr ⟨hv1, (List.forall_mem_cons.mpr ⟨hv2, (fun _ h => absurd h List.not_mem_nil)⟩)⟩)⟩)) (by decide) ?_
              refine x_iload dX5_isMet_104 rfl ?_
              refine x_iconst (1 : Int32) dX5_isMet_106 (by decide) ?_
              refine x_ishl dX5_isMet_107 ?_
              refine x_aload_n dX5_isMet_108 rfl rfl ?_
              refine x_getR (r := l0 + 4) (k := l0) (j := 7) dX5_isMet_109 ql0.1 rfl rfl (Nat.le_of_ble_eq_true rfl) (fun w h => List.mem_cons_of_mem _ (inlX5 w h)) w_X5_isMet_f21 ?_
              refine x_iload dX5_isMet_112 rfl ?_
              refine x_iald dX5_isMet_114 ql0.2.2.2.2 ?_
              refine x_aload_n dX5_isMet_115 rfl rfl ?_
              refine x_getR (r := l0 + 4) (k := l0) (j := 7) dX5_isMet_116 ql0.1 rfl rfl (Nat.le_of_ble_eq_true rfl) (fun w h => List.mem_cons_of_mem _ (inlX5 w h)) w_X5_isMet_f21 ?_
              refine x_iload dX5_isMet_119 rfl ?_
              refine x_iald dX5_isMet_121 ql0.2.2.2.2 ?_
              refine x_aload_n dX5_isMet_122 rfl rfl ?_
              refine x_iload dX5_isMet_123 rfl ?_
              refine x_b (fun r3_ S3 e3 => ?_)
              refine x_callSi (As := [.int (S.1 (l0 + 4) (l6).toNatClampNeg), .ref (l3), .int l4]) dX5_isMet_125 (aMet_of e3 (m_X5_valueOf (S.1 (l0 + 4) (l6).toNatClampNeg) (l3) ql3 l4 S)) g_X5_isMet_50 rfl dd_X5_valueOf rfl rfl (Nat.le_of_ble_eq_true rfl) (Nat.le_of_ble_eq_true rfl) (Nat.le_of_ble_eq_true rfl) ?_
              refine x_b (fun r4_ S4 e4 => ?_)
              refine x_callSi (As := [.int (S.1 (l0 + 4) (l6).toNatClampNeg), .int r3_]) dX5_isMet_128 (aMet_of e4 (m_X5_result (S.1 (l0 + 4) (l6).toNatClampNeg) r3_ S3)) g_X5_isMet_54 rfl dd_X5_result rfl rfl (Nat.le_of_ble_eq_true rfl) (Nat.le_of_ble_eq_true rfl) (Nat.le_of_ble_eq_true rfl) ?_
              refine x_ior dX5_isMet_131 ?_
              refine x_lti (fun x5 => ?_)
              refine x_istore dX5_isMet_132 (Nat.le_of_ble_eq_true rfl) rfl ?_
              exact x_le (v_X5_isMet_134 (fun l0 l2 l3 l4 l5 l6 S => (f_X5_isMet_6 n l0 l2 l3 l4 l5 l6 S)) ih (l0) ql0 l2 (l3) ql3 l4 x5 l6 S4) (And.intro rfl (And.intro rfl (And.intro rfl (And.intro rfl (And.intro rfl (And.intro rfl trivial))))))
def f_X5_isMet (p0 : Nat) (p1 : Int32) (p2 : Int32) (p3 : Nat) (p4 : Int32) (S : aSt) : Option (Int32 × aSt) := (f_X5_isMet_6 aF (p0) p2 (p3) p4 (0 : Int32) p1 S)
set_option maxRecDepth 20000 in
set_option maxHeartbeats 4000000 in
theorem m_X5_isMet {G : aG} (p0 : Nat) (q0 : aWd G p0) (p1 : Int32) (p2 : Int32) (p3 : Nat) (q3 : aTr G p3) (p4 : Int32) (S : aSt) : aMet G yX5_isMet uX5_isMet 3 mk_i (f_X5_isMet p0 p1 p2 p3 p4 S) [.ref (p0), .int p1, .int p2, .ref (p3), .int p4] S := by
  refine x_met (cc := cX5_isMet) (nL := 9) (ret := (some .boolean)) (L := [some (.ref (p0)), some (.int p1), some (.int p2), some (.ref (p3)), some (.int p4), none, none, none, none]) (by decide +kernel) rfl (And.intro rfl (And.intro rfl (And.intro rfl (And.intro rfl (And.intro rfl trivial))))) (Nat.le_of_ble_eq_true rfl) ?_
  unfold f_X5_isMet
  refine x_iconst (0 : Int32) dX5_isMet_0 (by decide) ?_
  refine x_istore dX5_isMet_1 (Nat.le_of_ble_eq_true rfl) rfl ?_
  refine x_iload_n dX5_isMet_3 rfl rfl ?_
  refine x_istore dX5_isMet_4 (Nat.le_of_ble_eq_true rfl) rfl ?_
  exact x_le (v_X5_isMet_6 aF (p0) q0 p2 (p3) q3 p4 (0 : Int32) p1 S) (And.intro rfl (And.intro rfl (And.intro rfl (And.intro rfl (And.intro rfl (And.intro rfl trivial))))))
theorem dd_X5_isMet : yX5_isMet.cls = RX5 ∧ yX5_isMet.cls ≠ "java/lang/invoke/MethodHandle" ∧ yX5_isMet.cls ≠ "java/lang/invoke/VarHandle" ∧ (parseMethodDescriptor yX5_isMet.desc).map (fun d => d.parameters.length) = some 4 := by decide +kernel
theorem w_X5_total_f27 : Cond.fieldLink yX5_total.cls 27 (TX5 0).1 (TX5 0).2.1 (TX5 0).2.2.1 ∈ uX5_total := List.mem_cons_of_mem _ (wU_r3 _ (List.mem_of_getElem? (i := 12) rfl))
theorem w_X5_total_f9 : Cond.fieldLink yX5_total.cls 9 (TX5 4).1 (TX5 4).2.1 (TX5 4).2.2.1 ∈ uX5_total := List.mem_cons_of_mem _ (wU_r3 _ (List.mem_of_getElem? (i := 4) rfl))
theorem w_X5_total_f18 : Cond.fieldLink yX5_total.cls 18 (TX5 6).1 (TX5 6).2.1 (TX5 6).2.2.1 ∈ uX5_total := List.mem_cons_of_mem _ (wU_r3 _ (List.mem_of_getElem? (i := 6) rfl))
theorem g_X5_total_46 : GoodIn uX5_total (wsV yX5_total.cls 46 RX5 yX5_isMet uX5_isMet) := gU_V (wU_r21 _ (List.mem_of_getElem? (i := 15) rfl)) (wU_r21 _ (List.mem_of_getElem? (i := 16) rfl)) (wU_r21 _ (List.mem_of_getElem? (i := 17) rfl)) (wU_r2 _ (List.mem_of_getElem? (i := 20) rfl)) (wU_r21 _ (List.mem_of_getElem? (i := 18) rfl))
theorem w_X5_total_f15 : Cond.fieldLink yX5_total.cls 15 (TX5 5).1 (TX5 5).2.1 (TX5 5).2.2.1 ∈ uX5_total := List.mem_cons_of_mem _ (wU_r3 _ (List.mem_of_getElem? (i := 5) rfl))
def f_X5_total_59 (r9 : Nat → Int32 → Nat → Int32 → Int32 → Int32 → Int32 → aSt → Option (Int32 × aSt)) (l0 : Nat) (l1 : Int32) (l2 : Nat) (l3 : Int32) (l4 : Int32) (l6 : Int32) (S : aSt) : Option (Int32 × aSt) := (if l6 < 0 ∨ 10 ≤ (l6).toNatClampNeg then none else (aLt (S.1 (l0 + 3) (l6).toNatClampNeg) (fun x3 => (aLt (l6 + (1 : Int32)) (fun x4 => (r9 (l0) l1 (l2) l3 l4 x3 x4 S))))))
set_option maxRecDepth 20000 in
set_option maxHeartbeats 4000000 in
theorem v_X5_total_59 {G : aG} (r9 : Nat → Int32 → Nat → Int32 → Int32 → Int32 → Int32 → aSt → Option (Int32 × aSt)) (hr9 : ∀ (l0 : Nat) (ql0 : aWd G l0) (l1 : Int32) (l2 : Nat) (ql2 : aTr G l2) (l3 : Int32) (l4 : Int32) (l5 : Int32) (l6 : Int32) (S : aSt), aX G yX5_total cX5_total 7 (some .int) uX5_total 4 mk_i (r9 l0 l1 l2 l3 l4 l5 l6 S) 9 [some (.ref (l0)), some (.int l1), some (.ref (l2)), some (.int l3), some (.int l4), some (.int l5), some (.int l6)] [] S) (l0 : Nat) (ql0 : aWd G l0) (l1 : Int32) (l2 : Nat) (ql2 : aTr G l2) (l3 : Int32) (l4 : Int32) (l6 : Int32) (S : aSt) : aX G yX5_total cX5_total 7 (some .int) uX5_total 4 mk_i (f_X5_total_59 r9 l0 l1 l2 l3 l4 l6 S) 59 [some (.ref (l0)), some (.int l1), some (.ref (l2)), some (.int l3), some (.int l4), none, some (.int l6)] [] S := by
  unfold f_X5_total_59
  refine x_aload_n dX5_total_59 rfl rfl ?_
  refine x_getR (r := l0 + 3) (k := l0) (j := 6) dX5_total_60 ql0.1 rfl rfl (Nat.le_of_ble_eq_true rfl) (fun w h => List.mem_cons_of_mem _ (inlX5 w h)) w_X5_total_f18 ?_
  refine x_iload dX5_total_63 rfl ?_
  refine x_iald dX5_total_65 ql0.2.2.2.1 ?_
  refine x_lti (fun x3 => ?_)
  refine x_istore dX5_total_66 (Nat.le_of_ble_eq_true rfl) rfl ?_
  refine x_iincL (w := (1 : Int32)) dX5_total_68 rfl (by decide) (Nat.le_of_ble_eq_true rfl) rfl (fun x4 => ?_)
  refine x_goto (tgt := 9) dX5_total_71 (by decide) ?_
  exact x_le (hr9 (l0) ql0 l1 (l2) ql2 l3 l4 x3 x4 S) (And.intro rfl (And.intro rfl (And.intro rfl (And.intro rfl (And.intro rfl (And.intro rfl (And.intro rfl trivial)))))))
def f_X5_total_9  : Nat → Nat → Int32 → Nat → Int32 → Int32 → Int32 → Int32 → aSt → Option (Int32 × aSt)
  | 0, _, _, _, _, _, _, _, _ => none
  | n + 1, l0, l1, l2, l3, l4, l5, l6, S => (if (S.1 (l0) 0) ≤ l6 then (some (l4, S)) else (if l6 < 0 ∨ 10 ≤ (l6).toNatClampNeg then none else (if (S.1 (l0 + 1) (l6).toNatClampNeg) = l1 then (if l6 < 0 ∨ 10 ≤ (l6).toNatClampNeg then none else (aB (f_X5_isMet (l0) l5 (S.1 (l0 + 3) (l6).toNatClampNeg) (l2) l3 S) (fun r1_ S1 => (if r1_ = 0 then (f_X5_total_59 (fun l0 l1 l2 l3 l4 l5 l6 S => (f_X5_total_9 n l0 l1 l2 l3 l4 l5 l6 S)) (l0) l1 (l2) l3 l4 l6 S1) else (if l6 < 0 ∨ 10 ≤ (l6).toNatClampNeg then none else (aLt (l4 + (S1.1 (l0 + 2) (l6).toNatClampNeg)) (fun x2 => (f_X5_total_59 (fun l0 l1 l2 l3 l4 l5 l6 S => (f_X5_total_9 n l0 l1 l2 l3 l4 l5 l6 S)) (l0) l1 (l2) l3 x2 l6 S1)))))))) else (f_X5_total_59 (fun l0 l1 l2 l3 l4 l5 l6 S => (f_X5_total_9 n l0 l1 l2 l3 l4 l5 l6 S)) (l0) l1 (l2) l3 l4 l6 S))))
set_option maxRecDepth 20000 in
set_option maxHeartbeats 4000000 in
theorem v_X5_total_9 {G : aG} : ∀ (n : Nat) (l0 : Nat) (ql0 : aWd G l0) (l1 : Int32) (l2 : Nat) (ql2 : aTr G l2) (l3 : Int32) (l4 : Int32) (l5 : Int32) (l6 : Int32) (S : aSt), aX G yX5_total cX5_total 7 (some .int) uX5_total 4 mk_i (f_X5_total_9 n l0 l1 l2 l3 l4 l5 l6 S) 9 [some (.ref (l0)), some (.int l1), some (.ref (l2)), some (.int l3), some (.int l4), some (.int l5), some (.int l6)] [] S := by
  intro n
  induction n with
  | zero => intro l0 ql0 l1 l2 ql2 l3 l4 l5 l6 S; exact x_none
  | succ n ih =>
    intro l0 ql0 l1 l2 ql2 l3 l4 l5 l6 S
    unfold f_X5_total_9
    refine x_iload dX5_total_9 rfl ?_
    refine x_aload_n dX5_total_11 rfl rfl ?_
    refine x_getI (k := l0) (j := 0) dX5_total_12 ql0.1 rfl rfl (Nat.le_of_ble_eq_true rfl) (fun w h => List.mem_cons_of_mem _ (inlX5 w h)) w_X5_total_f27 ?_
    refine x_icmp_ge (tgt := 74) dX5_total_15 (by decide) ?_ ?_
    · refine x_iload dX5_total_74 rfl ?_
      exact x_iret dX5_total_76 rfl
    · refine x_aload_n dX5_total_18 rfl rfl ?_
      refine x_getR (r := l0 + 1) (k := l0) (j := 4) dX5_total_19 ql0.1 rfl rfl (Nat.le_of_ble_eq_true rfl) (fun w h => List.mem_cons_of_mem _ (inlX5 w h)) w_X5_total_f9 ?_
      refine x_iload dX5_total_22 rfl ?_
      refine x_iald dX5_total_24 ql0.2.1 ?_
      refine x_iload_n dX5_total_25 rfl rfl ?_
      refine x_icmp_ne (tgt := 59) dX5_total_26 (by decide) ?_ ?_
      · exact x_le (v_X5_total_59 (fun l0 l1 l2 l3 l4 l5 l6 S => (f_X5_total_9 n l0 l1 l2 l3 l4 l5 l6 S)) ih (l0) ql0 l1 (l2) ql2 l3 l4 l6 S) (And.intro rfl (And.intro rfl (And.intro rfl (And.intro rfl (And.intro rfl (And.intro rfl trivial))))))
      · refine x_aload_n dX5_total_29 rfl rfl ?_
        refine x_iload dX5_total_30 rfl ?_
        refine x_aload_n dX5_total_32 rfl rfl ?_
        refine x_getR (r := l0 + 3) (k := l0) (j := 6) dX5_total_33 ql0.1 rfl rfl (Nat.le_of_ble_eq_true rfl) (fun w h => List.mem_cons_of_mem _ (inlX5 w h)) w_X5_total_f18 ?_
        refine x_iload dX5_total_36 rfl ?_
        refine x_iald dX5_total_38 ql0.2.2.2.1 ?_
        refine x_aload_n dX5_total_39 rfl rfl ?_
        refine x_iload_n dX5_total_40 rfl rfl ?_
        refine x_b (fun r1_ S1 e1 => ?_)
        refine x_callVi (As := [.int l5, .int (S.1 (l0 + 3) (l6).toNatClampNeg), .ref (l2), .int l3]) dX5_total_41 (aMet_of e1 (m_X5_isMet (l0) ql0 l5 (S.1 (l0 + 3) (l6).toNatClampNeg) (l2) ql2 l3 S)) g_X5_total_46 rfl ql0.1 rfl dd_X5_isMet rfl rfl (Nat.le_of_ble_eq_true rfl) (Nat.le_of_ble_eq_true rfl) (Nat.le_of_ble_eq_true rfl) ?_
        refine x_if_eq (tgt := 59) dX5_total_44 (by decide) ?_ ?_
        · exact x_le (v_X5_total_59 (fun l0 l1 l2 l3 l4 l5 l6 S => (f_X5_total_9 n l0 l1 l2 l3 l4 l5 l6 S)) ih (l0) ql0 l1 (l2) ql2 l3 l4 l6 S1) (And.intro rfl (And.intro rfl (And.intro rfl (And.intro rfl (And.intro rfl (And.intro rfl trivial))))))
        · refine x_iload dX5_total_47 rfl ?_
          refine x_aload_n dX5_total_49 rfl rfl ?_
          refine x_getR (r := l0 + 2) (k := l0) (j := 5) dX5_total_50 ql0.1 rfl rfl (Nat.le_of_ble_eq_true rfl) (fun w h => List.mem_cons_of_mem _ (inlX5 w h)) w_X5_total_f15 ?_
          refine x_iload dX5_total_53 rfl ?_
          refine x_iald dX5_total_55 ql0.2.2.1 ?_
          refine x_iadd dX5_total_56 ?_
          refine x_lti (fun x2 => ?_)
          refine x_istore dX5_total_57 (Nat.le_of_ble_eq_true rfl) rfl ?_
          exact x_le (v_X5_total_59 (fun l0 l1 l2 l3 l4 l5 l6 S => (f_X5_total_9 n l0 l1 l2 l3 l4 l5 l6 S)) ih (l0) ql0 l1 (l2) ql2 l3 x2 l6 S1) (And.intro rfl (And.intro rfl (And.intro rfl (And.intro rfl (And.intro rfl (And.intro rfl trivial))))))
def f_X5_total (p0 : Nat) (p1 : Int32) (p2 : Nat) (p3 : Int32) (S : aSt) : Option (Int32 × aSt) := (f_X5_total_9 aF (p0) p1 (p2) p3 (0 : Int32) (0 : Int32) (0 : Int32) S)
set_option maxRecDepth 20000 in
set_option maxHeartbeats 4000000 in
theorem m_X5_total {G : aG} (p0 : Nat) (q0 : aWd G p0) (p1 : Int32) (p2 : Nat) (q2 : aTr G p2) (p3 : Int32) (S : aSt) : aMet G yX5_total uX5_total 4 mk_i (f_X5_total p0 p1 p2 p3 S) [.ref (p0), .int p1, .ref (p2), .int p3] S := by
  refine x_met (cc := cX5_total) (nL := 7) (ret := (some .int)) (L := [some (.ref (p0)), some (.int p1), some (.ref (p2)), some (.int p3), none, none, none]) (by decide +kernel) rfl (And.intro rfl (And.intro rfl (And.intro rfl (And.intro rfl trivial)))) (Nat.le_of_ble_eq_true rfl) ?_
  unfold f_X5_total
  refine x_iconst (0 : Int32) dX5_total_0 (by decide) ?_
  refine x_istore dX5_total_1 (Nat.le_of_ble_eq_true rfl) rfl ?_
  refine x_iconst (0 : Int32) dX5_total_3 (by decide) ?_
  refine x_istore dX5_total_4 (Nat.le_of_ble_eq_true rfl) rfl ?_
  refine x_iconst (0 : Int32) dX5_total_6 (by decide) ?_
  refine x_istore dX5_total_7 (Nat.le_of_ble_eq_true rfl) rfl ?_
  exact x_le (v_X5_total_9 aF (p0) q0 p1 (p2) q2 p3 (0 : Int32) (0 : Int32) (0 : Int32) S) (And.intro rfl (And.intro rfl (And.intro rfl (And.intro rfl (And.intro rfl (And.intro rfl (And.intro rfl trivial)))))))
theorem w_X2_find_f47 : Cond.fieldLink yX2_find.cls 47 (TX2 4).1 (TX2 4).2.1 (TX2 4).2.2.1 ∈ uX2_find := List.mem_cons_of_mem _ (wU_r17 _ (List.mem_of_getElem? (i := 15) rfl))
theorem g_X2_find_66 : GoodIn uX2_find uX6_outside := gU_N (wU_r5 _ (List.mem_of_getElem? (i := 23) rfl))
theorem w_X2_find_st_X6_outside : Cond.static yX6_outside ∈ uX2_find := List.mem_cons_of_mem _ (wU_r5 _ (List.mem_of_getElem? (i := 22) rfl))
theorem w_X2_find_in_X6_outside : Cond.initialized yX6_outside.cls ∈ uX2_find := List.mem_cons_of_mem _ (wU_r1 _ (List.mem_of_getElem? (i := 2) rfl))
theorem w_X2_find_f28 : Cond.fieldLink yX2_find.cls 28 (TX2 9).1 (TX2 9).2.1 (TX2 9).2.2.1 ∈ uX2_find := List.mem_cons_of_mem _ (wU_r2 _ (List.mem_of_getElem? (i := 23) rfl))
def f_X2_find (p0 : Nat) (p1 : Int32) (S : aSt) : Option (Option Nat × aSt) := (aB (f_X6_outside p1 ((S.1 (p0) 4) - (1 : Int32)) S) (fun r1_ S1 => (if r1_ = 0 then (if p1 < 0 ∨ 6 ≤ (p1).toNatClampNeg then none else (some (some (p0 + 9 + 2 * (p1).toNatClampNeg), S1))) else (some (none, S1)))))
set_option maxRecDepth 20000 in
set_option maxHeartbeats 4000000 in
theorem m_X2_find {G : aG} (p0 : Nat) (q0 : aGr G p0) (p1 : Int32) (S : aSt) : aMet G yX2_find uX2_find 3 mk_r (f_X2_find p0 p1 S) [.ref (p0), .int p1] S := by
  refine x_met (cc := cX2_find) (nL := 2) (ret := (some (.object "FellTree$Tree"))) (L := [some (.ref (p0)), some (.int p1)]) (by decide +kernel) rfl (And.intro rfl (And.intro rfl trivial)) (Nat.le_of_ble_eq_true rfl) ?_
  unfold f_X2_find
  refine x_iload_n dX2_find_0 rfl rfl ?_
  refine x_aload_n dX2_find_1 rfl rfl ?_
  refine x_getI (k := p0) (j := 4) dX2_find_2 q0.1 rfl rfl (Nat.le_of_ble_eq_true rfl) (fun w h => List.mem_cons_of_mem _ (inlX2 w h)) w_X2_find_f47 ?_
  refine x_iconst (1 : Int32) dX2_find_5 (by decide) ?_
  refine x_isub dX2_find_6 ?_
  refine x_b (fun r1_ S1 e1 => ?_)
  refine x_callNi (As := [.int p1, .int ((S.1 (p0) 4) - (1 : Int32))]) dX2_find_7 (aMet_of e1 (m_X6_outside p1 ((S.1 (p0) 4) - (1 : Int32)) S)) g_X2_find_66 (host := "FellTree") (by decide +kernel) w_X2_find_st_X6_outside w_X2_find_in_X6_outside rfl dd_X6_outside rfl rfl (Nat.le_of_ble_eq_true rfl) (Nat.le_of_ble_eq_true rfl) (Nat.le_of_ble_eq_true rfl) ?_
  refine x_if_eq (tgt := 17) dX2_find_10 (by decide) ?_ ?_
  · refine x_aload_n dX2_find_17 rfl rfl ?_
    refine x_getR (r := p0 + 8) (k := p0) (j := 9) dX2_find_18 q0.1 rfl rfl (Nat.le_of_ble_eq_true rfl) (fun w h => List.mem_cons_of_mem _ (inlX2 w h)) w_X2_find_f28 ?_
    refine x_iload_n dX2_find_21 rfl rfl ?_
    refine x_aald (g := fun j => p0 + 9 + 2 * j) dX2_find_22 q0.2.2.2.2.1 (fun _ => rfl) (fun h2 => ?_)
    exact x_aret dX2_find_23 rfl (Or.inl ⟨_, rfl⟩)
  · refine x_null dX2_find_13 ?_
    refine x_goto (tgt := 23) dX2_find_14 (by decide) ?_
    exact x_aretN dX2_find_23 rfl (Or.inl ⟨_, rfl⟩)
theorem find_tr {G : aG} {g : Nat} {n : Int32} {S S1 : aSt} {a : Nat} (hg : aGr G g) (e : f_X2_find g n S = some (some a, S1)) : aTr G a := by
  unfold f_X2_find f_X6_outside aB at e
  split at e
  · simp at e
  · split at e
    · simp only [Option.bind_some, if_true] at e
      split at e
      · cases e
      · rename_i h
        simp only [Option.some.injEq, Prod.mk.injEq] at e
        rw [← e.1]
        exact hg.2.2.2.2.2 _ (a_lt h)
    · simp at e
theorem w_X2_isTaken_f47 : Cond.fieldLink yX2_isTaken.cls 47 (TX2 4).1 (TX2 4).2.1 (TX2 4).2.2.1 ∈ uX2_isTaken := List.mem_cons_of_mem _ (wU_r17 _ (List.mem_of_getElem? (i := 15) rfl))
theorem w_X2_isTaken_f28 : Cond.fieldLink yX2_isTaken.cls 28 (TX2 9).1 (TX2 9).2.1 (TX2 9).2.2.1 ∈ uX2_isTaken := List.mem_cons_of_mem _ (wU_r2 _ (List.mem_of_getElem? (i := 23) rfl))
theorem w_X2_isTaken_f70 : Cond.fieldLink yX2_isTaken.cls 70 (TX4 3).1 (TX4 3).2.1 (TX4 3).2.2.1 ∈ uX2_isTaken := List.mem_cons_of_mem _ (wU_r17 _ (List.mem_of_getElem? (i := 16) rfl))
def f_X2_isTaken_2  : Nat → Nat → Int32 → Int32 → aSt → Option (Int32 × aSt)
  | 0, _, _, _, _ => none
  | n + 1, l0, l1, l2, S => (if (S.1 (l0) 4) ≤ l2 then (some ((0 : Int32), S)) else (if l2 < 0 ∨ 6 ≤ (l2).toNatClampNeg then none else (if (S.1 (l0 + 9 + 2 * (l2).toNatClampNeg) 3) = l1 then (some ((1 : Int32), S)) else (aLt (l2 + (1 : Int32)) (fun x2 => (f_X2_isTaken_2 n (l0) l1 x2 S))))))
set_option maxRecDepth 20000 in
set_option maxHeartbeats 4000000 in
theorem v_X2_isTaken_2 {G : aG} : ∀ (n : Nat) (l0 : Nat) (ql0 : aGr G l0) (l1 : Int32) (l2 : Int32) (S : aSt), aX G yX2_isTaken cX2_isTaken 3 (some .boolean) uX2_isTaken 2 mk_i (f_X2_isTaken_2 n l0 l1 l2 S) 2 [some (.ref (l0)), some (.int l1), some (.int l2)] [] S := by
  intro n
  induction n with
  | zero => intro l0 ql0 l1 l2 S; exact x_none
  | succ n ih =>
    intro l0 ql0 l1 l2 S
    unfold f_X2_isTaken_2
    refine x_iload_n dX2_isTaken_2 rfl rfl ?_
    refine x_aload_n dX2_isTaken_3 rfl rfl ?_
    refine x_getI (k := l0) (j := 4) dX2_isTaken_4 ql0.1 rfl rfl (Nat.le_of_ble_eq_true rfl) (fun w h => List.mem_cons_of_mem _ (inlX2 w h)) w_X2_isTaken_f47 ?_
    refine x_icmp_ge (tgt := 31) dX2_isTaken_7 (by decide) ?_ ?_
    · refine x_iconst (0 : Int32) dX2_isTaken_31 (by decide) ?_
      exact x_zret dX2_isTaken_32 rfl rfl
    · refine x_aload_n dX2_isTaken_10 rfl rfl ?_
      refine x_getR (r := l0 + 8) (k := l0) (j := 9) dX2_isTaken_11 ql0.1 rfl rfl (Nat.le_of_ble_eq_true rfl) (fun w h => List.mem_cons_of_mem _ (inlX2 w h)) w_X2_isTaken_f28 ?_
      refine x_iload_n dX2_isTaken_14 rfl rfl ?_
      refine x_aald (g := fun j => l0 + 9 + 2 * j) dX2_isTaken_15 ql0.2.2.2.2.1 (fun _ => rfl) (fun h1 => ?_)
      refine x_getI (k := l0 + 9 + 2 * (l2).toNatClampNeg) (j := 3) dX2_isTaken_16 (ql0.2.2.2.2.2 _ (a_lt h1)).1 rfl rfl (Nat.le_of_ble_eq_true rfl) (fun w h => List.mem_cons_of_mem _ (inlX4 w h)) w_X2_isTaken_f70 ?_
      refine x_iload_n dX2_isTaken_19 rfl rfl ?_
      refine x_icmp_ne (tgt := 25) dX2_isTaken_20 (by decide) ?_ ?_
      · refine x_iincL (w := (1 : Int32)) dX2_isTaken_25 rfl (by decide) (Nat.le_of_ble_eq_true rfl) rfl (fun x2 => ?_)
        refine x_goto (tgt := 2) dX2_isTaken_28 (by decide) ?_
        exact x_le (ih (l0) ql0 l1 x2 S) (And.intro rfl (And.intro rfl (And.intro rfl trivial)))
      · refine x_iconst (1 : Int32) dX2_isTaken_23 (by decide) ?_
        exact x_zret dX2_isTaken_24 rfl rfl
def f_X2_isTaken (p0 : Nat) (p1 : Int32) (S : aSt) : Option (Int32 × aSt) := (f_X2_isTaken_2 aF (p0) p1 (0 : Int32) S)
set_option maxRecDepth 20000 in
set_option maxHeartbeats 4000000 in
theorem m_X2_isTaken {G : aG} (p0 : Nat) (q0 : aGr G p0) (p1 : Int32) (S : aSt) : aMet G yX2_isTaken uX2_isTaken 2 mk_i (f_X2_isTaken p0 p1 S) [.ref (p0), .int p1] S := by
  refine x_met (cc := cX2_isTaken) (nL := 3) (ret := (some .boolean)) (L := [some (.ref (p0)), some (.int p1), none]) (by decide +kernel) rfl (And.intro rfl (And.intro rfl trivial)) (Nat.le_of_ble_eq_true rfl) ?_
  unfold f_X2_isTaken
  refine x_iconst (0 : Int32) dX2_isTaken_0 (by decide) ?_
  refine x_istore_n dX2_isTaken_1 rfl (Nat.le_of_ble_eq_true rfl) rfl ?_
  exact x_le (v_X2_isTaken_2 aF (p0) q0 p1 (0 : Int32) S) (And.intro rfl (And.intro rfl (And.intro rfl trivial)))
theorem dd_X6_bitOf : yX6_bitOf.cls ≠ "java/lang/invoke/MethodHandle" ∧ yX6_bitOf.cls ≠ "java/lang/invoke/VarHandle" ∧ (parseMethodDescriptor yX6_bitOf.desc).map (fun d => d.parameters.length) = some 1 := by decide +kernel
theorem w_X2_standingTrees_f47 : Cond.fieldLink yX2_standingTrees.cls 47 (TX2 4).1 (TX2 4).2.1 (TX2 4).2.2.1 ∈ uX2_standingTrees := List.mem_cons_of_mem _ (wU_r17 _ (List.mem_of_getElem? (i := 15) rfl))
theorem w_X2_standingTrees_f28 : Cond.fieldLink yX2_standingTrees.cls 28 (TX2 9).1 (TX2 9).2.1 (TX2 9).2.2.1 ∈ uX2_standingTrees := List.mem_cons_of_mem _ (wU_r2 _ (List.mem_of_getElem? (i := 23) rfl))
theorem w_X2_standingTrees_f73 : Cond.fieldLink yX2_standingTrees.cls 73 (TX4 8).1 (TX4 8).2.1 (TX4 8).2.2.1 ∈ uX2_standingTrees := List.mem_cons_of_mem _ (wU_r24 _ (List.mem_of_getElem? (i := 2) rfl))
theorem g_X2_standingTrees_77 : GoodIn uX2_standingTrees uX6_bitOf := gU_N (wU_r24 _ (List.mem_of_getElem? (i := 4) rfl))
theorem w_X2_standingTrees_st_X6_bitOf : Cond.static yX6_bitOf ∈ uX2_standingTrees := List.mem_cons_of_mem _ (wU_r24 _ (List.mem_of_getElem? (i := 3) rfl))
theorem w_X2_standingTrees_in_X6_bitOf : Cond.initialized yX6_bitOf.cls ∈ uX2_standingTrees := List.mem_cons_of_mem _ (wU_r1 _ (List.mem_of_getElem? (i := 2) rfl))
def f_X2_standingTrees_33 (r4 : Nat → Int32 → Int32 → aSt → Option (Int32 × aSt)) (l0 : Nat) (l2 : Int32) (s0 : Int32) (s1 : Int32) (S : aSt) : Option (Int32 × aSt) := (aLt (s1 ||| s0) (fun x3 => (aLt (l2 + (1 : Int32)) (fun x4 => (r4 (l0) x3 x4 S)))))
set_option maxRecDepth 20000 in
set_option maxHeartbeats 4000000 in
theorem v_X2_standingTrees_33 {G : aG} (r4 : Nat → Int32 → Int32 → aSt → Option (Int32 × aSt)) (hr4 : ∀ (l0 : Nat) (ql0 : aGr G l0) (l1 : Int32) (l2 : Int32) (S : aSt), aX G yX2_standingTrees cX2_standingTrees 3 (some .int) uX2_standingTrees 3 mk_i (r4 l0 l1 l2 S) 4 [some (.ref (l0)), some (.int l1), some (.int l2)] [] S) (l0 : Nat) (ql0 : aGr G l0) (l2 : Int32) (s0 : Int32) (s1 : Int32) (S : aSt) : aX G yX2_standingTrees cX2_standingTrees 3 (some .int) uX2_standingTrees 3 mk_i (f_X2_standingTrees_33 r4 l0 l2 s0 s1 S) 33 [some (.ref (l0)), none, some (.int l2)] [.int s0, .int s1] S := by
  unfold f_X2_standingTrees_33
  refine x_ior dX2_standingTrees_33 ?_
  refine x_lti (fun x3 => ?_)
  refine x_istore_n dX2_standingTrees_34 rfl (Nat.le_of_ble_eq_true rfl) rfl ?_
  refine x_iincL (w := (1 : Int32)) dX2_standingTrees_35 rfl (by decide) (Nat.le_of_ble_eq_true rfl) rfl (fun x4 => ?_)
  refine x_goto (tgt := 4) dX2_standingTrees_38 (by decide) ?_
  exact x_le (hr4 (l0) ql0 x3 x4 S) (And.intro rfl (And.intro rfl (And.intro rfl trivial)))
def f_X2_standingTrees_4  : Nat → Nat → Int32 → Int32 → aSt → Option (Int32 × aSt)
  | 0, _, _, _, _ => none
  | n + 1, l0, l1, l2, S => (if (S.1 (l0) 4) ≤ l2 then (some (l1, S)) else (if l2 < 0 ∨ 6 ≤ (l2).toNatClampNeg then none else (if (S.1 (l0 + 9 + 2 * (l2).toNatClampNeg) 8) = 0 then (f_X2_standingTrees_33 (fun l0 l1 l2 S => (f_X2_standingTrees_4 n l0 l1 l2 S)) (l0) l2 (0 : Int32) l1 S) else (aB (f_X6_bitOf l2 S) (fun r2_ S2 => (f_X2_standingTrees_33 (fun l0 l1 l2 S => (f_X2_standingTrees_4 n l0 l1 l2 S)) (l0) l2 r2_ l1 S2))))))
set_option maxRecDepth 20000 in
set_option maxHeartbeats 4000000 in
theorem v_X2_standingTrees_4 {G : aG} : ∀ (n : Nat) (l0 : Nat) (ql0 : aGr G l0) (l1 : Int32) (l2 : Int32) (S : aSt), aX G yX2_standingTrees cX2_standingTrees 3 (some .int) uX2_standingTrees 3 mk_i (f_X2_standingTrees_4 n l0 l1 l2 S) 4 [some (.ref (l0)), some (.int l1), some (.int l2)] [] S := by
  intro n
  induction n with
  | zero => intro l0 ql0 l1 l2 S; exact x_none
  | succ n ih =>
    intro l0 ql0 l1 l2 S
    unfold f_X2_standingTrees_4
    refine x_iload_n dX2_standingTrees_4 rfl rfl ?_
    refine x_aload_n dX2_standingTrees_5 rfl rfl ?_
    refine x_getI (k := l0) (j := 4) dX2_standingTrees_6 ql0.1 rfl rfl (Nat.le_of_ble_eq_true rfl) (fun w h => List.mem_cons_of_mem _ (inlX2 w h)) w_X2_standingTrees_f47 ?_
    refine x_icmp_ge (tgt := 41) dX2_standingTrees_9 (by decide) ?_ ?_
    · refine x_iload_n dX2_standingTrees_41 rfl rfl ?_
      exact x_iret dX2_standingTrees_42 rfl
    · refine x_iload_n dX2_standingTrees_12 rfl rfl ?_
      refine x_aload_n dX2_standingTrees_13 rfl rfl ?_
      refine x_getR (r := l0 + 8) (k := l0) (j := 9) dX2_standingTrees_14 ql0.1 rfl rfl (Nat.le_of_ble_eq_true rfl) (fun w h => List.mem_cons_of_mem _ (inlX2 w h)) w_X2_standingTrees_f28 ?_
      refine x_iload_n dX2_standingTrees_17 rfl rfl ?_
      refine x_aald (g := fun j => l0 + 9 + 2 * j) dX2_standingTrees_18 ql0.2.2.2.2.1 (fun _ => rfl) (fun h1 => ?_)
      refine x_getI (k := l0 + 9 + 2 * (l2).toNatClampNeg) (j := 8) dX2_standingTrees_19 (ql0.2.2.2.2.2 _ (a_lt h1)).1 rfl rfl (Nat.le_of_ble_eq_true rfl) (fun w h => List.mem_cons_of_mem _ (inlX4 w h)) w_X2_standingTrees_f73 ?_
      refine x_if_eq (tgt := 32) dX2_standingTrees_22 (by decide) ?_ ?_
      · refine x_iconst (0 : Int32) dX2_standingTrees_32 (by decide) ?_
        exact x_le (v_X2_standingTrees_33 (fun l0 l1 l2 S => (f_X2_standingTrees_4 n l0 l1 l2 S)) ih (l0) ql0 l2 (0 : Int32) l1 S) (And.intro rfl (And.intro rfl trivial))
      · refine x_iload_n dX2_standingTrees_25 rfl rfl ?_
        refine x_b (fun r2_ S2 e2 => ?_)
        refine x_callNi (As := [.int l2]) dX2_standingTrees_26 (aMet_of e2 (m_X6_bitOf l2 S)) g_X2_standingTrees_77 (host := "FellTree") (by decide +kernel) w_X2_standingTrees_st_X6_bitOf w_X2_standingTrees_in_X6_bitOf rfl dd_X6_bitOf rfl rfl (Nat.le_of_ble_eq_true rfl) (Nat.le_of_ble_eq_true rfl) (Nat.le_of_ble_eq_true rfl) ?_
        refine x_goto (tgt := 33) dX2_standingTrees_29 (by decide) ?_
        exact x_le (v_X2_standingTrees_33 (fun l0 l1 l2 S => (f_X2_standingTrees_4 n l0 l1 l2 S)) ih (l0) ql0 l2 r2_ l1 S2) (And.intro rfl (And.intro rfl trivial))
def f_X2_standingTrees (p0 : Nat) (S : aSt) : Option (Int32 × aSt) := (f_X2_standingTrees_4 aF (p0) (0 : Int32) (0 : Int32) S)
set_option maxRecDepth 20000 in
set_option maxHeartbeats 4000000 in
theorem m_X2_standingTrees {G : aG} (p0 : Nat) (q0 : aGr G p0) (S : aSt) : aMet G yX2_standingTrees uX2_standingTrees 3 mk_i (f_X2_standingTrees p0 S) [.ref (p0)] S := by
  refine x_met (cc := cX2_standingTrees) (nL := 3) (ret := (some .int)) (L := [some (.ref (p0)), none, none]) (by decide +kernel) rfl (And.intro rfl trivial) (Nat.le_of_ble_eq_true rfl) ?_
  unfold f_X2_standingTrees
  refine x_iconst (0 : Int32) dX2_standingTrees_0 (by decide) ?_
  refine x_istore_n dX2_standingTrees_1 rfl (Nat.le_of_ble_eq_true rfl) rfl ?_
  refine x_iconst (0 : Int32) dX2_standingTrees_2 (by decide) ?_
  refine x_istore_n dX2_standingTrees_3 rfl (Nat.le_of_ble_eq_true rfl) rfl ?_
  exact x_le (v_X2_standingTrees_4 aF (p0) q0 (0 : Int32) (0 : Int32) S) (And.intro rfl (And.intro rfl (And.intro rfl trivial)))
theorem w_X2_standingPlaces_f47 : Cond.fieldLink yX2_standingPlaces.cls 47 (TX2 4).1 (TX2 4).2.1 (TX2 4).2.2.1 ∈ uX2_standingPlaces := List.mem_cons_of_mem _ (wU_r17 _ (List.mem_of_getElem? (i := 15) rfl))
theorem w_X2_standingPlaces_f28 : Cond.fieldLink yX2_standingPlaces.cls 28 (TX2 9).1 (TX2 9).2.1 (TX2 9).2.2.1 ∈ uX2_standingPlaces := List.mem_cons_of_mem _ (wU_r2 _ (List.mem_of_getElem? (i := 23) rfl))
theorem w_X2_standingPlaces_f73 : Cond.fieldLink yX2_standingPlaces.cls 73 (TX4 8).1 (TX4 8).2.1 (TX4 8).2.2.1 ∈ uX2_standingPlaces := List.mem_cons_of_mem _ (wU_r24 _ (List.mem_of_getElem? (i := 2) rfl))
theorem w_X2_standingPlaces_f70 : Cond.fieldLink yX2_standingPlaces.cls 70 (TX4 3).1 (TX4 3).2.1 (TX4 3).2.2.1 ∈ uX2_standingPlaces := List.mem_cons_of_mem _ (wU_r17 _ (List.mem_of_getElem? (i := 16) rfl))
def f_X2_standingPlaces_40 (r4 : Nat → Int64 → Int32 → aSt → Option (Int64 × aSt)) (l0 : Nat) (l3 : Int32) (s0 : Int64) (s1 : Int64) (S : aSt) : Option (Int64 × aSt) := (aLt (s1 ||| s0) (fun x3 => (aLt (l3 + (1 : Int32)) (fun x4 => (r4 (l0) x3 x4 S)))))
set_option maxRecDepth 20000 in
set_option maxHeartbeats 4000000 in
theorem v_X2_standingPlaces_40 {G : aG} (r4 : Nat → Int64 → Int32 → aSt → Option (Int64 × aSt)) (hr4 : ∀ (l0 : Nat) (ql0 : aGr G l0) (l1 : Int64) (l3 : Int32) (S : aSt), aX G yX2_standingPlaces cX2_standingPlaces 4 (some .long) uX2_standingPlaces 2 mk_l (r4 l0 l1 l3 S) 4 [some (.ref (l0)), some (.long l1), none, some (.int l3)] [] S) (l0 : Nat) (ql0 : aGr G l0) (l3 : Int32) (s0 : Int64) (s1 : Int64) (S : aSt) : aX G yX2_standingPlaces cX2_standingPlaces 4 (some .long) uX2_standingPlaces 2 mk_l (f_X2_standingPlaces_40 r4 l0 l3 s0 s1 S) 40 [some (.ref (l0)), none, none, some (.int l3)] [.long s0, .long s1] S := by
  unfold f_X2_standingPlaces_40
  refine x_lor dX2_standingPlaces_40 ?_
  refine x_ltj (fun x3 => ?_)
  refine x_lstore_n dX2_standingPlaces_41 rfl (Nat.le_of_ble_eq_true rfl) rfl ?_
  refine x_iincL (w := (1 : Int32)) dX2_standingPlaces_42 rfl (by decide) (Nat.le_of_ble_eq_true rfl) rfl (fun x4 => ?_)
  refine x_goto (tgt := 4) dX2_standingPlaces_45 (by decide) ?_
  exact x_le (hr4 (l0) ql0 x3 x4 S) (And.intro rfl (And.intro rfl (And.intro rfl trivial)))
def f_X2_standingPlaces_4  : Nat → Nat → Int64 → Int32 → aSt → Option (Int64 × aSt)
  | 0, _, _, _, _ => none
  | n + 1, l0, l1, l3, S => (if (S.1 (l0) 4) ≤ l3 then (some (l1, S)) else (if l3 < 0 ∨ 6 ≤ (l3).toNatClampNeg then none else (if (S.1 (l0 + 9 + 2 * (l3).toNatClampNeg) 8) = 0 then (f_X2_standingPlaces_40 (fun l0 l1 l3 S => (f_X2_standingPlaces_4 n l0 l1 l3 S)) (l0) l3 (0 : Int64) l1 S) else (if l3 < 0 ∨ 6 ≤ (l3).toNatClampNeg then none else (f_X2_standingPlaces_40 (fun l0 l1 l3 S => (f_X2_standingPlaces_4 n l0 l1 l3 S)) (l0) l3 ((1 : Int64) <<< (((S.1 (l0 + 9 + 2 * (l3).toNatClampNeg) 3)).toInt64 &&& 63)) l1 S)))))
set_option maxRecDepth 20000 in
set_option maxHeartbeats 4000000 in
theorem v_X2_standingPlaces_4 {G : aG} : ∀ (n : Nat) (l0 : Nat) (ql0 : aGr G l0) (l1 : Int64) (l3 : Int32) (S : aSt), aX G yX2_standingPlaces cX2_standingPlaces 4 (some .long) uX2_standingPlaces 2 mk_l (f_X2_standingPlaces_4 n l0 l1 l3 S) 4 [some (.ref (l0)), some (.long l1), none, some (.int l3)] [] S := by
  intro n
  induction n with
  | zero => intro l0 ql0 l1 l3 S; exact x_none
  | succ n ih =>
    intro l0 ql0 l1 l3 S
    unfold f_X2_standingPlaces_4
    refine x_iload_n dX2_standingPlaces_4 rfl rfl ?_
    refine x_aload_n dX2_standingPlaces_5 rfl rfl ?_
    refine x_getI (k := l0) (j := 4) dX2_standingPlaces_6 ql0.1 rfl rfl (Nat.le_of_ble_eq_true rfl) (fun w h => List.mem_cons_of_mem _ (inlX2 w h)) w_X2_standingPlaces_f47 ?_
    refine x_icmp_ge (tgt := 48) dX2_standingPlaces_9 (by decide) ?_ ?_
    · refine x_lload_n dX2_standingPlaces_48 rfl rfl ?_
      exact x_lret dX2_standingPlaces_49 rfl
    · refine x_lload_n dX2_standingPlaces_12 rfl rfl ?_
      refine x_aload_n dX2_standingPlaces_13 rfl rfl ?_
      refine x_getR (r := l0 + 8) (k := l0) (j := 9) dX2_standingPlaces_14 ql0.1 rfl rfl (Nat.le_of_ble_eq_true rfl) (fun w h => List.mem_cons_of_mem _ (inlX2 w h)) w_X2_standingPlaces_f28 ?_
      refine x_iload_n dX2_standingPlaces_17 rfl rfl ?_
      refine x_aald (g := fun j => l0 + 9 + 2 * j) dX2_standingPlaces_18 ql0.2.2.2.2.1 (fun _ => rfl) (fun h1 => ?_)
      refine x_getI (k := l0 + 9 + 2 * (l3).toNatClampNeg) (j := 8) dX2_standingPlaces_19 (ql0.2.2.2.2.2 _ (a_lt h1)).1 rfl rfl (Nat.le_of_ble_eq_true rfl) (fun w h => List.mem_cons_of_mem _ (inlX4 w h)) w_X2_standingPlaces_f73 ?_
      refine x_if_eq (tgt := 39) dX2_standingPlaces_22 (by decide) ?_ ?_
      · refine x_lconst (0 : Int64) dX2_standingPlaces_39 (by decide) ?_
        exact x_le (v_X2_standingPlaces_40 (fun l0 l1 l3 S => (f_X2_standingPlaces_4 n l0 l1 l3 S)) ih (l0) ql0 l3 (0 : Int64) l1 S) (And.intro rfl (And.intro rfl trivial))
      · refine x_lconst (1 : Int64) dX2_standingPlaces_25 (by decide) ?_
        refine x_aload_n dX2_standingPlaces_26 rfl rfl ?_
        refine x_getR (r := l0 + 8) (k := l0) (j := 9) dX2_standingPlaces_27 ql0.1 rfl rfl (Nat.le_of_ble_eq_true rfl) (fun w h => List.mem_cons_of_mem _ (inlX2 w h)) w_X2_standingPlaces_f28 ?_
        refine x_iload_n dX2_standingPlaces_30 rfl rfl ?_
        refine x_aald (g := fun j => l0 + 9 + 2 * j) dX2_standingPlaces_31 ql0.2.2.2.2.1 (fun _ => rfl) (fun h2 => ?_)
        refine x_getI (k := l0 + 9 + 2 * (l3).toNatClampNeg) (j := 3) dX2_standingPlaces_32 (ql0.2.2.2.2.2 _ (a_lt h2)).1 rfl rfl (Nat.le_of_ble_eq_true rfl) (fun w h => List.mem_cons_of_mem _ (inlX4 w h)) w_X2_standingPlaces_f70 ?_
        refine x_lshl dX2_standingPlaces_35 ?_
        refine x_goto (tgt := 40) dX2_standingPlaces_36 (by decide) ?_
        exact x_le (v_X2_standingPlaces_40 (fun l0 l1 l3 S => (f_X2_standingPlaces_4 n l0 l1 l3 S)) ih (l0) ql0 l3 ((1 : Int64) <<< (((S.1 (l0 + 9 + 2 * (l3).toNatClampNeg) 3)).toInt64 &&& 63)) l1 S) (And.intro rfl (And.intro rfl trivial))
def f_X2_standingPlaces (p0 : Nat) (S : aSt) : Option (Int64 × aSt) := (f_X2_standingPlaces_4 aF (p0) (0 : Int64) (0 : Int32) S)
set_option maxRecDepth 20000 in
set_option maxHeartbeats 4000000 in
theorem m_X2_standingPlaces {G : aG} (p0 : Nat) (q0 : aGr G p0) (S : aSt) : aMet G yX2_standingPlaces uX2_standingPlaces 2 mk_l (f_X2_standingPlaces p0 S) [.ref (p0)] S := by
  refine x_met (cc := cX2_standingPlaces) (nL := 4) (ret := (some .long)) (L := [some (.ref (p0)), none, none, none]) (by decide +kernel) rfl (And.intro rfl trivial) (Nat.le_of_ble_eq_true rfl) ?_
  unfold f_X2_standingPlaces
  refine x_lconst (0 : Int64) dX2_standingPlaces_0 (by decide) ?_
  refine x_lstore_n dX2_standingPlaces_1 rfl (Nat.le_of_ble_eq_true rfl) rfl ?_
  refine x_iconst (0 : Int32) dX2_standingPlaces_2 (by decide) ?_
  refine x_istore_n dX2_standingPlaces_3 rfl (Nat.le_of_ble_eq_true rfl) rfl ?_
  exact x_le (v_X2_standingPlaces_4 aF (p0) q0 (0 : Int64) (0 : Int32) S) (And.intro rfl (And.intro rfl (And.intro rfl trivial)))
theorem w_X2_whichOn_f47 : Cond.fieldLink yX2_whichOn.cls 47 (TX2 4).1 (TX2 4).2.1 (TX2 4).2.2.1 ∈ uX2_whichOn := List.mem_cons_of_mem _ (wU_r17 _ (List.mem_of_getElem? (i := 15) rfl))
theorem g_X2_whichOn_77 : GoodIn uX2_whichOn uX6_bitOf := gU_N (wU_r24 _ (List.mem_of_getElem? (i := 4) rfl))
theorem w_X2_whichOn_st_X6_bitOf : Cond.static yX6_bitOf ∈ uX2_whichOn := List.mem_cons_of_mem _ (wU_r24 _ (List.mem_of_getElem? (i := 3) rfl))
theorem w_X2_whichOn_in_X6_bitOf : Cond.initialized yX6_bitOf.cls ∈ uX2_whichOn := List.mem_cons_of_mem _ (wU_r1 _ (List.mem_of_getElem? (i := 2) rfl))
theorem w_X2_whichOn_f28 : Cond.fieldLink yX2_whichOn.cls 28 (TX2 9).1 (TX2 9).2.1 (TX2 9).2.2.1 ∈ uX2_whichOn := List.mem_cons_of_mem _ (wU_r2 _ (List.mem_of_getElem? (i := 23) rfl))
theorem w_X2_whichOn_f70 : Cond.fieldLink yX2_whichOn.cls 70 (TX4 3).1 (TX4 3).2.1 (TX4 3).2.2.1 ∈ uX2_whichOn := List.mem_cons_of_mem _ (wU_r17 _ (List.mem_of_getElem? (i := 16) rfl))
def f_X2_whichOn_34 (r2 : Nat → Int32 → Int32 → Int32 → aSt → Option (Int32 × aSt)) (l0 : Nat) (l1 : Int32) (l2 : Int32) (l3 : Int32) (S : aSt) : Option (Int32 × aSt) := (aLt (l3 + (1 : Int32)) (fun x3 => (r2 (l0) l1 l2 x3 S)))
set_option maxRecDepth 20000 in
set_option maxHeartbeats 4000000 in
theorem v_X2_whichOn_34 {G : aG} (r2 : Nat → Int32 → Int32 → Int32 → aSt → Option (Int32 × aSt)) (hr2 : ∀ (l0 : Nat) (ql0 : aGr G l0) (l1 : Int32) (l2 : Int32) (l3 : Int32) (S : aSt), aX G yX2_whichOn cX2_whichOn 4 (some .int) uX2_whichOn 3 mk_i (r2 l0 l1 l2 l3 S) 2 [some (.ref (l0)), some (.int l1), some (.int l2), some (.int l3)] [] S) (l0 : Nat) (ql0 : aGr G l0) (l1 : Int32) (l2 : Int32) (l3 : Int32) (S : aSt) : aX G yX2_whichOn cX2_whichOn 4 (some .int) uX2_whichOn 3 mk_i (f_X2_whichOn_34 r2 l0 l1 l2 l3 S) 34 [some (.ref (l0)), some (.int l1), some (.int l2), some (.int l3)] [] S := by
  unfold f_X2_whichOn_34
  refine x_iincL (w := (1 : Int32)) dX2_whichOn_34 rfl (by decide) (Nat.le_of_ble_eq_true rfl) rfl (fun x3 => ?_)
  refine x_goto (tgt := 2) dX2_whichOn_37 (by decide) ?_
  exact x_le (hr2 (l0) ql0 l1 l2 x3 S) (And.intro rfl (And.intro rfl (And.intro rfl (And.intro rfl trivial))))
def f_X2_whichOn_2  : Nat → Nat → Int32 → Int32 → Int32 → aSt → Option (Int32 × aSt)
  | 0, _, _, _, _, _ => none
  | n + 1, l0, l1, l2, l3, S => (if (S.1 (l0) 4) ≤ l3 then (some ((-5 : Int32), S)) else (aB (f_X6_bitOf l3 S) (fun r1_ S1 => (if (l2 &&& r1_) = 0 then (f_X2_whichOn_34 (fun l0 l1 l2 l3 S => (f_X2_whichOn_2 n l0 l1 l2 l3 S)) (l0) l1 l2 l3 S1) else (if l3 < 0 ∨ 6 ≤ (l3).toNatClampNeg then none else (if (S1.1 (l0 + 9 + 2 * (l3).toNatClampNeg) 3) = l1 then (some (l3, S1)) else (f_X2_whichOn_34 (fun l0 l1 l2 l3 S => (f_X2_whichOn_2 n l0 l1 l2 l3 S)) (l0) l1 l2 l3 S1)))))))
set_option maxRecDepth 20000 in
set_option maxHeartbeats 4000000 in
theorem v_X2_whichOn_2 {G : aG} : ∀ (n : Nat) (l0 : Nat) (ql0 : aGr G l0) (l1 : Int32) (l2 : Int32) (l3 : Int32) (S : aSt), aX G yX2_whichOn cX2_whichOn 4 (some .int) uX2_whichOn 3 mk_i (f_X2_whichOn_2 n l0 l1 l2 l3 S) 2 [some (.ref (l0)), some (.int l1), some (.int l2), some (.int l3)] [] S := by
  intro n
  induction n with
  | zero => intro l0 ql0 l1 l2 l3 S; exact x_none
  | succ n ih =>
    intro l0 ql0 l1 l2 l3 S
    unfold f_X2_whichOn_2
    refine x_iload_n dX2_whichOn_2 rfl rfl ?_
    refine x_aload_n dX2_whichOn_3 rfl rfl ?_
    refine x_getI (k := l0) (j := 4) dX2_whichOn_4 ql0.1 rfl rfl (Nat.le_of_ble_eq_true rfl) (fun w h => List.mem_cons_of_mem _ (inlX2 w h)) w_X2_whichOn_f47 ?_
    refine x_icmp_ge (tgt := 40) dX2_whichOn_7 (by decide) ?_ ?_
    · refine x_bipush (-5 : Int32) dX2_whichOn_40 (by decide) ?_
      exact x_iret dX2_whichOn_42 rfl
    · refine x_iload_n dX2_whichOn_10 rfl rfl ?_
      refine x_iload_n dX2_whichOn_11 rfl rfl ?_
      refine x_b (fun r1_ S1 e1 => ?_)
      refine x_callNi (As := [.int l3]) dX2_whichOn_12 (aMet_of e1 (m_X6_bitOf l3 S)) g_X2_whichOn_77 (host := "FellTree") (by decide +kernel) w_X2_whichOn_st_X6_bitOf w_X2_whichOn_in_X6_bitOf rfl dd_X6_bitOf rfl rfl (Nat.le_of_ble_eq_true rfl) (Nat.le_of_ble_eq_true rfl) (Nat.le_of_ble_eq_true rfl) ?_
      refine x_iand dX2_whichOn_15 ?_
      refine x_if_eq (tgt := 34) dX2_whichOn_16 (by decide) ?_ ?_
      · exact x_le (v_X2_whichOn_34 (fun l0 l1 l2 l3 S => (f_X2_whichOn_2 n l0 l1 l2 l3 S)) ih (l0) ql0 l1 l2 l3 S1) (And.intro rfl (And.intro rfl (And.intro rfl (And.intro rfl trivial))))
      · refine x_aload_n dX2_whichOn_19 rfl rfl ?_
        refine x_getR (r := l0 + 8) (k := l0) (j := 9) dX2_whichOn_20 ql0.1 rfl rfl (Nat.le_of_ble_eq_true rfl) (fun w h => List.mem_cons_of_mem _ (inlX2 w h)) w_X2_whichOn_f28 ?_
        refine x_iload_n dX2_whichOn_23 rfl rfl ?_
        refine x_aald (g := fun j => l0 + 9 + 2 * j) dX2_whichOn_24 ql0.2.2.2.2.1 (fun _ => rfl) (fun h2 => ?_)
        refine x_getI (k := l0 + 9 + 2 * (l3).toNatClampNeg) (j := 3) dX2_whichOn_25 (ql0.2.2.2.2.2 _ (a_lt h2)).1 rfl rfl (Nat.le_of_ble_eq_true rfl) (fun w h => List.mem_cons_of_mem _ (inlX4 w h)) w_X2_whichOn_f70 ?_
        refine x_iload_n dX2_whichOn_28 rfl rfl ?_
        refine x_icmp_ne (tgt := 34) dX2_whichOn_29 (by decide) ?_ ?_
        · exact x_le (v_X2_whichOn_34 (fun l0 l1 l2 l3 S => (f_X2_whichOn_2 n l0 l1 l2 l3 S)) ih (l0) ql0 l1 l2 l3 S1) (And.intro rfl (And.intro rfl (And.intro rfl (And.intro rfl trivial))))
        · refine x_iload_n dX2_whichOn_32 rfl rfl ?_
          exact x_iret dX2_whichOn_33 rfl
def f_X2_whichOn (p0 : Nat) (p1 : Int32) (p2 : Int32) (S : aSt) : Option (Int32 × aSt) := (f_X2_whichOn_2 aF (p0) p1 p2 (0 : Int32) S)
set_option maxRecDepth 20000 in
set_option maxHeartbeats 4000000 in
theorem m_X2_whichOn {G : aG} (p0 : Nat) (q0 : aGr G p0) (p1 : Int32) (p2 : Int32) (S : aSt) : aMet G yX2_whichOn uX2_whichOn 3 mk_i (f_X2_whichOn p0 p1 p2 S) [.ref (p0), .int p1, .int p2] S := by
  refine x_met (cc := cX2_whichOn) (nL := 4) (ret := (some .int)) (L := [some (.ref (p0)), some (.int p1), some (.int p2), none]) (by decide +kernel) rfl (And.intro rfl (And.intro rfl (And.intro rfl trivial))) (Nat.le_of_ble_eq_true rfl) ?_
  unfold f_X2_whichOn
  refine x_iconst (0 : Int32) dX2_whichOn_0 (by decide) ?_
  refine x_istore_n dX2_whichOn_1 rfl (Nat.le_of_ble_eq_true rfl) rfl ?_
  exact x_le (v_X2_whichOn_2 aF (p0) q0 p1 p2 (0 : Int32) S) (And.intro rfl (And.intro rfl (And.intro rfl (And.intro rfl trivial))))
theorem w_X2_weightOf_f37 : Cond.fieldLink yX2_weightOf.cls 37 (TX2 1).1 (TX2 1).2.1 (TX2 1).2.2.1 ∈ uX2_weightOf := List.mem_cons_of_mem _ (wU_r30 _ (List.mem_of_getElem? (i := 18) rfl))
def f_X2_weightOf (p0 : Nat) (p1 : Int32) (S : aSt) : Option (Int32 × aSt) := (if p1 = (-1 : Int32) then (some (((8 : Int32) * ((10 : Int32) - (S.1 (p0) 1))), S)) else (some ((S.1 (p0) 1), S)))
set_option maxRecDepth 20000 in
set_option maxHeartbeats 4000000 in
theorem m_X2_weightOf {G : aG} (p0 : Nat) (q0 : aGr G p0) (p1 : Int32) (S : aSt) : aMet G yX2_weightOf uX2_weightOf 2 mk_i (f_X2_weightOf p0 p1 S) [.ref (p0), .int p1] S := by
  refine x_met (cc := cX2_weightOf) (nL := 2) (ret := (some .int)) (L := [some (.ref (p0)), some (.int p1)]) (by decide +kernel) rfl (And.intro rfl (And.intro rfl trivial)) (Nat.le_of_ble_eq_true rfl) ?_
  unfold f_X2_weightOf
  refine x_iload_n dX2_weightOf_0 rfl rfl ?_
  refine x_iconst (-1 : Int32) dX2_weightOf_1 (by decide) ?_
  refine x_icmp_ne (tgt := 18) dX2_weightOf_2 (by decide) ?_ ?_
  · refine x_aload_n dX2_weightOf_18 rfl rfl ?_
    refine x_getI (k := p0) (j := 1) dX2_weightOf_19 q0.1 rfl rfl (Nat.le_of_ble_eq_true rfl) (fun w h => List.mem_cons_of_mem _ (inlX2 w h)) w_X2_weightOf_f37 ?_
    exact x_iret dX2_weightOf_22 rfl
  · refine x_bipush (8 : Int32) dX2_weightOf_5 (by decide) ?_
    refine x_bipush (10 : Int32) dX2_weightOf_7 (by decide) ?_
    refine x_aload_n dX2_weightOf_9 rfl rfl ?_
    refine x_getI (k := p0) (j := 1) dX2_weightOf_10 q0.1 rfl rfl (Nat.le_of_ble_eq_true rfl) (fun w h => List.mem_cons_of_mem _ (inlX2 w h)) w_X2_weightOf_f37 ?_
    refine x_isub dX2_weightOf_13 ?_
    refine x_imul dX2_weightOf_14 ?_
    refine x_goto (tgt := 22) dX2_weightOf_15 (by decide) ?_
    exact x_iret dX2_weightOf_22 rfl
theorem dd_X5_copyFrom : yX5_copyFrom.cls = RX5 ∧ yX5_copyFrom.cls ≠ "java/lang/invoke/MethodHandle" ∧ yX5_copyFrom.cls ≠ "java/lang/invoke/VarHandle" ∧ (parseMethodDescriptor yX5_copyFrom.desc).map (fun d => d.parameters.length) = some 1 := by decide +kernel
theorem dd_X4_copyFrom : yX4_copyFrom.cls = RX4 ∧ yX4_copyFrom.cls ≠ "java/lang/invoke/MethodHandle" ∧ yX4_copyFrom.cls ≠ "java/lang/invoke/VarHandle" ∧ (parseMethodDescriptor yX4_copyFrom.desc).map (fun d => d.parameters.length) = some 1 := by decide +kernel
theorem w_X2_copyFrom_f33 : Cond.fieldLink yX2_copyFrom.cls 33 (TX2 0).1 (TX2 0).2.1 (TX2 0).2.2.1 ∈ uX2_copyFrom := List.mem_cons_of_mem _ (wU_r39 _ (List.mem_of_getElem? (i := 14) rfl))
theorem w_X2_copyFrom_f37 : Cond.fieldLink yX2_copyFrom.cls 37 (TX2 1).1 (TX2 1).2.1 (TX2 1).2.2.1 ∈ uX2_copyFrom := List.mem_cons_of_mem _ (wU_r30 _ (List.mem_of_getElem? (i := 18) rfl))
theorem w_X2_copyFrom_f41 : Cond.fieldLink yX2_copyFrom.cls 41 (TX2 2).1 (TX2 2).2.1 (TX2 2).2.2.1 ∈ uX2_copyFrom := List.mem_cons_of_mem _ (wU_r39 _ (List.mem_of_getElem? (i := 15) rfl))
theorem w_X2_copyFrom_f44 : Cond.fieldLink yX2_copyFrom.cls 44 (TX2 3).1 (TX2 3).2.1 (TX2 3).2.2.1 ∈ uX2_copyFrom := List.mem_cons_of_mem _ (wU_r39 _ (List.mem_of_getElem? (i := 16) rfl))
theorem w_X2_copyFrom_f47 : Cond.fieldLink yX2_copyFrom.cls 47 (TX2 4).1 (TX2 4).2.1 (TX2 4).2.2.1 ∈ uX2_copyFrom := List.mem_cons_of_mem _ (wU_r17 _ (List.mem_of_getElem? (i := 15) rfl))
theorem w_X2_copyFrom_f50 : Cond.fieldLink yX2_copyFrom.cls 50 (TX2 5).1 (TX2 5).2.1 (TX2 5).2.2.1 ∈ uX2_copyFrom := List.mem_cons_of_mem _ (wU_r39 _ (List.mem_of_getElem? (i := 17) rfl))
theorem w_X2_copyFrom_f9 : Cond.fieldLink yX2_copyFrom.cls 9 (TX2 6).1 (TX2 6).2.1 (TX2 6).2.2.1 ∈ uX2_copyFrom := List.mem_cons_of_mem _ (wU_r2 _ (List.mem_of_getElem? (i := 15) rfl))
theorem w_X2_copyFrom_m53 : Cond.methodLink yX2_copyFrom.cls 53 arraycopyName ∈ uX2_copyFrom := List.mem_cons_of_mem _ (wU_r39 _ (List.mem_of_getElem? (i := 18) rfl))
theorem w_X2_copyFrom_cn : Cond.native arraycopyName ∈ uX2_copyFrom := List.mem_cons_of_mem _ (wU_r6 _ (List.mem_of_getElem? (i := 20) rfl))
theorem w_X2_copyFrom_cs : Cond.static arraycopyName ∈ uX2_copyFrom := List.mem_cons_of_mem _ (wU_r6 _ (List.mem_of_getElem? (i := 21) rfl))
theorem w_X2_copyFrom_ci : Cond.initialized "java/lang/System" ∈ uX2_copyFrom := List.mem_cons_of_mem _ (wU_r6 _ (List.mem_of_getElem? (i := 22) rfl))
theorem w_X2_copyFrom_f15 : Cond.fieldLink yX2_copyFrom.cls 15 (TX2 7).1 (TX2 7).2.1 (TX2 7).2.2.1 ∈ uX2_copyFrom := List.mem_cons_of_mem _ (wU_r2 _ (List.mem_of_getElem? (i := 17) rfl))
theorem w_X2_copyFrom_f22 : Cond.fieldLink yX2_copyFrom.cls 22 (TX2 8).1 (TX2 8).2.1 (TX2 8).2.2.1 ∈ uX2_copyFrom := List.mem_cons_of_mem _ (wU_r2 _ (List.mem_of_getElem? (i := 21) rfl))
theorem g_X2_copyFrom_59 : GoodIn uX2_copyFrom (wsV yX2_copyFrom.cls 59 RX5 yX5_copyFrom uX5_copyFrom) := gU_V (wU_r39 _ (List.mem_of_getElem? (i := 19) rfl)) (wU_r13 _ (List.mem_of_getElem? (i := 23) rfl)) (wU_r14 _ (List.mem_of_getElem? (i := 0) rfl)) (wU_r2 _ (List.mem_of_getElem? (i := 20) rfl)) (wU_r14 _ (List.mem_of_getElem? (i := 1) rfl))
theorem w_X2_copyFrom_f28 : Cond.fieldLink yX2_copyFrom.cls 28 (TX2 9).1 (TX2 9).2.1 (TX2 9).2.2.1 ∈ uX2_copyFrom := List.mem_cons_of_mem _ (wU_r2 _ (List.mem_of_getElem? (i := 23) rfl))
theorem g_X2_copyFrom_63 : GoodIn uX2_copyFrom (wsV yX2_copyFrom.cls 63 RX4 yX4_copyFrom uX4_copyFrom) := gU_V (wU_r39 _ (List.mem_of_getElem? (i := 20) rfl)) (wU_r28 _ (List.mem_of_getElem? (i := 6) rfl)) (wU_r28 _ (List.mem_of_getElem? (i := 7) rfl)) (wU_r2 _ (List.mem_of_getElem? (i := 7) rfl)) (wU_r28 _ (List.mem_of_getElem? (i := 8) rfl))
def f_X2_copyFrom_91  : Nat → Nat → Nat → Int32 → aSt → Option (Unit × aSt)
  | 0, _, _, _, _ => none
  | n + 1, l0, l1, l2, S => (if (S.1 (l0) 4) ≤ l2 then (some ((), S)) else (if l2 < 0 ∨ 6 ≤ (l2).toNatClampNeg then none else (if l2 < 0 ∨ 6 ≤ (l2).toNatClampNeg then none else (aB (f_X4_copyFrom (l0 + 9 + 2 * (l2).toNatClampNeg) (l1 + 9 + 2 * (l2).toNatClampNeg) S) (fun r12_ S12 => (aLt (l2 + (1 : Int32)) (fun x13 => (f_X2_copyFrom_91 n (l0) (l1) x13 S12))))))))
set_option maxRecDepth 20000 in
set_option maxHeartbeats 4000000 in
theorem v_X2_copyFrom_91 {G : aG} : ∀ (n : Nat) (l0 : Nat) (ql0 : aGr G l0) (l1 : Nat) (ql1 : aGr G l1) (l2 : Int32) (S : aSt), aX G yX2_copyFrom cX2_copyFrom 3 none uX2_copyFrom 4 mk_v (f_X2_copyFrom_91 n l0 l1 l2 S) 91 [some (.ref (l0)), some (.ref (l1)), some (.int l2)] [] S := by
  intro n
  induction n with
  | zero => intro l0 ql0 l1 ql1 l2 S; exact x_none
  | succ n ih =>
    intro l0 ql0 l1 ql1 l2 S
    unfold f_X2_copyFrom_91
    refine x_iload_n dX2_copyFrom_91 rfl rfl ?_
    refine x_aload_n dX2_copyFrom_92 rfl rfl ?_
    refine x_getI (k := l0) (j := 4) dX2_copyFrom_93 ql0.1 rfl rfl (Nat.le_of_ble_eq_true rfl) (fun w h => List.mem_cons_of_mem _ (inlX2 w h)) w_X2_copyFrom_f47 ?_
    refine x_icmp_ge (tgt := 120) dX2_copyFrom_96 (by decide) ?_ ?_
    · exact x_vret dX2_copyFrom_120 rfl
    · refine x_aload_n dX2_copyFrom_99 rfl rfl ?_
      refine x_getR (r := l0 + 8) (k := l0) (j := 9) dX2_copyFrom_100 ql0.1 rfl rfl (Nat.le_of_ble_eq_true rfl) (fun w h => List.mem_cons_of_mem _ (inlX2 w h)) w_X2_copyFrom_f28 ?_
      refine x_iload_n dX2_copyFrom_103 rfl rfl ?_
      refine x_aald (g := fun j => l0 + 9 + 2 * j) dX2_copyFrom_104 ql0.2.2.2.2.1 (fun _ => rfl) (fun h10 => ?_)
      refine x_aload_n dX2_copyFrom_105 rfl rfl ?_
      refine x_getR (r := l1 + 8) (k := l1) (j := 9) dX2_copyFrom_106 ql1.1 rfl rfl (Nat.le_of_ble_eq_true rfl) (fun w h => List.mem_cons_of_mem _ (inlX2 w h)) w_X2_copyFrom_f28 ?_
      refine x_iload_n dX2_copyFrom_109 rfl rfl ?_
      refine x_aald (g := fun j => l1 + 9 + 2 * j) dX2_copyFrom_110 ql1.2.2.2.2.1 (fun _ => rfl) (fun h11 => ?_)
      refine x_b (fun r12_ S12 e12 => ?_)
      refine x_callVv (As := [.ref (l1 + 9 + 2 * (l2).toNatClampNeg)]) dX2_copyFrom_111 (aMet_of e12 (m_X4_copyFrom (l0 + 9 + 2 * (l2).toNatClampNeg) (ql0.2.2.2.2.2 _ (a_lt h10)) (l1 + 9 + 2 * (l2).toNatClampNeg) (ql1.2.2.2.2.2 _ (a_lt h11)) S)) g_X2_copyFrom_63 rfl (ql0.2.2.2.2.2 _ (a_lt h10)).1 rfl dd_X4_copyFrom rfl rfl (Nat.le_of_ble_eq_true rfl) (Nat.le_of_ble_eq_true rfl) (Nat.le_of_ble_eq_true rfl) ?_
      refine x_iincL (w := (1 : Int32)) dX2_copyFrom_114 rfl (by decide) (Nat.le_of_ble_eq_true rfl) rfl (fun x13 => ?_)
      refine x_goto (tgt := 91) dX2_copyFrom_117 (by decide) ?_
      exact x_le (ih (l0) ql0 (l1) ql1 x13 S12) (And.intro rfl (And.intro rfl (And.intro rfl trivial)))
def f_X2_copyFrom (p0 : Nat) (p1 : Nat) (S : aSt) : Option (Unit × aSt) := (aLt (aUl S (p0) 0 (S.2 (p1) 0)) (fun S1 => (aLt (aUi S1 (p0) 1 (S1.1 (p1) 1)) (fun S2 => (aLt (aUi S2 (p0) 2 (S2.1 (p1) 2)) (fun S3 => (aLt (aUi S3 (p0) 3 (S3.1 (p1) 3)) (fun S4 => (aLt (aUi S4 (p0) 4 (S4.1 (p1) 4)) (fun S5 => (aLt (aUi S5 (p0) 5 (S5.1 (p1) 5)) (fun S6 => (if aFit (S6.1 (p1 + 1)) 100 = true then (aLt (aCp S6 (p1 + 1) (p0 + 1) 100) (fun S7 => (aLt (aCp S7 (p1 + 2) (p0 + 2) 6) (fun S8 => (aB (f_X5_copyFrom (p0 + 3) (p1 + 3) S8) (fun r9_ S9 => (f_X2_copyFrom_91 aF (p0) (p1) (0 : Int32) S9))))))) else none)))))))))))))
set_option maxRecDepth 20000 in
set_option maxHeartbeats 4000000 in
theorem m_X2_copyFrom {G : aG} (p0 : Nat) (q0 : aGr G p0) (p1 : Nat) (q1 : aGr G p1) (S : aSt) : aMet G yX2_copyFrom uX2_copyFrom 4 mk_v (f_X2_copyFrom p0 p1 S) [.ref (p0), .ref (p1)] S := by
  refine x_met (cc := cX2_copyFrom) (nL := 3) (ret := none) (L := [some (.ref (p0)), some (.ref (p1)), none]) (by decide +kernel) rfl (And.intro rfl (And.intro rfl trivial)) (Nat.le_of_ble_eq_true rfl) ?_
  unfold f_X2_copyFrom
  refine x_aload_n dX2_copyFrom_0 rfl rfl ?_
  refine x_aload_n dX2_copyFrom_1 rfl rfl ?_
  refine x_getJ (k := p1) (j := 0) dX2_copyFrom_2 q1.1 rfl rfl (Nat.le_of_ble_eq_true rfl) (fun w h => List.mem_cons_of_mem _ (inlX2 w h)) w_X2_copyFrom_f33 ?_
  refine x_putJ (k := p0) (j := 0) dX2_copyFrom_5 q0.1 rfl rfl (Nat.le_of_ble_eq_true rfl) (fun w h => List.mem_cons_of_mem _ (inlX2 w h)) w_X2_copyFrom_f33 tyX2 tyX2_ok nmX2 rfl (by decide +kernel) ?_
  refine x_ltS (fun S1 => ?_)
  refine x_aload_n dX2_copyFrom_8 rfl rfl ?_
  refine x_aload_n dX2_copyFrom_9 rfl rfl ?_
  refine x_getI (k := p1) (j := 1) dX2_copyFrom_10 q1.1 rfl rfl (Nat.le_of_ble_eq_true rfl) (fun w h => List.mem_cons_of_mem _ (inlX2 w h)) w_X2_copyFrom_f37 ?_
  refine x_putI (k := p0) (j := 1) dX2_copyFrom_13 q0.1 rfl rfl (Nat.le_of_ble_eq_true rfl) (fun w h => List.mem_cons_of_mem _ (inlX2 w h)) w_X2_copyFrom_f37 tyX2 tyX2_ok nmX2 rfl (by decide +kernel) ?_
  refine x_ltS (fun S2 => ?_)
  refine x_aload_n dX2_copyFrom_16 rfl rfl ?_
  refine x_aload_n dX2_copyFrom_17 rfl rfl ?_
  refine x_getI (k := p1) (j := 2) dX2_copyFrom_18 q1.1 rfl rfl (Nat.le_of_ble_eq_true rfl) (fun w h => List.mem_cons_of_mem _ (inlX2 w h)) w_X2_copyFrom_f41 ?_
  refine x_putI (k := p0) (j := 2) dX2_copyFrom_21 q0.1 rfl rfl (Nat.le_of_ble_eq_true rfl) (fun w h => List.mem_cons_of_mem _ (inlX2 w h)) w_X2_copyFrom_f41 tyX2 tyX2_ok nmX2 rfl (by decide +kernel) ?_
  refine x_ltS (fun S3 => ?_)
  refine x_aload_n dX2_copyFrom_24 rfl rfl ?_
  refine x_aload_n dX2_copyFrom_25 rfl rfl ?_
  refine x_getI (k := p1) (j := 3) dX2_copyFrom_26 q1.1 rfl rfl (Nat.le_of_ble_eq_true rfl) (fun w h => List.mem_cons_of_mem _ (inlX2 w h)) w_X2_copyFrom_f44 ?_
  refine x_putI (k := p0) (j := 3) dX2_copyFrom_29 q0.1 rfl rfl (Nat.le_of_ble_eq_true rfl) (fun w h => List.mem_cons_of_mem _ (inlX2 w h)) w_X2_copyFrom_f44 tyX2 tyX2_ok nmX2 rfl (by decide +kernel) ?_
  refine x_ltS (fun S4 => ?_)
  refine x_aload_n dX2_copyFrom_32 rfl rfl ?_
  refine x_aload_n dX2_copyFrom_33 rfl rfl ?_
  refine x_getI (k := p1) (j := 4) dX2_copyFrom_34 q1.1 rfl rfl (Nat.le_of_ble_eq_true rfl) (fun w h => List.mem_cons_of_mem _ (inlX2 w h)) w_X2_copyFrom_f47 ?_
  refine x_putI (k := p0) (j := 4) dX2_copyFrom_37 q0.1 rfl rfl (Nat.le_of_ble_eq_true rfl) (fun w h => List.mem_cons_of_mem _ (inlX2 w h)) w_X2_copyFrom_f47 tyX2 tyX2_ok nmX2 rfl (by decide +kernel) ?_
  refine x_ltS (fun S5 => ?_)
  refine x_aload_n dX2_copyFrom_40 rfl rfl ?_
  refine x_aload_n dX2_copyFrom_41 rfl rfl ?_
  refine x_getI (k := p1) (j := 5) dX2_copyFrom_42 q1.1 rfl rfl (Nat.le_of_ble_eq_true rfl) (fun w h => List.mem_cons_of_mem _ (inlX2 w h)) w_X2_copyFrom_f50 ?_
  refine x_putI (k := p0) (j := 5) dX2_copyFrom_45 q0.1 rfl rfl (Nat.le_of_ble_eq_true rfl) (fun w h => List.mem_cons_of_mem _ (inlX2 w h)) w_X2_copyFrom_f50 tyX2 tyX2_ok nmX2 rfl (by decide +kernel) ?_
  refine x_ltS (fun S6 => ?_)
  refine x_aload_n dX2_copyFrom_48 rfl rfl ?_
  refine x_getR (r := p1 + 1) (k := p1) (j := 6) dX2_copyFrom_49 q1.1 rfl rfl (Nat.le_of_ble_eq_true rfl) (fun w h => List.mem_cons_of_mem _ (inlX2 w h)) w_X2_copyFrom_f9 ?_
  refine x_iconst (0 : Int32) dX2_copyFrom_52 (by decide) ?_
  refine x_aload_n dX2_copyFrom_53 rfl rfl ?_
  refine x_getR (r := p0 + 1) (k := p0) (j := 6) dX2_copyFrom_54 q0.1 rfl rfl (Nat.le_of_ble_eq_true rfl) (fun w h => List.mem_cons_of_mem _ (inlX2 w h)) w_X2_copyFrom_f9 ?_
  refine x_iconst (0 : Int32) dX2_copyFrom_57 (by decide) ?_
  refine x_bipush (100 : Int32) dX2_copyFrom_58 (by decide) ?_
  refine x_if (fun hfit => ?_) (fun _ => x_none)
  refine x_cpyc (n := 100) dX2_copyFrom_60 w_X2_copyFrom_m53 w_X2_copyFrom_cn w_X2_copyFrom_cs w_X2_copyFrom_ci q1.2.1 q0.2.1 rfl rfl rfl rfl (by decide) (by decide) (Nat.le_of_ble_eq_true rfl) (Nat.le_of_ble_eq_true rfl) (aFit_at hfit) (Nat.le_of_ble_eq_true rfl) (Nat.le_of_ble_eq_true rfl) ?_
  refine x_ltS (fun S7 => ?_)
  refine x_aload_n dX2_copyFrom_63 rfl rfl ?_
  refine x_getR (r := p1 + 2) (k := p1) (j := 7) dX2_copyFrom_64 q1.1 rfl rfl (Nat.le_of_ble_eq_true rfl) (fun w h => List.mem_cons_of_mem _ (inlX2 w h)) w_X2_copyFrom_f15 ?_
  refine x_iconst (0 : Int32) dX2_copyFrom_67 (by decide) ?_
  refine x_aload_n dX2_copyFrom_68 rfl rfl ?_
  refine x_getR (r := p0 + 2) (k := p0) (j := 7) dX2_copyFrom_69 q0.1 rfl rfl (Nat.le_of_ble_eq_true rfl) (fun w h => List.mem_cons_of_mem _ (inlX2 w h)) w_X2_copyFrom_f15 ?_
  refine x_iconst (0 : Int32) dX2_copyFrom_72 (by decide) ?_
  refine x_bipush (6 : Int32) dX2_copyFrom_73 (by decide) ?_
  refine x_cpyc (n := 6) dX2_copyFrom_75 w_X2_copyFrom_m53 w_X2_copyFrom_cn w_X2_copyFrom_cs w_X2_copyFrom_ci q1.2.2.1 q0.2.2.1 rfl rfl rfl rfl (by decide) (by decide) (Nat.le_of_ble_eq_true rfl) (Nat.le_of_ble_eq_true rfl) (fun _ _ => rfl) (Nat.le_of_ble_eq_true rfl) (Nat.le_of_ble_eq_true rfl) ?_
  refine x_ltS (fun S8 => ?_)
  refine x_aload_n dX2_copyFrom_78 rfl rfl ?_
  refine x_getR (r := p0 + 3) (k := p0) (j := 8) dX2_copyFrom_79 q0.1 rfl rfl (Nat.le_of_ble_eq_true rfl) (fun w h => List.mem_cons_of_mem _ (inlX2 w h)) w_X2_copyFrom_f22 ?_
  refine x_aload_n dX2_copyFrom_82 rfl rfl ?_
  refine x_getR (r := p1 + 3) (k := p1) (j := 8) dX2_copyFrom_83 q1.1 rfl rfl (Nat.le_of_ble_eq_true rfl) (fun w h => List.mem_cons_of_mem _ (inlX2 w h)) w_X2_copyFrom_f22 ?_
  refine x_b (fun r9_ S9 e9 => ?_)
  refine x_callVv (As := [.ref (p1 + 3)]) dX2_copyFrom_86 (aMet_of e9 (m_X5_copyFrom (p0 + 3) q0.2.2.2.1 (p1 + 3) q1.2.2.2.1 S8)) g_X2_copyFrom_59 rfl q0.2.2.2.1.1 rfl dd_X5_copyFrom rfl rfl (Nat.le_of_ble_eq_true rfl) (Nat.le_of_ble_eq_true rfl) (Nat.le_of_ble_eq_true rfl) ?_
  refine x_iconst (0 : Int32) dX2_copyFrom_89 (by decide) ?_
  refine x_istore_n dX2_copyFrom_90 rfl (Nat.le_of_ble_eq_true rfl) rfl ?_
  exact x_le (v_X2_copyFrom_91 aF (p0) q0 (p1) q1 (0 : Int32) S9) (And.intro rfl (And.intro rfl (And.intro rfl trivial)))

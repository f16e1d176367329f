/-! written by program: what the bytecode does, and the walk -/
theorem w_X3_next_f32 : Cond.fieldLink yX3_next.cls 32 (TX3 3).1 (TX3 3).2.1 (TX3 3).2.2.1 ∈ uX3_next := List.mem_cons_of_mem _ (wU_r7 _ (List.mem_of_getElem? (i := 0) rfl))
theorem w_X3_next_f28 : Cond.fieldLink yX3_next.cls 28 (TX3 2).1 (TX3 2).2.1 (TX3 2).2.2.1 ∈ uX3_next := List.mem_cons_of_mem _ (wU_r6 _ (List.mem_of_getElem? (i := 23) rfl))
theorem w_X3_next_f18 : Cond.fieldLink yX3_next.cls 18 (TX3 1).1 (TX3 1).2.1 (TX3 1).2.2.1 ∈ uX3_next := List.mem_cons_of_mem _ (wU_r4 _ (List.mem_of_getElem? (i := 1) rfl))
def f_X3_next  (S : aSt) : Option (Int32 × aSt) := (if (S.1 (22) 2) ≤ (S.1 (22) 3) then (some ((-1 : Int32), S)) else (if (100 : Int32) ≤ (S.1 (22) 3) then (some ((-1 : Int32), S)) else (if (S.1 (22) 3) < 0 ∨ 100 ≤ ((S.1 (22) 3)).toNatClampNeg then none else (some ((S.1 (28) ((S.1 (22) 3)).toNatClampNeg), S)))))
set_option maxRecDepth 20000 in
set_option maxHeartbeats 4000000 in
theorem m_X3_next {G : aG} (hR : aRd G)  (S : aSt) : aMet G yX3_next uX3_next 2 mk_i (f_X3_next S) [.ref (22)] S := by
  refine x_met (cc := cX3_next) (nL := 1) (ret := (some .int)) (L := [some (.ref (22))]) (by decide +kernel) rfl (And.intro rfl trivial) (Nat.le_of_ble_eq_true rfl) ?_
  unfold f_X3_next
  refine x_aload_n dX3_next_0 rfl rfl ?_
  refine x_getI (k := 22) (j := 3) dX3_next_1 hR.1 rfl rfl (Nat.le_of_ble_eq_true rfl) (fun w h => List.mem_cons_of_mem _ (inlX3 w h)) w_X3_next_f32 ?_
  refine x_aload_n dX3_next_4 rfl rfl ?_
  refine x_getI (k := 22) (j := 2) dX3_next_5 hR.1 rfl rfl (Nat.le_of_ble_eq_true rfl) (fun w h => List.mem_cons_of_mem _ (inlX3 w h)) w_X3_next_f28 ?_
  refine x_icmp_ge (tgt := 32) dX3_next_8 (by decide) ?_ ?_
  · refine x_iconst (-1 : Int32) dX3_next_32 (by decide) ?_
    exact x_iret dX3_next_33 rfl
  · refine x_aload_n dX3_next_11 rfl rfl ?_
    refine x_getI (k := 22) (j := 3) dX3_next_12 hR.1 rfl rfl (Nat.le_of_ble_eq_true rfl) (fun w h => List.mem_cons_of_mem _ (inlX3 w h)) w_X3_next_f32 ?_
    refine x_bipush (100 : Int32) dX3_next_15 (by decide) ?_
    refine x_icmp_ge (tgt := 32) dX3_next_17 (by decide) ?_ ?_
    · refine x_iconst (-1 : Int32) dX3_next_32 (by decide) ?_
      exact x_iret dX3_next_33 rfl
    · refine x_aload_n dX3_next_20 rfl rfl ?_
      refine x_getR (r := 28) (k := 22) (j := 1) dX3_next_21 hR.1 rfl rfl (Nat.le_of_ble_eq_true rfl) (fun w h => List.mem_cons_of_mem _ (inlX3 w h)) w_X3_next_f18 ?_
      refine x_aload_n dX3_next_24 rfl rfl ?_
      refine x_getI (k := 22) (j := 3) dX3_next_25 hR.1 rfl rfl (Nat.le_of_ble_eq_true rfl) (fun w h => List.mem_cons_of_mem _ (inlX3 w h)) w_X3_next_f32 ?_
      refine x_bald dX3_next_28 hR.2.2 ?_
      refine x_goto (tgt := 33) dX3_next_29 (by decide) ?_
      exact x_iret dX3_next_33 rfl
theorem dd_X3_next : yX3_next.cls = RX3 ∧ yX3_next.cls ≠ "java/lang/invoke/MethodHandle" ∧ yX3_next.cls ≠ "java/lang/invoke/VarHandle" ∧ (parseMethodDescriptor yX3_next.desc).map (fun d => d.parameters.length) = some 0 := by decide +kernel
theorem g_X3_takes_46 : GoodIn uX3_takes (wsV yX3_takes.cls 46 RX3 yX3_next uX3_next) := gU_V (wU_r7 _ (List.mem_of_getElem? (i := 6) rfl)) (wU_r7 _ (List.mem_of_getElem? (i := 7) rfl)) (wU_r7 _ (List.mem_of_getElem? (i := 8) rfl)) (wU_r1 _ (List.mem_of_getElem? (i := 19) rfl)) (wU_r7 _ (List.mem_of_getElem? (i := 9) rfl))
theorem w_X3_takes_f32 : Cond.fieldLink yX3_takes.cls 32 (TX3 3).1 (TX3 3).2.1 (TX3 3).2.2.1 ∈ uX3_takes := List.mem_cons_of_mem _ (wU_r7 _ (List.mem_of_getElem? (i := 0) rfl))
def f_X3_takes (p1 : Int32) (S : aSt) : Option (Int32 × aSt) := (aB (f_X3_next S) (fun r1_ S1 => (if r1_ = p1 then (aLt (aUi S1 (22) 3 ((S1.1 (22) 3) + (1 : Int32))) (fun S2 => (some ((1 : Int32), S2)))) else (some ((0 : Int32), S1)))))
set_option maxRecDepth 20000 in
set_option maxHeartbeats 4000000 in
theorem m_X3_takes {G : aG} (hR : aRd G) (p1 : Int32) (S : aSt) : aMet G yX3_takes uX3_takes 3 mk_i (f_X3_takes p1 S) [.ref (22), .int p1] S := by
  refine x_met (cc := cX3_takes) (nL := 2) (ret := (some .boolean)) (L := [some (.ref (22)), some (.int p1)]) (by decide +kernel) rfl (And.intro rfl (And.intro rfl trivial)) (Nat.le_of_ble_eq_true rfl) ?_
  unfold f_X3_takes
  refine x_aload_n dX3_takes_0 rfl rfl ?_
  refine x_b (fun r1_ S1 e1 => ?_)
  refine x_callVi (As := []) dX3_takes_1 (aMet_of e1 (m_X3_next hR S)) g_X3_takes_46 rfl hR.1 rfl dd_X3_next rfl rfl (Nat.le_of_ble_eq_true rfl) (Nat.le_of_ble_eq_true rfl) (Nat.le_of_ble_eq_true rfl) ?_
  refine x_iload_n dX3_takes_4 rfl rfl ?_
  refine x_icmp_eq (tgt := 10) dX3_takes_5 (by decide) ?_ ?_
  · refine x_aload_n dX3_takes_10 rfl rfl ?_
    refine x_dup dX3_takes_11 rfl ?_
    refine x_getI (k := 22) (j := 3) dX3_takes_12 hR.1 rfl rfl (Nat.le_of_ble_eq_true rfl) (fun w h => List.mem_cons_of_mem _ (inlX3 w h)) w_X3_takes_f32 ?_
    refine x_iconst (1 : Int32) dX3_takes_15 (by decide) ?_
    refine x_iadd dX3_takes_16 ?_
    refine x_putI (k := 22) (j := 3) dX3_takes_17 hR.1 rfl rfl (Nat.le_of_ble_eq_true rfl) (fun w h => List.mem_cons_of_mem _ (inlX3 w h)) w_X3_takes_f32 tyX3 tyX3_ok nmX3 rfl (by decide +kernel) ?_
    refine x_ltS (fun S2 => ?_)
    refine x_iconst (1 : Int32) dX3_takes_20 (by decide) ?_
    exact x_zret dX3_takes_21 rfl rfl
  · refine x_iconst (0 : Int32) dX3_takes_8 (by decide) ?_
    exact x_zret dX3_takes_9 rfl rfl
theorem dd_J0_charAt_5068e : yJ0_charAt_5068e.cls = "java/lang/String" ∧ yJ0_charAt_5068e.cls ≠ "java/lang/invoke/MethodHandle" ∧ yJ0_charAt_5068e.cls ≠ "java/lang/invoke/VarHandle" ∧ (parseMethodDescriptor yJ0_charAt_5068e.desc).map (fun d => d.parameters.length) = some 1 := by decide +kernel
theorem dd_X3_takes : yX3_takes.cls = RX3 ∧ yX3_takes.cls ≠ "java/lang/invoke/MethodHandle" ∧ yX3_takes.cls ≠ "java/lang/invoke/VarHandle" ∧ (parseMethodDescriptor yX3_takes.desc).map (fun d => d.parameters.length) = some 1 := by decide +kernel
theorem g_X3_takesAll_50 : GoodIn uX3_takesAll (wsV yX3_takesAll.cls 50 RJ0 yJ0_length_8abf5 uJ0_length_8abf5) := gU_V (wU_r8 _ (List.mem_of_getElem? (i := 0) rfl)) (wU_r8 _ (List.mem_of_getElem? (i := 1) rfl)) (wU_r8 _ (List.mem_of_getElem? (i := 2) rfl)) (wU_r8 _ (List.mem_of_getElem? (i := 3) rfl)) (wU_r8 _ (List.mem_of_getElem? (i := 4) rfl))
theorem g_X3_takesAll_55 : GoodIn uX3_takesAll (wsV yX3_takesAll.cls 55 RJ0 yJ0_charAt_5068e uJ0_charAt_5068e) := gU_V (wU_r8 _ (List.mem_of_getElem? (i := 12) rfl)) (wU_r8 _ (List.mem_of_getElem? (i := 13) rfl)) (wU_r8 _ (List.mem_of_getElem? (i := 14) rfl)) (wU_r8 _ (List.mem_of_getElem? (i := 3) rfl)) (wU_r8 _ (List.mem_of_getElem? (i := 15) rfl))
theorem g_X3_takesAll_38 : GoodIn uX3_takesAll (wsV yX3_takesAll.cls 38 RX3 yX3_takes uX3_takes) := gU_V (wU_r7 _ (List.mem_of_getElem? (i := 2) rfl)) (wU_r7 _ (List.mem_of_getElem? (i := 3) rfl)) (wU_r7 _ (List.mem_of_getElem? (i := 4) rfl)) (wU_r1 _ (List.mem_of_getElem? (i := 19) rfl)) (wU_r7 _ (List.mem_of_getElem? (i := 5) rfl))
def f_X3_takesAll_2  : Nat → Nat → Int32 → aSt → Option (Int32 × aSt)
  | 0, _, _, _ => none
  | n + 1, l1, l2, S => (aB (f_J0_length_8abf5 (l1) S) (fun r1_ S1 => (if r1_ ≤ l2 then (some ((1 : Int32), S1)) else (aB (f_J0_charAt_5068e (l1) l2 S1) (fun r2_ S2 => (aB (f_X3_takes r2_ S2) (fun r3_ S3 => (if r3_ = 0 then (some ((0 : Int32), S3)) else (aLt (l2 + (1 : Int32)) (fun x4 => (f_X3_takesAll_2 n (l1) x4 S3)))))))))))
set_option maxRecDepth 20000 in
set_option maxHeartbeats 4000000 in
theorem v_X3_takesAll_2 {G : aG} (hR : aRd G) : ∀ (n : Nat) (l1 : Nat) (ql1 : l1 < 13) (l2 : Int32) (S : aSt), aX G yX3_takesAll cX3_takesAll 3 (some .boolean) uX3_takesAll 5 mk_i (f_X3_takesAll_2 n l1 l2 S) 2 [some (.ref (22)), some (.ref (1000 + l1)), some (.int l2)] [] S := by
  intro n
  induction n with
  | zero => intro l1 ql1 l2 S; exact x_none
  | succ n ih =>
    intro l1 ql1 l2 S
    unfold f_X3_takesAll_2
    refine x_iload_n dX3_takesAll_2 rfl rfl ?_
    refine x_aload_n dX3_takesAll_3 rfl rfl ?_
    refine x_b (fun r1_ S1 e1 => ?_)
    refine x_callKi (As := []) dX3_takesAll_4 (aMet_of e1 (m_J0_length_8abf5 (l1) ql1 S)) g_X3_takesAll_50 rfl ql1 dd_J0_length_8abf5 rfl rfl (Nat.le_of_ble_eq_true rfl) (Nat.le_of_ble_eq_true rfl) (Nat.le_of_ble_eq_true rfl) ?_
    refine x_icmp_ge (tgt := 30) dX3_takesAll_7 (by decide) ?_ ?_
    · refine x_iconst (1 : Int32) dX3_takesAll_30 (by decide) ?_
      exact x_zret dX3_takesAll_31 rfl rfl
    · refine x_aload_n dX3_takesAll_10 rfl rfl ?_
      refine x_aload_n dX3_takesAll_11 rfl rfl ?_
      refine x_iload_n dX3_takesAll_12 rfl rfl ?_
      refine x_b (fun r2_ S2 e2 => ?_)
      refine x_callKi (As := [.int l2]) dX3_takesAll_13 (aMet_of e2 (m_J0_charAt_5068e (l1) ql1 l2 S1)) g_X3_takesAll_55 rfl ql1 dd_J0_charAt_5068e rfl rfl (Nat.le_of_ble_eq_true rfl) (Nat.le_of_ble_eq_true rfl) (Nat.le_of_ble_eq_true rfl) ?_
      refine x_b (fun r3_ S3 e3 => ?_)
      refine x_callVi (As := [.int r2_]) dX3_takesAll_16 (aMet_of e3 (m_X3_takes hR r2_ S2)) g_X3_takesAll_38 rfl hR.1 rfl dd_X3_takes rfl rfl (Nat.le_of_ble_eq_true rfl) (Nat.le_of_ble_eq_true rfl) (Nat.le_of_ble_eq_true rfl) ?_
      refine x_if_ne (tgt := 24) dX3_takesAll_19 (by decide) ?_ ?_
      · refine x_iincL (w := (1 : Int32)) dX3_takesAll_24 rfl (by decide) (Nat.le_of_ble_eq_true rfl) rfl (fun x4 => ?_)
        refine x_goto (tgt := 2) dX3_takesAll_27 (by decide) ?_
        exact x_le (ih (l1) ql1 x4 S3) (And.intro rfl (And.intro rfl (And.intro rfl trivial)))
      · refine x_iconst (0 : Int32) dX3_takesAll_22 (by decide) ?_
        exact x_zret dX3_takesAll_23 rfl rfl
def f_X3_takesAll (p1 : Nat) (S : aSt) : Option (Int32 × aSt) := (f_X3_takesAll_2 aF (p1) (0 : Int32) S)
set_option maxRecDepth 20000 in
set_option maxHeartbeats 4000000 in
theorem m_X3_takesAll {G : aG} (hR : aRd G) (p1 : Nat) (q1 : p1 < 13) (S : aSt) : aMet G yX3_takesAll uX3_takesAll 5 mk_i (f_X3_takesAll p1 S) [.ref (22), .ref (1000 + p1)] S := by
  refine x_met (cc := cX3_takesAll) (nL := 3) (ret := (some .boolean)) (L := [some (.ref (22)), some (.ref (1000 + p1)), none]) (by decide +kernel) rfl (And.intro rfl (And.intro rfl trivial)) (Nat.le_of_ble_eq_true rfl) ?_
  unfold f_X3_takesAll
  refine x_iconst (0 : Int32) dX3_takesAll_0 (by decide) ?_
  refine x_istore_n dX3_takesAll_1 rfl (Nat.le_of_ble_eq_true rfl) rfl ?_
  exact x_le (v_X3_takesAll_2 hR aF (p1) q1 (0 : Int32) S) (And.intro rfl (And.intro rfl (And.intro rfl trivial)))
theorem dd_J0_indexOf_0f7a4 : yJ0_indexOf_0f7a4.cls = "java/lang/String" ∧ yJ0_indexOf_0f7a4.cls ≠ "java/lang/invoke/MethodHandle" ∧ yJ0_indexOf_0f7a4.cls ≠ "java/lang/invoke/VarHandle" ∧ (parseMethodDescriptor yJ0_indexOf_0f7a4.desc).map (fun d => d.parameters.length) = some 1 := by decide +kernel
theorem g_X3_takesOne_46 : GoodIn uX3_takesOne (wsV yX3_takesOne.cls 46 RX3 yX3_next uX3_next) := gU_V (wU_r7 _ (List.mem_of_getElem? (i := 6) rfl)) (wU_r7 _ (List.mem_of_getElem? (i := 7) rfl)) (wU_r7 _ (List.mem_of_getElem? (i := 8) rfl)) (wU_r1 _ (List.mem_of_getElem? (i := 19) rfl)) (wU_r7 _ (List.mem_of_getElem? (i := 9) rfl))
theorem g_X3_takesOne_59 : GoodIn uX3_takesOne (wsV yX3_takesOne.cls 59 RJ0 yJ0_indexOf_0f7a4 uJ0_indexOf_0f7a4) := gU_V (wU_r10 _ (List.mem_of_getElem? (i := 9) rfl)) (wU_r10 _ (List.mem_of_getElem? (i := 10) rfl)) (wU_r10 _ (List.mem_of_getElem? (i := 11) rfl)) (wU_r8 _ (List.mem_of_getElem? (i := 3) rfl)) (wU_r10 _ (List.mem_of_getElem? (i := 12) rfl))
theorem w_X3_takesOne_f32 : Cond.fieldLink yX3_takesOne.cls 32 (TX3 3).1 (TX3 3).2.1 (TX3 3).2.2.1 ∈ uX3_takesOne := List.mem_cons_of_mem _ (wU_r7 _ (List.mem_of_getElem? (i := 0) rfl))
def f_X3_takesOne_36  (l3 : Int32) (s0 : Int32) (s1 : Int32) (S : aSt) : Option (Int32 × aSt) := (aLt (aUi S (22) 3 (s1 + s0)) (fun S3 => (some (l3, S3))))
set_option maxRecDepth 20000 in
set_option maxHeartbeats 4000000 in
theorem v_X3_takesOne_36 {G : aG} (hR : aRd G) (l3 : Int32) (s0 : Int32) (s1 : Int32) (S : aSt) : aX G yX3_takesOne cX3_takesOne 4 (some .int) uX3_takesOne 6 mk_i (f_X3_takesOne_36 l3 s0 s1 S) 36 [none, none, none, some (.int l3)] [.int s0, .int s1, .ref (22)] S := by
  unfold f_X3_takesOne_36
  refine x_iadd dX3_takesOne_36 ?_
  refine x_putI (k := 22) (j := 3) dX3_takesOne_37 hR.1 rfl rfl (Nat.le_of_ble_eq_true rfl) (fun w h => List.mem_cons_of_mem _ (inlX3 w h)) w_X3_takesOne_f32 tyX3 tyX3_ok nmX3 rfl (by decide +kernel) ?_
  refine x_ltS (fun S3 => ?_)
  refine x_iload_n dX3_takesOne_40 rfl rfl ?_
  exact x_iret dX3_takesOne_41 rfl
def f_X3_takesOne_20  (s0 : Int32) (S : aSt) : Option (Int32 × aSt) := (if s0 = (-1 : Int32) then (f_X3_takesOne_36 s0 (0 : Int32) (S.1 (22) 3) S) else (f_X3_takesOne_36 s0 (1 : Int32) (S.1 (22) 3) S))
set_option maxRecDepth 20000 in
set_option maxHeartbeats 4000000 in
theorem v_X3_takesOne_20 {G : aG} (hR : aRd G) (s0 : Int32) (S : aSt) : aX G yX3_takesOne cX3_takesOne 4 (some .int) uX3_takesOne 6 mk_i (f_X3_takesOne_20 s0 S) 20 [some (.ref (22)), none, none, none] [.int s0] S := by
  unfold f_X3_takesOne_20
  refine x_istore_n dX3_takesOne_20 rfl (Nat.le_of_ble_eq_true rfl) rfl ?_
  refine x_aload_n dX3_takesOne_21 rfl rfl ?_
  refine x_dup dX3_takesOne_22 rfl ?_
  refine x_getI (k := 22) (j := 3) dX3_takesOne_23 hR.1 rfl rfl (Nat.le_of_ble_eq_true rfl) (fun w h => List.mem_cons_of_mem _ (inlX3 w h)) w_X3_takesOne_f32 ?_
  refine x_iload_n dX3_takesOne_26 rfl rfl ?_
  refine x_iconst (-1 : Int32) dX3_takesOne_27 (by decide) ?_
  refine x_icmp_ne (tgt := 35) dX3_takesOne_28 (by decide) ?_ ?_
  · refine x_iconst (1 : Int32) dX3_takesOne_35 (by decide) ?_
    exact x_le (v_X3_takesOne_36 hR s0 (1 : Int32) (S.1 (22) 3) S) (And.intro rfl trivial)
  · refine x_iconst (0 : Int32) dX3_takesOne_31 (by decide) ?_
    refine x_goto (tgt := 36) dX3_takesOne_32 (by decide) ?_
    exact x_le (v_X3_takesOne_36 hR s0 (0 : Int32) (S.1 (22) 3) S) (And.intro rfl trivial)
def f_X3_takesOne (p1 : Nat) (S : aSt) : Option (Int32 × aSt) := (aB (f_X3_next S) (fun r1_ S1 => (if r1_ = (-1 : Int32) then (f_X3_takesOne_20 (-1 : Int32) S1) else (aB (f_J0_indexOf_0f7a4 (p1) ((r1_).toUInt32 % 65536).toInt32 S1) (fun r2_ S2 => (f_X3_takesOne_20 r2_ S2))))))
set_option maxRecDepth 20000 in
set_option maxHeartbeats 4000000 in
theorem m_X3_takesOne {G : aG} (hR : aRd G) (p1 : Nat) (q1 : p1 < 13) (S : aSt) : aMet G yX3_takesOne uX3_takesOne 6 mk_i (f_X3_takesOne p1 S) [.ref (22), .ref (1000 + p1)] S := by
  refine x_met (cc := cX3_takesOne) (nL := 4) (ret := (some .int)) (L := [some (.ref (22)), some (.ref (1000 + p1)), none, none]) (by decide +kernel) rfl (And.intro rfl (And.intro rfl trivial)) (Nat.le_of_ble_eq_true rfl) ?_
  unfold f_X3_takesOne
  refine x_aload_n dX3_takesOne_0 rfl rfl ?_
  refine x_b (fun r1_ S1 e1 => ?_)
  refine x_callVi (As := []) dX3_takesOne_1 (aMet_of e1 (m_X3_next hR S)) g_X3_takesOne_46 rfl hR.1 rfl dd_X3_next rfl rfl (Nat.le_of_ble_eq_true rfl) (Nat.le_of_ble_eq_true rfl) (Nat.le_of_ble_eq_true rfl) ?_
  refine x_istore_n dX3_takesOne_4 rfl (Nat.le_of_ble_eq_true rfl) rfl ?_
  refine x_iload_n dX3_takesOne_5 rfl rfl ?_
  refine x_iconst (-1 : Int32) dX3_takesOne_6 (by decide) ?_
  refine x_icmp_ne (tgt := 14) dX3_takesOne_7 (by decide) ?_ ?_
  · refine x_aload_n dX3_takesOne_14 rfl rfl ?_
    refine x_iload_n dX3_takesOne_15 rfl rfl ?_
    refine x_i2c dX3_takesOne_16 ?_
    refine x_b (fun r2_ S2 e2 => ?_)
    refine x_callKi (As := [.int ((r1_).toUInt32 % 65536).toInt32]) dX3_takesOne_17 (aMet_of e2 (m_J0_indexOf_0f7a4 (p1) q1 ((r1_).toUInt32 % 65536).toInt32 S1)) g_X3_takesOne_59 rfl q1 dd_J0_indexOf_0f7a4 rfl rfl (Nat.le_of_ble_eq_true rfl) (Nat.le_of_ble_eq_true rfl) (Nat.le_of_ble_eq_true rfl) ?_
    exact x_le (v_X3_takesOne_20 hR r2_ S2) (And.intro rfl trivial)
  · refine x_iconst (-1 : Int32) dX3_takesOne_10 (by decide) ?_
    refine x_goto (tgt := 20) dX3_takesOne_11 (by decide) ?_
    exact x_le (v_X3_takesOne_20 hR (-1 : Int32) S1) (And.intro rfl trivial)
theorem dd_X3_takesOne : yX3_takesOne.cls = RX3 ∧ yX3_takesOne.cls ≠ "java/lang/invoke/MethodHandle" ∧ yX3_takesOne.cls ≠ "java/lang/invoke/VarHandle" ∧ (parseMethodDescriptor yX3_takesOne.desc).map (fun d => d.parameters.length) = some 1 := by decide +kernel
theorem g_X3_number_98 : GoodIn uX3_number (wsV yX3_number.cls 98 RX3 yX3_takesOne uX3_takesOne) := gU_V (wU_r10 _ (List.mem_of_getElem? (i := 5) rfl)) (wU_r10 _ (List.mem_of_getElem? (i := 6) rfl)) (wU_r10 _ (List.mem_of_getElem? (i := 7) rfl)) (wU_r1 _ (List.mem_of_getElem? (i := 19) rfl)) (wU_r10 _ (List.mem_of_getElem? (i := 8) rfl))
def f_X3_number  (S : aSt) : Option (Int32 × aSt) := (aB (f_X3_takesOne (5) S) (fun r1_ S1 => (if r1_ = (-1 : Int32) then (some (r1_, S1)) else (if r1_ = 0 then (some (r1_, S1)) else (aB (f_X3_takesOne (5) S1) (fun r2_ S2 => (if r2_ = (-1 : Int32) then (some (r1_, S2)) else (some ((((10 : Int32) * r1_) + r2_), S2)))))))))
set_option maxRecDepth 20000 in
set_option maxHeartbeats 4000000 in
theorem m_X3_number {G : aG} (hR : aRd G)  (S : aSt) : aMet G yX3_number uX3_number 7 mk_i (f_X3_number S) [.ref (22)] S := by
  refine x_met (cc := cX3_number) (nL := 3) (ret := (some .int)) (L := [some (.ref (22)), none, none]) (by decide +kernel) rfl (And.intro rfl trivial) (Nat.le_of_ble_eq_true rfl) ?_
  unfold f_X3_number
  refine x_aload_n dX3_number_0 rfl rfl ?_
  refine x_ldcS (i := 5) (tx := "0123456789") dX3_number_1 (by decide +kernel) ?_
  refine x_b (fun r1_ S1 e1 => ?_)
  refine x_callVi (As := [.ref (1000 + 5)]) dX3_number_3 (aMet_of e1 (m_X3_takesOne hR (5) (Nat.le_of_ble_eq_true rfl) S)) g_X3_number_98 rfl hR.1 rfl dd_X3_takesOne rfl rfl (Nat.le_of_ble_eq_true rfl) (Nat.le_of_ble_eq_true rfl) (Nat.le_of_ble_eq_true rfl) ?_
  refine x_istore_n dX3_number_6 rfl (Nat.le_of_ble_eq_true rfl) rfl ?_
  refine x_iload_n dX3_number_7 rfl rfl ?_
  refine x_iconst (-1 : Int32) dX3_number_8 (by decide) ?_
  refine x_icmp_eq (tgt := 16) dX3_number_9 (by decide) ?_ ?_
  · refine x_iload_n dX3_number_16 rfl rfl ?_
    exact x_iret dX3_number_17 rfl
  · refine x_iload_n dX3_number_12 rfl rfl ?_
    refine x_if_ne (tgt := 18) dX3_number_13 (by decide) ?_ ?_
    · refine x_aload_n dX3_number_18 rfl rfl ?_
      refine x_ldcS (i := 5) (tx := "0123456789") dX3_number_19 (by decide +kernel) ?_
      refine x_b (fun r2_ S2 e2 => ?_)
      refine x_callVi (As := [.ref (1000 + 5)]) dX3_number_21 (aMet_of e2 (m_X3_takesOne hR (5) (Nat.le_of_ble_eq_true rfl) S1)) g_X3_number_98 rfl hR.1 rfl dd_X3_takesOne rfl rfl (Nat.le_of_ble_eq_true rfl) (Nat.le_of_ble_eq_true rfl) (Nat.le_of_ble_eq_true rfl) ?_
      refine x_istore_n dX3_number_24 rfl (Nat.le_of_ble_eq_true rfl) rfl ?_
      refine x_iload_n dX3_number_25 rfl rfl ?_
      refine x_iconst (-1 : Int32) dX3_number_26 (by decide) ?_
      refine x_icmp_ne (tgt := 34) dX3_number_27 (by decide) ?_ ?_
      · refine x_bipush (10 : Int32) dX3_number_34 (by decide) ?_
        refine x_iload_n dX3_number_36 rfl rfl ?_
        refine x_imul dX3_number_37 ?_
        refine x_iload_n dX3_number_38 rfl rfl ?_
        refine x_iadd dX3_number_39 ?_
        exact x_iret dX3_number_40 rfl
      · refine x_iload_n dX3_number_30 rfl rfl ?_
        refine x_goto (tgt := 40) dX3_number_31 (by decide) ?_
        exact x_iret dX3_number_40 rfl
    · refine x_iload_n dX3_number_16 rfl rfl ?_
      exact x_iret dX3_number_17 rfl
theorem dd_X3_takesAll : yX3_takesAll.cls = RX3 ∧ yX3_takesAll.cls ≠ "java/lang/invoke/MethodHandle" ∧ yX3_takesAll.cls ≠ "java/lang/invoke/VarHandle" ∧ (parseMethodDescriptor yX3_takesAll.desc).map (fun d => d.parameters.length) = some 1 := by decide +kernel
theorem g_X3_word_46 : GoodIn uX3_word (wsV yX3_word.cls 46 RX3 yX3_next uX3_next) := gU_V (wU_r7 _ (List.mem_of_getElem? (i := 6) rfl)) (wU_r7 _ (List.mem_of_getElem? (i := 7) rfl)) (wU_r7 _ (List.mem_of_getElem? (i := 8) rfl)) (wU_r1 _ (List.mem_of_getElem? (i := 19) rfl)) (wU_r7 _ (List.mem_of_getElem? (i := 9) rfl))
theorem w_X3_word_f32 : Cond.fieldLink yX3_word.cls 32 (TX3 3).1 (TX3 3).2.1 (TX3 3).2.2.1 ∈ uX3_word := List.mem_cons_of_mem _ (wU_r7 _ (List.mem_of_getElem? (i := 0) rfl))
theorem g_X3_word_85 : GoodIn uX3_word (wsV yX3_word.cls 85 RX3 yX3_takesAll uX3_takesAll) := gU_V (wU_r7 _ (List.mem_of_getElem? (i := 20) rfl)) (wU_r7 _ (List.mem_of_getElem? (i := 21) rfl)) (wU_r7 _ (List.mem_of_getElem? (i := 22) rfl)) (wU_r1 _ (List.mem_of_getElem? (i := 19) rfl)) (wU_r7 _ (List.mem_of_getElem? (i := 23) rfl))
def f_X3_word  (S : aSt) : Option (Int32 × aSt) := (aB (f_X3_next S) (fun r1_ S1 => (if r1_ = (104 : Int32) then (aB (f_X3_takesAll (0) S1) (fun r8_ S8 => (if r8_ = 0 then (some ((-1 : Int32), S8)) else (some ((0 : Int32), S8))))) else (if r1_ = (114 : Int32) then (aB (f_X3_takesAll (2) S1) (fun r7_ S7 => (if r7_ = 0 then (some ((-1 : Int32), S7)) else (some ((4 : Int32), S7))))) else (if r1_ = (115 : Int32) then (aB (f_X3_takesAll (1) S1) (fun r6_ S6 => (if r6_ = 0 then (some ((-1 : Int32), S6)) else (some ((1 : Int32), S6))))) else (if r1_ = (119 : Int32) then (aLt (aUi S1 (22) 3 ((S1.1 (22) 3) + (1 : Int32))) (fun S2 => (aB (f_X3_next S2) (fun r3_ S3 => (if r3_ = (105 : Int32) then (aB (f_X3_takesAll (3) S3) (fun r5_ S5 => (if r5_ = 0 then (some ((-1 : Int32), S5)) else (some ((2 : Int32), S5))))) else (aB (f_X3_takesAll (4) S3) (fun r4_ S4 => (if r4_ = 0 then (some ((-1 : Int32), S4)) else (some ((3 : Int32), S4)))))))))) else (some ((-1 : Int32), S1))))))))
set_option maxRecDepth 20000 in
set_option maxHeartbeats 4000000 in
theorem m_X3_word {G : aG} (hR : aRd G)  (S : aSt) : aMet G yX3_word uX3_word 6 mk_i (f_X3_word S) [.ref (22)] S := by
  refine x_met (cc := cX3_word) (nL := 1) (ret := (some .int)) (L := [some (.ref (22))]) (by decide +kernel) rfl (And.intro rfl trivial) (Nat.le_of_ble_eq_true rfl) ?_
  unfold f_X3_word
  refine x_aload_n dX3_word_0 rfl rfl ?_
  refine x_b (fun r1_ S1 e1 => ?_)
  refine x_callVi (As := []) dX3_word_1 (aMet_of e1 (m_X3_next hR S)) g_X3_word_46 rfl hR.1 rfl dd_X3_next rfl rfl (Nat.le_of_ble_eq_true rfl) (Nat.le_of_ble_eq_true rfl) (Nat.le_of_ble_eq_true rfl) ?_
  refine x_sw (104 : Int32) ?_ (fun hv0 => ?_)
  · refine x_look (off := 44) (tgt := 48) dX3_word_4 (by decide +kernel) (by decide +kernel) (by decide) ?_
    refine x_aload_n dX3_word_48 rfl rfl ?_
    refine x_ldcS (i := 0) (tx := "hold") dX3_word_49 (by decide +kernel) ?_
    refine x_b (fun r8_ S8 e8 => ?_)
    refine x_callVi (As := [.ref (1000 + 0)]) dX3_word_51 (aMet_of e8 (m_X3_takesAll hR (0) (Nat.le_of_ble_eq_true rfl) S1)) g_X3_word_85 rfl hR.1 rfl dd_X3_takesAll rfl rfl (Nat.le_of_ble_eq_true rfl) (Nat.le_of_ble_eq_true rfl) (Nat.le_of_ble_eq_true rfl) ?_
    refine x_if_eq (tgt := 61) dX3_word_54 (by decide) ?_ ?_
    · refine x_iconst (-1 : Int32) dX3_word_61 (by decide) ?_
      exact x_iret dX3_word_62 rfl
    · refine x_iconst (0 : Int32) dX3_word_57 (by decide) ?_
      refine x_goto (tgt := 62) dX3_word_58 (by decide) ?_
      exact x_iret dX3_word_62 rfl
  · refine x_sw (114 : Int32) ?_ (fun hv1 => ?_)
    · refine x_look (off := 74) (tgt := 78) dX3_word_4 (by decide +kernel) (by decide +kernel) (by decide) ?_
      refine x_aload_n dX3_word_78 rfl rfl ?_
      refine x_ldcS (i := 2) (tx := "rope") dX3_word_79 (by decide +kernel) ?_
      refine x_b (fun r7_ S7 e7 => ?_)
      refine x_callVi (As := [.ref (1000 + 2)]) dX3_word_81 (aMet_of e7 (m_X3_takesAll hR (2) (Nat.le_of_ble_eq_true rfl) S1)) g_X3_word_85 rfl hR.1 rfl dd_X3_takesAll rfl rfl (Nat.le_of_ble_eq_true rfl) (Nat.le_of_ble_eq_true rfl) (Nat.le_of_ble_eq_true rfl) ?_
      refine x_if_eq (tgt := 91) dX3_word_84 (by decide) ?_ ?_
      · refine x_iconst (-1 : Int32) dX3_word_91 (by decide) ?_
        exact x_iret dX3_word_92 rfl
      · refine x_iconst (4 : Int32) dX3_word_87 (by decide) ?_
        refine x_goto (tgt := 92) dX3_word_88 (by decide) ?_
        exact x_iret dX3_word_92 rfl
    · refine x_sw (115 : Int32) ?_ (fun hv2 => ?_)
      · refine x_look (off := 59) (tgt := 63) dX3_word_4 (by decide +kernel) (by decide +kernel) (by decide) ?_
        refine x_aload_n dX3_word_63 rfl rfl ?_
        refine x_ldcS (i := 1) (tx := "split") dX3_word_64 (by decide +kernel) ?_
        refine x_b (fun r6_ S6 e6 => ?_)
        refine x_callVi (As := [.ref (1000 + 1)]) dX3_word_66 (aMet_of e6 (m_X3_takesAll hR (1) (Nat.le_of_ble_eq_true rfl) S1)) g_X3_word_85 rfl hR.1 rfl dd_X3_takesAll rfl rfl (Nat.le_of_ble_eq_true rfl) (Nat.le_of_ble_eq_true rfl) (Nat.le_of_ble_eq_true rfl) ?_
        refine x_if_eq (tgt := 76) dX3_word_69 (by decide) ?_ ?_
        · refine x_iconst (-1 : Int32) dX3_word_76 (by decide) ?_
          exact x_iret dX3_word_77 rfl
        · refine x_iconst (1 : Int32) dX3_word_72 (by decide) ?_
          refine x_goto (tgt := 77) dX3_word_73 (by decide) ?_
          exact x_iret dX3_word_77 rfl
      · refine x_sw (119 : Int32) ?_ (fun hv3 => ?_)
        · refine x_look (off := 89) (tgt := 93) dX3_word_4 (by decide +kernel) (by decide +kernel) (by decide) ?_
          refine x_aload_n dX3_word_93 rfl rfl ?_
          refine x_dup dX3_word_94 rfl ?_
          refine x_getI (k := 22) (j := 3) dX3_word_95 hR.1 rfl rfl (Nat.le_of_ble_eq_true rfl) (fun w h => List.mem_cons_of_mem _ (inlX3 w h)) w_X3_word_f32 ?_
          refine x_iconst (1 : Int32) dX3_word_98 (by decide) ?_
          refine x_iadd dX3_word_99 ?_
          refine x_putI (k := 22) (j := 3) dX3_word_100 hR.1 rfl rfl (Nat.le_of_ble_eq_true rfl) (fun w h => List.mem_cons_of_mem _ (inlX3 w h)) w_X3_word_f32 tyX3 tyX3_ok nmX3 rfl (by decide +kernel) ?_
          refine x_ltS (fun S2 => ?_)
          refine x_aload_n dX3_word_103 rfl rfl ?_
          refine x_b (fun r3_ S3 e3 => ?_)
          refine x_callVi (As := []) dX3_word_104 (aMet_of e3 (m_X3_next hR S2)) g_X3_word_46 rfl hR.1 rfl dd_X3_next rfl rfl (Nat.le_of_ble_eq_true rfl) (Nat.le_of_ble_eq_true rfl) (Nat.le_of_ble_eq_true rfl) ?_
          refine x_bipush (105 : Int32) dX3_word_107 (by decide) ?_
          refine x_icmp_ne (tgt := 127) dX3_word_109 (by decide) ?_ ?_
          · refine x_aload_n dX3_word_127 rfl rfl ?_
            refine x_ldcS (i := 4) (tx := "edge") dX3_word_128 (by decide +kernel) ?_
            refine x_b (fun r4_ S4 e4 => ?_)
            refine x_callVi (As := [.ref (1000 + 4)]) dX3_word_130 (aMet_of e4 (m_X3_takesAll hR (4) (Nat.le_of_ble_eq_true rfl) S3)) g_X3_word_85 rfl hR.1 rfl dd_X3_takesAll rfl rfl (Nat.le_of_ble_eq_true rfl) (Nat.le_of_ble_eq_true rfl) (Nat.le_of_ble_eq_true rfl) ?_
            refine x_if_eq (tgt := 140) dX3_word_133 (by decide) ?_ ?_
            · refine x_iconst (-1 : Int32) dX3_word_140 (by decide) ?_
              exact x_iret dX3_word_141 rfl
            · refine x_iconst (3 : Int32) dX3_word_136 (by decide) ?_
              refine x_goto (tgt := 141) dX3_word_137 (by decide) ?_
              exact x_iret dX3_word_141 rfl
          · refine x_aload_n dX3_word_112 rfl rfl ?_
            refine x_ldcS (i := 3) (tx := "ind") dX3_word_113 (by decide +kernel) ?_
            refine x_b (fun r5_ S5 e5 => ?_)
            refine x_callVi (As := [.ref (1000 + 3)]) dX3_word_115 (aMet_of e5 (m_X3_takesAll hR (3) (Nat.le_of_ble_eq_true rfl) S3)) g_X3_word_85 rfl hR.1 rfl dd_X3_takesAll rfl rfl (Nat.le_of_ble_eq_true rfl) (Nat.le_of_ble_eq_true rfl) (Nat.le_of_ble_eq_true rfl) ?_
            refine x_if_eq (tgt := 125) dX3_word_118 (by decide) ?_ ?_
            · refine x_iconst (-1 : Int32) dX3_word_125 (by decide) ?_
              exact x_iret dX3_word_126 rfl
            · refine x_iconst (2 : Int32) dX3_word_121 (by decide) ?_
              refine x_goto (tgt := 126) dX3_word_122 (by decide) ?_
              exact x_iret dX3_word_126 rfl
        · refine x_look (off := 138) (tgt := 142) dX3_word_4 (by decide +kernel) (a_lookN [(104 : Int32), (114 : Int32), (115 : Int32), (119 : Int32)] (by decide +kernel) (List.forall_mem_cons.mpr ⟨hv0, (List.forall_mem_cons.mpr ⟨hv1, (List.forall_mem_cons.mpr ⟨hv2, (List.forall_mem_cons.mpr ⟨hv3, (fun _ h => absurd h List.not_mem_nil)⟩)⟩)⟩)⟩)) (by decide) ?_
          refine x_iconst (-1 : Int32) dX3_word_142 (by decide) ?_
          exact x_iret dX3_word_143 rfl
theorem dd_X3_number : yX3_number.cls = RX3 ∧ yX3_number.cls ≠ "java/lang/invoke/MethodHandle" ∧ yX3_number.cls ≠ "java/lang/invoke/VarHandle" ∧ (parseMethodDescriptor yX3_number.desc).map (fun d => d.parameters.length) = some 0 := by decide +kernel
theorem dd_X5_put : yX5_put.cls = RX5 ∧ yX5_put.cls ≠ "java/lang/invoke/MethodHandle" ∧ yX5_put.cls ≠ "java/lang/invoke/VarHandle" ∧ (parseMethodDescriptor yX5_put.desc).map (fun d => d.parameters.length) = some 1 := by decide +kernel
theorem g_X3_test_98 : GoodIn uX3_test (wsV yX3_test.cls 98 RX3 yX3_takesOne uX3_takesOne) := gU_V (wU_r10 _ (List.mem_of_getElem? (i := 5) rfl)) (wU_r10 _ (List.mem_of_getElem? (i := 6) rfl)) (wU_r10 _ (List.mem_of_getElem? (i := 7) rfl)) (wU_r1 _ (List.mem_of_getElem? (i := 19) rfl)) (wU_r10 _ (List.mem_of_getElem? (i := 8) rfl))
theorem g_X3_test_66 : GoodIn uX3_test (wsV yX3_test.cls 66 RX3 yX3_number uX3_number) := gU_V (wU_r10 _ (List.mem_of_getElem? (i := 1) rfl)) (wU_r10 _ (List.mem_of_getElem? (i := 2) rfl)) (wU_r10 _ (List.mem_of_getElem? (i := 3) rfl)) (wU_r1 _ (List.mem_of_getElem? (i := 19) rfl)) (wU_r10 _ (List.mem_of_getElem? (i := 4) rfl))
theorem w_X3_test_f12 : Cond.fieldLink yX3_test.cls 12 (TX3 0).1 (TX3 0).2.1 (TX3 0).2.2.1 ∈ uX3_test := List.mem_cons_of_mem _ (wU_r4 _ (List.mem_of_getElem? (i := 0) rfl))
theorem g_X3_test_105 : GoodIn uX3_test (wsV yX3_test.cls 105 RX5 yX5_put uX5_put) := gU_V (wU_r13 _ (List.mem_of_getElem? (i := 5) rfl)) (wU_r13 _ (List.mem_of_getElem? (i := 6) rfl)) (wU_r13 _ (List.mem_of_getElem? (i := 7) rfl)) (wU_r2 _ (List.mem_of_getElem? (i := 20) rfl)) (wU_r13 _ (List.mem_of_getElem? (i := 8) rfl))
def f_X3_test  (S : aSt) : Option (Int32 × aSt) := (aB (f_X3_takesOne (6) S) (fun r1_ S1 => (if r1_ = (-1 : Int32) then (some ((0 : Int32), S1)) else (aB (f_X3_takesOne (7) S1) (fun r2_ S2 => (if r2_ = (-1 : Int32) then (some ((0 : Int32), S2)) else (aB (f_X3_number S2) (fun r3_ S3 => (if r3_ = (-1 : Int32) then (some ((0 : Int32), S3)) else (aB (f_X5_put (23) ((((512 : Int32) * r1_) + ((128 : Int32) * r2_)) + r3_) S3) (fun r4_ S4 => (some ((1 : Int32), S4)))))))))))))
set_option maxRecDepth 20000 in
set_option maxHeartbeats 4000000 in
theorem m_X3_test {G : aG} (hR : aRd G)  (S : aSt) : aMet G yX3_test uX3_test 8 mk_i (f_X3_test S) [.ref (22)] S := by
  refine x_met (cc := cX3_test) (nL := 4) (ret := (some .boolean)) (L := [some (.ref (22)), none, none, none]) (by decide +kernel) rfl (And.intro rfl trivial) (Nat.le_of_ble_eq_true rfl) ?_
  unfold f_X3_test
  refine x_aload_n dX3_test_0 rfl rfl ?_
  refine x_ldcS (i := 6) (tx := "tkhlow") dX3_test_1 (by decide +kernel) ?_
  refine x_b (fun r1_ S1 e1 => ?_)
  refine x_callVi (As := [.ref (1000 + 6)]) dX3_test_3 (aMet_of e1 (m_X3_takesOne hR (6) (Nat.le_of_ble_eq_true rfl) S)) g_X3_test_98 rfl hR.1 rfl dd_X3_takesOne rfl rfl (Nat.le_of_ble_eq_true rfl) (Nat.le_of_ble_eq_true rfl) (Nat.le_of_ble_eq_true rfl) ?_
  refine x_istore_n dX3_test_6 rfl (Nat.le_of_ble_eq_true rfl) rfl ?_
  refine x_iload_n dX3_test_7 rfl rfl ?_
  refine x_iconst (-1 : Int32) dX3_test_8 (by decide) ?_
  refine x_icmp_ne (tgt := 14) dX3_test_9 (by decide) ?_ ?_
  · refine x_aload_n dX3_test_14 rfl rfl ?_
    refine x_ldcS (i := 7) (tx := "<=>") dX3_test_15 (by decide +kernel) ?_
    refine x_b (fun r2_ S2 e2 => ?_)
    refine x_callVi (As := [.ref (1000 + 7)]) dX3_test_17 (aMet_of e2 (m_X3_takesOne hR (7) (Nat.le_of_ble_eq_true rfl) S1)) g_X3_test_98 rfl hR.1 rfl dd_X3_takesOne rfl rfl (Nat.le_of_ble_eq_true rfl) (Nat.le_of_ble_eq_true rfl) (Nat.le_of_ble_eq_true rfl) ?_
    refine x_istore_n dX3_test_20 rfl (Nat.le_of_ble_eq_true rfl) rfl ?_
    refine x_iload_n dX3_test_21 rfl rfl ?_
    refine x_iconst (-1 : Int32) dX3_test_22 (by decide) ?_
    refine x_icmp_ne (tgt := 28) dX3_test_23 (by decide) ?_ ?_
    · refine x_aload_n dX3_test_28 rfl rfl ?_
      refine x_b (fun r3_ S3 e3 => ?_)
      refine x_callVi (As := []) dX3_test_29 (aMet_of e3 (m_X3_number hR S2)) g_X3_test_66 rfl hR.1 rfl dd_X3_number rfl rfl (Nat.le_of_ble_eq_true rfl) (Nat.le_of_ble_eq_true rfl) (Nat.le_of_ble_eq_true rfl) ?_
      refine x_istore_n dX3_test_32 rfl (Nat.le_of_ble_eq_true rfl) rfl ?_
      refine x_iload_n dX3_test_33 rfl rfl ?_
      refine x_iconst (-1 : Int32) dX3_test_34 (by decide) ?_
      refine x_icmp_ne (tgt := 40) dX3_test_35 (by decide) ?_ ?_
      · refine x_aload_n dX3_test_40 rfl rfl ?_
        refine x_getR (r := 23) (k := 22) (j := 0) dX3_test_41 hR.1 rfl rfl (Nat.le_of_ble_eq_true rfl) (fun w h => List.mem_cons_of_mem _ (inlX3 w h)) w_X3_test_f12 ?_
        refine x_sipush (512 : Int32) dX3_test_44 (by decide) ?_
        refine x_iload_n dX3_test_47 rfl rfl ?_
        refine x_imul dX3_test_48 ?_
        refine x_sipush (128 : Int32) dX3_test_49 (by decide) ?_
        refine x_iload_n dX3_test_52 rfl rfl ?_
        refine x_imul dX3_test_53 ?_
        refine x_iadd dX3_test_54 ?_
        refine x_iload_n dX3_test_55 rfl rfl ?_
        refine x_iadd dX3_test_56 ?_
        refine x_b (fun r4_ S4 e4 => ?_)
        refine x_callVv (As := [.int ((((512 : Int32) * r1_) + ((128 : Int32) * r2_)) + r3_)]) dX3_test_57 (aMet_of e4 (m_X5_put (23) hR.2.1 ((((512 : Int32) * r1_) + ((128 : Int32) * r2_)) + r3_) S3)) g_X3_test_105 rfl hR.2.1.1 rfl dd_X5_put rfl rfl (Nat.le_of_ble_eq_true rfl) (Nat.le_of_ble_eq_true rfl) (Nat.le_of_ble_eq_true rfl) ?_
        refine x_iconst (1 : Int32) dX3_test_60 (by decide) ?_
        exact x_zret dX3_test_61 rfl rfl
      · refine x_iconst (0 : Int32) dX3_test_38 (by decide) ?_
        exact x_zret dX3_test_39 rfl rfl
    · refine x_iconst (0 : Int32) dX3_test_26 (by decide) ?_
      exact x_zret dX3_test_27 rfl rfl
  · refine x_iconst (0 : Int32) dX3_test_12 (by decide) ?_
    exact x_zret dX3_test_13 rfl rfl
theorem dd_X3_single : yX3_single.cls = RX3 ∧ yX3_single.cls ≠ "java/lang/invoke/MethodHandle" ∧ yX3_single.cls ≠ "java/lang/invoke/VarHandle" ∧ (parseMethodDescriptor yX3_single.desc).map (fun d => d.parameters.length) = some 1 := by decide +kernel
theorem dd_X3_both : yX3_both.cls = RX3 ∧ yX3_both.cls ≠ "java/lang/invoke/MethodHandle" ∧ yX3_both.cls ≠ "java/lang/invoke/VarHandle" ∧ (parseMethodDescriptor yX3_both.desc).map (fun d => d.parameters.length) = some 1 := by decide +kernel
theorem dd_X3_test : yX3_test.cls = RX3 ∧ yX3_test.cls ≠ "java/lang/invoke/MethodHandle" ∧ yX3_test.cls ≠ "java/lang/invoke/VarHandle" ∧ (parseMethodDescriptor yX3_test.desc).map (fun d => d.parameters.length) = some 0 := by decide +kernel
theorem dd_X3_either : yX3_either.cls = RX3 ∧ yX3_either.cls ≠ "java/lang/invoke/MethodHandle" ∧ yX3_either.cls ≠ "java/lang/invoke/VarHandle" ∧ (parseMethodDescriptor yX3_either.desc).map (fun d => d.parameters.length) = some 1 := by decide +kernel
theorem g_X3_both_109 : GoodIn uX3_both (wsV yX3_both.cls 109 RX3 yX3_single uX3_single) := gU_V (wU_r13 _ (List.mem_of_getElem? (i := 10) rfl)) (wU_r13 _ (List.mem_of_getElem? (i := 11) rfl)) (wU_r13 _ (List.mem_of_getElem? (i := 12) rfl)) (wU_r1 _ (List.mem_of_getElem? (i := 19) rfl)) (wU_r13 _ (List.mem_of_getElem? (i := 13) rfl))
theorem g_X3_both_38 : GoodIn uX3_both (wsV yX3_both.cls 38 RX3 yX3_takes uX3_takes) := gU_V (wU_r7 _ (List.mem_of_getElem? (i := 2) rfl)) (wU_r7 _ (List.mem_of_getElem? (i := 3) rfl)) (wU_r7 _ (List.mem_of_getElem? (i := 4) rfl)) (wU_r1 _ (List.mem_of_getElem? (i := 19) rfl)) (wU_r7 _ (List.mem_of_getElem? (i := 5) rfl))
theorem w_X3_both_f12 : Cond.fieldLink yX3_both.cls 12 (TX3 0).1 (TX3 0).2.1 (TX3 0).2.2.1 ∈ uX3_both := List.mem_cons_of_mem _ (wU_r4 _ (List.mem_of_getElem? (i := 0) rfl))
theorem g_X3_both_105 : GoodIn uX3_both (wsV yX3_both.cls 105 RX5 yX5_put uX5_put) := gU_V (wU_r13 _ (List.mem_of_getElem? (i := 5) rfl)) (wU_r13 _ (List.mem_of_getElem? (i := 6) rfl)) (wU_r13 _ (List.mem_of_getElem? (i := 7) rfl)) (wU_r2 _ (List.mem_of_getElem? (i := 20) rfl)) (wU_r13 _ (List.mem_of_getElem? (i := 8) rfl))
def f_X3_both_12 (c_X3_both : Int32 → aSt → Option (Int32 × aSt)) (c_X3_either : Int32 → aSt → Option (Int32 × aSt)) (c_X3_single : Int32 → aSt → Option (Int32 × aSt))  : Nat → Int32 → Int32 → aSt → Option (Int32 × aSt)
  | 0, _, _, _ => none
  | n + 1, l1, l2, S => (if (100 : Int32) ≤ l2 then (some ((1 : Int32), S)) else (aB (f_X3_takes (38 : Int32) S) (fun r2_ S2 => (if r2_ = 0 then (some ((1 : Int32), S2)) else (aB (c_X3_single l1 S2) (fun r3_ S3 => (if r3_ = 0 then (some ((0 : Int32), S3)) else (aB (f_X5_put (23) (-2 : Int32) S3) (fun r4_ S4 => (aLt (l2 + (1 : Int32)) (fun x5 => (f_X3_both_12 c_X3_both c_X3_either c_X3_single n l1 x5 S4))))))))))))
set_option maxRecDepth 20000 in
set_option maxHeartbeats 4000000 in
theorem v_X3_both_12 {G : aG} (hR : aRd G) {d dc : Nat} (hdc : dc + 1 ≤ d) (hd0 : 9 ≤ d) (c_X3_both : Int32 → aSt → Option (Int32 × aSt)) (hc_X3_both : ∀ (z1 : Int32) (S : aSt), aMet G yX3_both uX3_both dc mk_i (c_X3_both z1 S) [.ref (22), .int z1] S) (c_X3_either : Int32 → aSt → Option (Int32 × aSt)) (hc_X3_either : ∀ (z1 : Int32) (S : aSt), aMet G yX3_either uX3_either dc mk_i (c_X3_either z1 S) [.ref (22), .int z1] S) (c_X3_single : Int32 → aSt → Option (Int32 × aSt)) (hc_X3_single : ∀ (z1 : Int32) (S : aSt), aMet G yX3_single uX3_single dc mk_i (c_X3_single z1 S) [.ref (22), .int z1] S) : ∀ (n : Nat) (l1 : Int32) (l2 : Int32) (S : aSt), aX G yX3_both cX3_both 3 (some .boolean) uX3_both d mk_i (f_X3_both_12 c_X3_both c_X3_either c_X3_single n l1 l2 S) 12 [some (.ref (22)), some (.int l1), some (.int l2)] [] S := by
  intro n
  induction n with
  | zero => intro l1 l2 S; exact x_none
  | succ n ih =>
    intro l1 l2 S
    unfold f_X3_both_12
    refine x_iload_n dX3_both_12 rfl rfl ?_
    refine x_bipush (100 : Int32) dX3_both_13 (by decide) ?_
    refine x_icmp_ge (tgt := 52) dX3_both_15 (by decide) ?_ ?_
    · refine x_iconst (1 : Int32) dX3_both_52 (by decide) ?_
      exact x_zret dX3_both_53 rfl rfl
    · refine x_aload_n dX3_both_18 rfl rfl ?_
      refine x_bipush (38 : Int32) dX3_both_19 (by decide) ?_
      refine x_b (fun r2_ S2 e2 => ?_)
      refine x_callVi (As := [.int (38 : Int32)]) dX3_both_21 (aMet_of e2 (m_X3_takes hR (38 : Int32) S)) g_X3_both_38 rfl hR.1 rfl dd_X3_takes rfl rfl (Nat.le_of_ble_eq_true rfl) (Nat.le_trans (Nat.le_of_ble_eq_true rfl : 4 ≤ 9) hd0) (Nat.le_of_ble_eq_true rfl) ?_
      refine x_if_eq (tgt := 52) dX3_both_24 (by decide) ?_ ?_
      · refine x_iconst (1 : Int32) dX3_both_52 (by decide) ?_
        exact x_zret dX3_both_53 rfl rfl
      · refine x_aload_n dX3_both_27 rfl rfl ?_
        refine x_iload_n dX3_both_28 rfl rfl ?_
        refine x_b (fun r3_ S3 e3 => ?_)
        refine x_callVi (As := [.int l1]) dX3_both_29 (aMet_of e3 (hc_X3_single l1 S2)) g_X3_both_109 rfl hR.1 rfl dd_X3_single rfl rfl (Nat.le_of_ble_eq_true rfl) hdc (Nat.le_of_ble_eq_true rfl) ?_
        refine x_if_ne (tgt := 37) dX3_both_32 (by decide) ?_ ?_
        · refine x_aload_n dX3_both_37 rfl rfl ?_
          refine x_getR (r := 23) (k := 22) (j := 0) dX3_both_38 hR.1 rfl rfl (Nat.le_of_ble_eq_true rfl) (fun w h => List.mem_cons_of_mem _ (inlX3 w h)) w_X3_both_f12 ?_
          refine x_bipush (-2 : Int32) dX3_both_41 (by decide) ?_
          refine x_b (fun r4_ S4 e4 => ?_)
          refine x_callVv (As := [.int (-2 : Int32)]) dX3_both_43 (aMet_of e4 (m_X5_put (23) hR.2.1 (-2 : Int32) S3)) g_X3_both_105 rfl hR.2.1.1 rfl dd_X5_put rfl rfl (Nat.le_of_ble_eq_true rfl) (Nat.le_trans (Nat.le_of_ble_eq_true rfl : 3 ≤ 9) hd0) (Nat.le_of_ble_eq_true rfl) ?_
          refine x_iincL (w := (1 : Int32)) dX3_both_46 rfl (by decide) (Nat.le_of_ble_eq_true rfl) rfl (fun x5 => ?_)
          refine x_goto (tgt := 12) dX3_both_49 (by decide) ?_
          exact x_le (ih l1 x5 S4) (And.intro rfl (And.intro rfl (And.intro rfl trivial)))
        · refine x_iconst (0 : Int32) dX3_both_35 (by decide) ?_
          exact x_zret dX3_both_36 rfl rfl
def f_X3_both (c_X3_both : Int32 → aSt → Option (Int32 × aSt)) (c_X3_either : Int32 → aSt → Option (Int32 × aSt)) (c_X3_single : Int32 → aSt → Option (Int32 × aSt)) (p1 : Int32) (S : aSt) : Option (Int32 × aSt) := (aB (c_X3_single p1 S) (fun r1_ S1 => (if r1_ = 0 then (some ((0 : Int32), S1)) else (f_X3_both_12 c_X3_both c_X3_either c_X3_single aF p1 (0 : Int32) S1))))
set_option maxRecDepth 20000 in
set_option maxHeartbeats 4000000 in
theorem m_X3_both {G : aG} (hR : aRd G) {d dc : Nat} (hdc : dc + 1 ≤ d) (hd0 : 9 ≤ d) (c_X3_both : Int32 → aSt → Option (Int32 × aSt)) (hc_X3_both : ∀ (z1 : Int32) (S : aSt), aMet G yX3_both uX3_both dc mk_i (c_X3_both z1 S) [.ref (22), .int z1] S) (c_X3_either : Int32 → aSt → Option (Int32 × aSt)) (hc_X3_either : ∀ (z1 : Int32) (S : aSt), aMet G yX3_either uX3_either dc mk_i (c_X3_either z1 S) [.ref (22), .int z1] S) (c_X3_single : Int32 → aSt → Option (Int32 × aSt)) (hc_X3_single : ∀ (z1 : Int32) (S : aSt), aMet G yX3_single uX3_single dc mk_i (c_X3_single z1 S) [.ref (22), .int z1] S) (p1 : Int32) (S : aSt) : aMet G yX3_both uX3_both d mk_i (f_X3_both c_X3_both c_X3_either c_X3_single p1 S) [.ref (22), .int p1] S := by
  refine x_met (cc := cX3_both) (nL := 3) (ret := (some .boolean)) (L := [some (.ref (22)), some (.int p1), none]) (by decide +kernel) rfl (And.intro rfl (And.intro rfl trivial)) (Nat.le_of_ble_eq_true rfl) ?_
  unfold f_X3_both
  refine x_aload_n dX3_both_0 rfl rfl ?_
  refine x_iload_n dX3_both_1 rfl rfl ?_
  refine x_b (fun r1_ S1 e1 => ?_)
  refine x_callVi (As := [.int p1]) dX3_both_2 (aMet_of e1 (hc_X3_single p1 S)) g_X3_both_109 rfl hR.1 rfl dd_X3_single rfl rfl (Nat.le_of_ble_eq_true rfl) hdc (Nat.le_of_ble_eq_true rfl) ?_
  refine x_if_ne (tgt := 10) dX3_both_5 (by decide) ?_ ?_
  · refine x_iconst (0 : Int32) dX3_both_10 (by decide) ?_
    refine x_istore_n dX3_both_11 rfl (Nat.le_of_ble_eq_true rfl) rfl ?_
    exact x_le (v_X3_both_12 hR hdc hd0 c_X3_both hc_X3_both c_X3_either hc_X3_either c_X3_single hc_X3_single aF p1 (0 : Int32) S1) (And.intro rfl (And.intro rfl (And.intro rfl trivial)))
  · refine x_iconst (0 : Int32) dX3_both_8 (by decide) ?_
    exact x_zret dX3_both_9 rfl rfl
theorem g_X3_either_102 : GoodIn uX3_either (wsV yX3_either.cls 102 RX3 yX3_both uX3_both) := gU_V (wU_r13 _ (List.mem_of_getElem? (i := 2) rfl)) (wU_r13 _ (List.mem_of_getElem? (i := 3) rfl)) (wU_r13 _ (List.mem_of_getElem? (i := 4) rfl)) (wU_r1 _ (List.mem_of_getElem? (i := 19) rfl)) (wU_r13 _ (List.mem_of_getElem? (i := 9) rfl))
theorem g_X3_either_38 : GoodIn uX3_either (wsV yX3_either.cls 38 RX3 yX3_takes uX3_takes) := gU_V (wU_r7 _ (List.mem_of_getElem? (i := 2) rfl)) (wU_r7 _ (List.mem_of_getElem? (i := 3) rfl)) (wU_r7 _ (List.mem_of_getElem? (i := 4) rfl)) (wU_r1 _ (List.mem_of_getElem? (i := 19) rfl)) (wU_r7 _ (List.mem_of_getElem? (i := 5) rfl))
theorem w_X3_either_f12 : Cond.fieldLink yX3_either.cls 12 (TX3 0).1 (TX3 0).2.1 (TX3 0).2.2.1 ∈ uX3_either := List.mem_cons_of_mem _ (wU_r4 _ (List.mem_of_getElem? (i := 0) rfl))
theorem g_X3_either_105 : GoodIn uX3_either (wsV yX3_either.cls 105 RX5 yX5_put uX5_put) := gU_V (wU_r13 _ (List.mem_of_getElem? (i := 5) rfl)) (wU_r13 _ (List.mem_of_getElem? (i := 6) rfl)) (wU_r13 _ (List.mem_of_getElem? (i := 7) rfl)) (wU_r2 _ (List.mem_of_getElem? (i := 20) rfl)) (wU_r13 _ (List.mem_of_getElem? (i := 8) rfl))
def f_X3_either_12 (c_X3_both : Int32 → aSt → Option (Int32 × aSt)) (c_X3_either : Int32 → aSt → Option (Int32 × aSt)) (c_X3_single : Int32 → aSt → Option (Int32 × aSt))  : Nat → Int32 → Int32 → aSt → Option (Int32 × aSt)
  | 0, _, _, _ => none
  | n + 1, l1, l2, S => (if (100 : Int32) ≤ l2 then (some ((1 : Int32), S)) else (aB (f_X3_takes (124 : Int32) S) (fun r2_ S2 => (if r2_ = 0 then (some ((1 : Int32), S2)) else (aB (c_X3_both l1 S2) (fun r3_ S3 => (if r3_ = 0 then (some ((0 : Int32), S3)) else (aB (f_X5_put (23) (-3 : Int32) S3) (fun r4_ S4 => (aLt (l2 + (1 : Int32)) (fun x5 => (f_X3_either_12 c_X3_both c_X3_either c_X3_single n l1 x5 S4))))))))))))
set_option maxRecDepth 20000 in
set_option maxHeartbeats 4000000 in
theorem v_X3_either_12 {G : aG} (hR : aRd G) {d dc : Nat} (hdc : dc + 1 ≤ d) (hd0 : 9 ≤ d) (c_X3_both : Int32 → aSt → Option (Int32 × aSt)) (hc_X3_both : ∀ (z1 : Int32) (S : aSt), aMet G yX3_both uX3_both dc mk_i (c_X3_both z1 S) [.ref (22), .int z1] S) (c_X3_either : Int32 → aSt → Option (Int32 × aSt)) (hc_X3_either : ∀ (z1 : Int32) (S : aSt), aMet G yX3_either uX3_either dc mk_i (c_X3_either z1 S) [.ref (22), .int z1] S) (c_X3_single : Int32 → aSt → Option (Int32 × aSt)) (hc_X3_single : ∀ (z1 : Int32) (S : aSt), aMet G yX3_single uX3_single dc mk_i (c_X3_single z1 S) [.ref (22), .int z1] S) : ∀ (n : Nat) (l1 : Int32) (l2 : Int32) (S : aSt), aX G yX3_either cX3_either 3 (some .boolean) uX3_either d mk_i (f_X3_either_12 c_X3_both c_X3_either c_X3_single n l1 l2 S) 12 [some (.ref (22)), some (.int l1), some (.int l2)] [] S := by
  intro n
  induction n with
  | zero => intro l1 l2 S; exact x_none
  | succ n ih =>
    intro l1 l2 S
    unfold f_X3_either_12
    refine x_iload_n dX3_either_12 rfl rfl ?_
    refine x_bipush (100 : Int32) dX3_either_13 (by decide) ?_
    refine x_icmp_ge (tgt := 52) dX3_either_15 (by decide) ?_ ?_
    · refine x_iconst (1 : Int32) dX3_either_52 (by decide) ?_
      exact x_zret dX3_either_53 rfl rfl
    · refine x_aload_n dX3_either_18 rfl rfl ?_
      refine x_bipush (124 : Int32) dX3_either_19 (by decide) ?_
      refine x_b (fun r2_ S2 e2 => ?_)
      refine x_callVi (As := [.int (124 : Int32)]) dX3_either_21 (aMet_of e2 (m_X3_takes hR (124 : Int32) S)) g_X3_either_38 rfl hR.1 rfl dd_X3_takes rfl rfl (Nat.le_of_ble_eq_true rfl) (Nat.le_trans (Nat.le_of_ble_eq_true rfl : 4 ≤ 9) hd0) (Nat.le_of_ble_eq_true rfl) ?_
      refine x_if_eq (tgt := 52) dX3_either_24 (by decide) ?_ ?_
      · refine x_iconst (1 : Int32) dX3_either_52 (by decide) ?_
        exact x_zret dX3_either_53 rfl rfl
      · refine x_aload_n dX3_either_27 rfl rfl ?_
        refine x_iload_n dX3_either_28 rfl rfl ?_
        refine x_b (fun r3_ S3 e3 => ?_)
        refine x_callVi (As := [.int l1]) dX3_either_29 (aMet_of e3 (hc_X3_both l1 S2)) g_X3_either_102 rfl hR.1 rfl dd_X3_both rfl rfl (Nat.le_of_ble_eq_true rfl) hdc (Nat.le_of_ble_eq_true rfl) ?_
        refine x_if_ne (tgt := 37) dX3_either_32 (by decide) ?_ ?_
        · refine x_aload_n dX3_either_37 rfl rfl ?_
          refine x_getR (r := 23) (k := 22) (j := 0) dX3_either_38 hR.1 rfl rfl (Nat.le_of_ble_eq_true rfl) (fun w h => List.mem_cons_of_mem _ (inlX3 w h)) w_X3_either_f12 ?_
          refine x_bipush (-3 : Int32) dX3_either_41 (by decide) ?_
          refine x_b (fun r4_ S4 e4 => ?_)
          refine x_callVv (As := [.int (-3 : Int32)]) dX3_either_43 (aMet_of e4 (m_X5_put (23) hR.2.1 (-3 : Int32) S3)) g_X3_either_105 rfl hR.2.1.1 rfl dd_X5_put rfl rfl (Nat.le_of_ble_eq_true rfl) (Nat.le_trans (Nat.le_of_ble_eq_true rfl : 3 ≤ 9) hd0) (Nat.le_of_ble_eq_true rfl) ?_
          refine x_iincL (w := (1 : Int32)) dX3_either_46 rfl (by decide) (Nat.le_of_ble_eq_true rfl) rfl (fun x5 => ?_)
          refine x_goto (tgt := 12) dX3_either_49 (by decide) ?_
          exact x_le (ih l1 x5 S4) (And.intro rfl (And.intro rfl (And.intro rfl trivial)))
        · refine x_iconst (0 : Int32) dX3_either_35 (by decide) ?_
          exact x_zret dX3_either_36 rfl rfl
def f_X3_either (c_X3_both : Int32 → aSt → Option (Int32 × aSt)) (c_X3_either : Int32 → aSt → Option (Int32 × aSt)) (c_X3_single : Int32 → aSt → Option (Int32 × aSt)) (p1 : Int32) (S : aSt) : Option (Int32 × aSt) := (aB (c_X3_both p1 S) (fun r1_ S1 => (if r1_ = 0 then (some ((0 : Int32), S1)) else (f_X3_either_12 c_X3_both c_X3_either c_X3_single aF p1 (0 : Int32) S1))))
set_option maxRecDepth 20000 in
set_option maxHeartbeats 4000000 in
theorem m_X3_either {G : aG} (hR : aRd G) {d dc : Nat} (hdc : dc + 1 ≤ d) (hd0 : 9 ≤ d) (c_X3_both : Int32 → aSt → Option (Int32 × aSt)) (hc_X3_both : ∀ (z1 : Int32) (S : aSt), aMet G yX3_both uX3_both dc mk_i (c_X3_both z1 S) [.ref (22), .int z1] S) (c_X3_either : Int32 → aSt → Option (Int32 × aSt)) (hc_X3_either : ∀ (z1 : Int32) (S : aSt), aMet G yX3_either uX3_either dc mk_i (c_X3_either z1 S) [.ref (22), .int z1] S) (c_X3_single : Int32 → aSt → Option (Int32 × aSt)) (hc_X3_single : ∀ (z1 : Int32) (S : aSt), aMet G yX3_single uX3_single dc mk_i (c_X3_single z1 S) [.ref (22), .int z1] S) (p1 : Int32) (S : aSt) : aMet G yX3_either uX3_either d mk_i (f_X3_either c_X3_both c_X3_either c_X3_single p1 S) [.ref (22), .int p1] S := by
  refine x_met (cc := cX3_either) (nL := 3) (ret := (some .boolean)) (L := [some (.ref (22)), some (.int p1), none]) (by decide +kernel) rfl (And.intro rfl (And.intro rfl trivial)) (Nat.le_of_ble_eq_true rfl) ?_
  unfold f_X3_either
  refine x_aload_n dX3_either_0 rfl rfl ?_
  refine x_iload_n dX3_either_1 rfl rfl ?_
  refine x_b (fun r1_ S1 e1 => ?_)
  refine x_callVi (As := [.int p1]) dX3_either_2 (aMet_of e1 (hc_X3_both p1 S)) g_X3_either_102 rfl hR.1 rfl dd_X3_both rfl rfl (Nat.le_of_ble_eq_true rfl) hdc (Nat.le_of_ble_eq_true rfl) ?_
  refine x_if_ne (tgt := 10) dX3_either_5 (by decide) ?_ ?_
  · refine x_iconst (0 : Int32) dX3_either_10 (by decide) ?_
    refine x_istore_n dX3_either_11 rfl (Nat.le_of_ble_eq_true rfl) rfl ?_
    exact x_le (v_X3_either_12 hR hdc hd0 c_X3_both hc_X3_both c_X3_either hc_X3_either c_X3_single hc_X3_single aF p1 (0 : Int32) S1) (And.intro rfl (And.intro rfl (And.intro rfl trivial)))
  · refine x_iconst (0 : Int32) dX3_either_8 (by decide) ?_
    exact x_zret dX3_either_9 rfl rfl
theorem g_X3_single_46 : GoodIn uX3_single (wsV yX3_single.cls 46 RX3 yX3_next uX3_next) := gU_V (wU_r7 _ (List.mem_of_getElem? (i := 6) rfl)) (wU_r7 _ (List.mem_of_getElem? (i := 7) rfl)) (wU_r7 _ (List.mem_of_getElem? (i := 8) rfl)) (wU_r1 _ (List.mem_of_getElem? (i := 19) rfl)) (wU_r7 _ (List.mem_of_getElem? (i := 9) rfl))
theorem g_X3_single_112 : GoodIn uX3_single (wsV yX3_single.cls 112 RX3 yX3_test uX3_test) := gU_V (wU_r13 _ (List.mem_of_getElem? (i := 14) rfl)) (wU_r13 _ (List.mem_of_getElem? (i := 15) rfl)) (wU_r13 _ (List.mem_of_getElem? (i := 16) rfl)) (wU_r1 _ (List.mem_of_getElem? (i := 19) rfl)) (wU_r13 _ (List.mem_of_getElem? (i := 17) rfl))
theorem w_X3_single_f32 : Cond.fieldLink yX3_single.cls 32 (TX3 3).1 (TX3 3).2.1 (TX3 3).2.2.1 ∈ uX3_single := List.mem_cons_of_mem _ (wU_r7 _ (List.mem_of_getElem? (i := 0) rfl))
theorem g_X3_single_109 : GoodIn uX3_single (wsV yX3_single.cls 109 RX3 yX3_single uX3_single) := gU_V (wU_r13 _ (List.mem_of_getElem? (i := 10) rfl)) (wU_r13 _ (List.mem_of_getElem? (i := 11) rfl)) (wU_r13 _ (List.mem_of_getElem? (i := 12) rfl)) (wU_r1 _ (List.mem_of_getElem? (i := 19) rfl)) (wU_r13 _ (List.mem_of_getElem? (i := 13) rfl))
theorem w_X3_single_f12 : Cond.fieldLink yX3_single.cls 12 (TX3 0).1 (TX3 0).2.1 (TX3 0).2.2.1 ∈ uX3_single := List.mem_cons_of_mem _ (wU_r4 _ (List.mem_of_getElem? (i := 0) rfl))
theorem g_X3_single_105 : GoodIn uX3_single (wsV yX3_single.cls 105 RX5 yX5_put uX5_put) := gU_V (wU_r13 _ (List.mem_of_getElem? (i := 5) rfl)) (wU_r13 _ (List.mem_of_getElem? (i := 6) rfl)) (wU_r13 _ (List.mem_of_getElem? (i := 7) rfl)) (wU_r2 _ (List.mem_of_getElem? (i := 20) rfl)) (wU_r13 _ (List.mem_of_getElem? (i := 8) rfl))
theorem g_X3_single_75 : GoodIn uX3_single (wsV yX3_single.cls 75 RX3 yX3_either uX3_either) := gU_V (wU_r12 _ (List.mem_of_getElem? (i := 22) rfl)) (wU_r12 _ (List.mem_of_getElem? (i := 23) rfl)) (wU_r13 _ (List.mem_of_getElem? (i := 0) rfl)) (wU_r1 _ (List.mem_of_getElem? (i := 19) rfl)) (wU_r13 _ (List.mem_of_getElem? (i := 1) rfl))
theorem g_X3_single_38 : GoodIn uX3_single (wsV yX3_single.cls 38 RX3 yX3_takes uX3_takes) := gU_V (wU_r7 _ (List.mem_of_getElem? (i := 2) rfl)) (wU_r7 _ (List.mem_of_getElem? (i := 3) rfl)) (wU_r7 _ (List.mem_of_getElem? (i := 4) rfl)) (wU_r1 _ (List.mem_of_getElem? (i := 19) rfl)) (wU_r7 _ (List.mem_of_getElem? (i := 5) rfl))
def f_X3_single_22 (c_X3_both : Int32 → aSt → Option (Int32 × aSt)) (c_X3_either : Int32 → aSt → Option (Int32 × aSt)) (c_X3_single : Int32 → aSt → Option (Int32 × aSt))  (l1 : Int32) (l2 : Int32) (S : aSt) : Option (Int32 × aSt) := (if l1 < (5 : Int32) then (aLt (aUi S (22) 3 ((S.1 (22) 3) + (1 : Int32))) (fun S3 => (if l2 = (40 : Int32) then (aB (c_X3_either (l1 + (1 : Int32)) S3) (fun r6_ S6 => (if r6_ = 0 then (some ((0 : Int32), S6)) else (aB (f_X3_takes (41 : Int32) S6) (fun r7_ S7 => (if r7_ = 0 then (some ((0 : Int32), S7)) else (some ((1 : Int32), S7)))))))) else (aB (c_X3_single (l1 + (1 : Int32)) S3) (fun r4_ S4 => (if r4_ = 0 then (some ((0 : Int32), S4)) else (aB (f_X5_put (23) (-1 : Int32) S4) (fun r5_ S5 => (some ((1 : Int32), S5)))))))))) else (some ((0 : Int32), S)))
set_option maxRecDepth 20000 in
set_option maxHeartbeats 4000000 in
theorem v_X3_single_22 {G : aG} (hR : aRd G) {d dc : Nat} (hdc : dc + 1 ≤ d) (hd0 : 9 ≤ d) (c_X3_both : Int32 → aSt → Option (Int32 × aSt)) (hc_X3_both : ∀ (z1 : Int32) (S : aSt), aMet G yX3_both uX3_both dc mk_i (c_X3_both z1 S) [.ref (22), .int z1] S) (c_X3_either : Int32 → aSt → Option (Int32 × aSt)) (hc_X3_either : ∀ (z1 : Int32) (S : aSt), aMet G yX3_either uX3_either dc mk_i (c_X3_either z1 S) [.ref (22), .int z1] S) (c_X3_single : Int32 → aSt → Option (Int32 × aSt)) (hc_X3_single : ∀ (z1 : Int32) (S : aSt), aMet G yX3_single uX3_single dc mk_i (c_X3_single z1 S) [.ref (22), .int z1] S) (l1 : Int32) (l2 : Int32) (S : aSt) : aX G yX3_single cX3_single 3 (some .boolean) uX3_single d mk_i (f_X3_single_22 c_X3_both c_X3_either c_X3_single l1 l2 S) 22 [some (.ref (22)), some (.int l1), some (.int l2)] [] S := by
  unfold f_X3_single_22
  refine x_iload_n dX3_single_22 rfl rfl ?_
  refine x_iconst (5 : Int32) dX3_single_23 (by decide) ?_
  refine x_icmp_lt (tgt := 29) dX3_single_24 (by decide) ?_ ?_
  · refine x_aload_n dX3_single_29 rfl rfl ?_
    refine x_dup dX3_single_30 rfl ?_
    refine x_getI (k := 22) (j := 3) dX3_single_31 hR.1 rfl rfl (Nat.le_of_ble_eq_true rfl) (fun w h => List.mem_cons_of_mem _ (inlX3 w h)) w_X3_single_f32 ?_
    refine x_iconst (1 : Int32) dX3_single_34 (by decide) ?_
    refine x_iadd dX3_single_35 ?_
    refine x_putI (k := 22) (j := 3) dX3_single_36 hR.1 rfl rfl (Nat.le_of_ble_eq_true rfl) (fun w h => List.mem_cons_of_mem _ (inlX3 w h)) w_X3_single_f32 tyX3 tyX3_ok nmX3 rfl (by decide +kernel) ?_
    refine x_ltS (fun S3 => ?_)
    refine x_iload_n dX3_single_39 rfl rfl ?_
    refine x_bipush (40 : Int32) dX3_single_40 (by decide) ?_
    refine x_icmp_ne (tgt := 70) dX3_single_42 (by decide) ?_ ?_
    · refine x_aload_n dX3_single_70 rfl rfl ?_
      refine x_iload_n dX3_single_71 rfl rfl ?_
      refine x_iconst (1 : Int32) dX3_single_72 (by decide) ?_
      refine x_iadd dX3_single_73 ?_
      refine x_b (fun r4_ S4 e4 => ?_)
      refine x_callVi (As := [.int (l1 + (1 : Int32))]) dX3_single_74 (aMet_of e4 (hc_X3_single (l1 + (1 : Int32)) S3)) g_X3_single_109 rfl hR.1 rfl dd_X3_single rfl rfl (Nat.le_of_ble_eq_true rfl) hdc (Nat.le_of_ble_eq_true rfl) ?_
      refine x_if_ne (tgt := 82) dX3_single_77 (by decide) ?_ ?_
      · refine x_aload_n dX3_single_82 rfl rfl ?_
        refine x_getR (r := 23) (k := 22) (j := 0) dX3_single_83 hR.1 rfl rfl (Nat.le_of_ble_eq_true rfl) (fun w h => List.mem_cons_of_mem _ (inlX3 w h)) w_X3_single_f12 ?_
        refine x_iconst (-1 : Int32) dX3_single_86 (by decide) ?_
        refine x_b (fun r5_ S5 e5 => ?_)
        refine x_callVv (As := [.int (-1 : Int32)]) dX3_single_87 (aMet_of e5 (m_X5_put (23) hR.2.1 (-1 : Int32) S4)) g_X3_single_105 rfl hR.2.1.1 rfl dd_X5_put rfl rfl (Nat.le_of_ble_eq_true rfl) (Nat.le_trans (Nat.le_of_ble_eq_true rfl : 3 ≤ 9) hd0) (Nat.le_of_ble_eq_true rfl) ?_
        refine x_iconst (1 : Int32) dX3_single_90 (by decide) ?_
        exact x_zret dX3_single_91 rfl rfl
      · refine x_iconst (0 : Int32) dX3_single_80 (by decide) ?_
        exact x_zret dX3_single_81 rfl rfl
    · refine x_aload_n dX3_single_45 rfl rfl ?_
      refine x_iload_n dX3_single_46 rfl rfl ?_
      refine x_iconst (1 : Int32) dX3_single_47 (by decide) ?_
      refine x_iadd dX3_single_48 ?_
      refine x_b (fun r6_ S6 e6 => ?_)
      refine x_callVi (As := [.int (l1 + (1 : Int32))]) dX3_single_49 (aMet_of e6 (hc_X3_either (l1 + (1 : Int32)) S3)) g_X3_single_75 rfl hR.1 rfl dd_X3_either rfl rfl (Nat.le_of_ble_eq_true rfl) hdc (Nat.le_of_ble_eq_true rfl) ?_
      refine x_if_eq (tgt := 68) dX3_single_52 (by decide) ?_ ?_
      · refine x_iconst (0 : Int32) dX3_single_68 (by decide) ?_
        exact x_zret dX3_single_69 rfl rfl
      · refine x_aload_n dX3_single_55 rfl rfl ?_
        refine x_bipush (41 : Int32) dX3_single_56 (by decide) ?_
        refine x_b (fun r7_ S7 e7 => ?_)
        refine x_callVi (As := [.int (41 : Int32)]) dX3_single_58 (aMet_of e7 (m_X3_takes hR (41 : Int32) S6)) g_X3_single_38 rfl hR.1 rfl dd_X3_takes rfl rfl (Nat.le_of_ble_eq_true rfl) (Nat.le_trans (Nat.le_of_ble_eq_true rfl : 4 ≤ 9) hd0) (Nat.le_of_ble_eq_true rfl) ?_
        refine x_if_eq (tgt := 68) dX3_single_61 (by decide) ?_ ?_
        · refine x_iconst (0 : Int32) dX3_single_68 (by decide) ?_
          exact x_zret dX3_single_69 rfl rfl
        · refine x_iconst (1 : Int32) dX3_single_64 (by decide) ?_
          refine x_goto (tgt := 69) dX3_single_65 (by decide) ?_
          exact x_zret dX3_single_69 rfl rfl
  · refine x_iconst (0 : Int32) dX3_single_27 (by decide) ?_
    exact x_zret dX3_single_28 rfl rfl
def f_X3_single (c_X3_both : Int32 → aSt → Option (Int32 × aSt)) (c_X3_either : Int32 → aSt → Option (Int32 × aSt)) (c_X3_single : Int32 → aSt → Option (Int32 × aSt)) (p1 : Int32) (S : aSt) : Option (Int32 × aSt) := (aB (f_X3_next S) (fun r1_ S1 => (if r1_ = (33 : Int32) then (f_X3_single_22 c_X3_both c_X3_either c_X3_single p1 r1_ S1) else (if r1_ = (40 : Int32) then (f_X3_single_22 c_X3_both c_X3_either c_X3_single p1 r1_ S1) else (aB (f_X3_test S1) (fun r2_ S2 => (if r2_ = 0 ∨ r2_ = 1 then some (r2_, S2) else none)))))))
set_option maxRecDepth 20000 in
set_option maxHeartbeats 4000000 in
theorem m_X3_single {G : aG} (hR : aRd G) {d dc : Nat} (hdc : dc + 1 ≤ d) (hd0 : 9 ≤ d) (c_X3_both : Int32 → aSt → Option (Int32 × aSt)) (hc_X3_both : ∀ (z1 : Int32) (S : aSt), aMet G yX3_both uX3_both dc mk_i (c_X3_both z1 S) [.ref (22), .int z1] S) (c_X3_either : Int32 → aSt → Option (Int32 × aSt)) (hc_X3_either : ∀ (z1 : Int32) (S : aSt), aMet G yX3_either uX3_either dc mk_i (c_X3_either z1 S) [.ref (22), .int z1] S) (c_X3_single : Int32 → aSt → Option (Int32 × aSt)) (hc_X3_single : ∀ (z1 : Int32) (S : aSt), aMet G yX3_single uX3_single dc mk_i (c_X3_single z1 S) [.ref (22), .int z1] S) (p1 : Int32) (S : aSt) : aMet G yX3_single uX3_single d mk_i (f_X3_single c_X3_both c_X3_either c_X3_single p1 S) [.ref (22), .int p1] S := by
  refine x_met (cc := cX3_single) (nL := 3) (ret := (some .boolean)) (L := [some (.ref (22)), some (.int p1), none]) (by decide +kernel) rfl (And.intro rfl (And.intro rfl trivial)) (Nat.le_of_ble_eq_true rfl) ?_
  unfold f_X3_single
  refine x_aload_n dX3_single_0 rfl rfl ?_
  refine x_b (fun r1_ S1 e1 => ?_)
  refine x_callVi (As := []) dX3_single_1 (aMet_of e1 (m_X3_next hR S)) g_X3_single_46 rfl hR.1 rfl dd_X3_next rfl rfl (Nat.le_of_ble_eq_true rfl) (Nat.le_trans (Nat.le_of_ble_eq_true rfl : 3 ≤ 9) hd0) (Nat.le_of_ble_eq_true rfl) ?_
  refine x_istore_n dX3_single_4 rfl (Nat.le_of_ble_eq_true rfl) rfl ?_
  refine x_iload_n dX3_single_5 rfl rfl ?_
  refine x_bipush (33 : Int32) dX3_single_6 (by decide) ?_
  refine x_icmp_eq (tgt := 22) dX3_single_8 (by decide) ?_ ?_
  · exact x_le (v_X3_single_22 hR hdc hd0 c_X3_both hc_X3_both c_X3_either hc_X3_either c_X3_single hc_X3_single p1 r1_ S1) (And.intro rfl (And.intro rfl (And.intro rfl trivial)))
  · refine x_iload_n dX3_single_11 rfl rfl ?_
    refine x_bipush (40 : Int32) dX3_single_12 (by decide) ?_
    refine x_icmp_eq (tgt := 22) dX3_single_14 (by decide) ?_ ?_
    · exact x_le (v_X3_single_22 hR hdc hd0 c_X3_both hc_X3_both c_X3_either hc_X3_either c_X3_single hc_X3_single p1 r1_ S1) (And.intro rfl (And.intro rfl (And.intro rfl trivial)))
    · refine x_aload_n dX3_single_17 rfl rfl ?_
      refine x_b (fun r2_ S2 e2 => ?_)
      refine x_callVi (As := []) dX3_single_18 (aMet_of e2 (m_X3_test hR S1)) g_X3_single_112 rfl hR.1 rfl dd_X3_test rfl rfl (Nat.le_of_ble_eq_true rfl) (Nat.le_trans (Nat.le_of_ble_eq_true rfl : 9 ≤ 9) hd0) (Nat.le_of_ble_eq_true rfl) ?_
      exact x_zretc dX3_single_21 rfl
def g_X3_either : Nat → Nat → Int32 → aSt → Option (Int32 × aSt)
  | 0, _, _, _ => none
  | n + 1, 0, z0, S => f_X3_both (fun z0 S => g_X3_either n 0 z0 S) (fun z0 S => g_X3_either n 1 z0 S) (fun z0 S => g_X3_either n 2 z0 S) z0 S
  | n + 1, 1, z0, S => f_X3_either (fun z0 S => g_X3_either n 0 z0 S) (fun z0 S => g_X3_either n 1 z0 S) (fun z0 S => g_X3_either n 2 z0 S) z0 S
  | n + 1, _, z0, S => f_X3_single (fun z0 S => g_X3_either n 0 z0 S) (fun z0 S => g_X3_either n 1 z0 S) (fun z0 S => g_X3_either n 2 z0 S) z0 S
theorem gm_X3_either {G : aG} (hR : aRd G) : ∀ n : Nat, (∀ (z1 : Int32) (S : aSt), aMet G yX3_both uX3_both (9 + n) mk_i (g_X3_either n 0 z1 S) [.ref (22), .int z1] S) ∧ (∀ (z1 : Int32) (S : aSt), aMet G yX3_either uX3_either (9 + n) mk_i (g_X3_either n 1 z1 S) [.ref (22), .int z1] S) ∧ (∀ (z1 : Int32) (S : aSt), aMet G yX3_single uX3_single (9 + n) mk_i (g_X3_either n 2 z1 S) [.ref (22), .int z1] S) := by
  intro n
  induction n with
  | zero => exact ⟨fun _ _ => aMet_none, fun _ _ => aMet_none, fun _ _ => aMet_none⟩
  | succ n ih => exact ⟨fun z1 S => m_X3_both hR (d := 9 + (n + 1)) (dc := 9 + n) (Nat.le_refl _) (by omega) _ ih.1 _ ih.2.1 _ ih.2.2 z1 S, fun z1 S => m_X3_either hR (d := 9 + (n + 1)) (dc := 9 + n) (Nat.le_refl _) (by omega) _ ih.1 _ ih.2.1 _ ih.2.2 z1 S, fun z1 S => m_X3_single hR (d := 9 + (n + 1)) (dc := 9 + n) (Nat.le_refl _) (by omega) _ ih.1 _ ih.2.1 _ ih.2.2 z1 S⟩
def f_X3_both_k : Int32 → aSt → Option (Int32 × aSt) := g_X3_either 20 0
theorem m_X3_both_k {G : aG} (hR : aRd G) : ∀ (z1 : Int32) (S : aSt), aMet G yX3_both uX3_both 29 mk_i (f_X3_both_k z1 S) [.ref (22), .int z1] S := (gm_X3_either hR 20).1
def f_X3_either_k : Int32 → aSt → Option (Int32 × aSt) := g_X3_either 20 1
theorem m_X3_either_k {G : aG} (hR : aRd G) : ∀ (z1 : Int32) (S : aSt), aMet G yX3_either uX3_either 29 mk_i (f_X3_either_k z1 S) [.ref (22), .int z1] S := (gm_X3_either hR 20).2.1
def f_X3_single_k : Int32 → aSt → Option (Int32 × aSt) := g_X3_either 20 2
theorem m_X3_single_k {G : aG} (hR : aRd G) : ∀ (z1 : Int32) (S : aSt), aMet G yX3_single uX3_single 29 mk_i (f_X3_single_k z1 S) [.ref (22), .int z1] S := (gm_X3_either hR 20).2.2
theorem dd_X3_word : yX3_word.cls = RX3 ∧ yX3_word.cls ≠ "java/lang/invoke/MethodHandle" ∧ yX3_word.cls ≠ "java/lang/invoke/VarHandle" ∧ (parseMethodDescriptor yX3_word.desc).map (fun d => d.parameters.length) = some 0 := by decide +kernel
theorem dd_X5_close : yX5_close.cls = RX5 ∧ yX5_close.cls ≠ "java/lang/invoke/MethodHandle" ∧ yX5_close.cls ≠ "java/lang/invoke/VarHandle" ∧ (parseMethodDescriptor yX5_close.desc).map (fun d => d.parameters.length) = some 2 := by decide +kernel
theorem g_X3_clause_63 : GoodIn uX3_clause (wsV yX3_clause.cls 63 RX3 yX3_word uX3_word) := gU_V (wU_r7 _ (List.mem_of_getElem? (i := 16) rfl)) (wU_r7 _ (List.mem_of_getElem? (i := 17) rfl)) (wU_r7 _ (List.mem_of_getElem? (i := 18) rfl)) (wU_r1 _ (List.mem_of_getElem? (i := 19) rfl)) (wU_r7 _ (List.mem_of_getElem? (i := 19) rfl))
theorem g_X3_clause_38 : GoodIn uX3_clause (wsV yX3_clause.cls 38 RX3 yX3_takes uX3_takes) := gU_V (wU_r7 _ (List.mem_of_getElem? (i := 2) rfl)) (wU_r7 _ (List.mem_of_getElem? (i := 3) rfl)) (wU_r7 _ (List.mem_of_getElem? (i := 4) rfl)) (wU_r1 _ (List.mem_of_getElem? (i := 19) rfl)) (wU_r7 _ (List.mem_of_getElem? (i := 5) rfl))
theorem g_X3_clause_66 : GoodIn uX3_clause (wsV yX3_clause.cls 66 RX3 yX3_number uX3_number) := gU_V (wU_r10 _ (List.mem_of_getElem? (i := 1) rfl)) (wU_r10 _ (List.mem_of_getElem? (i := 2) rfl)) (wU_r10 _ (List.mem_of_getElem? (i := 3) rfl)) (wU_r1 _ (List.mem_of_getElem? (i := 19) rfl)) (wU_r10 _ (List.mem_of_getElem? (i := 4) rfl))
theorem g_X3_clause_75 : GoodIn uX3_clause (wsV yX3_clause.cls 75 RX3 yX3_either uX3_either) := gU_V (wU_r12 _ (List.mem_of_getElem? (i := 22) rfl)) (wU_r12 _ (List.mem_of_getElem? (i := 23) rfl)) (wU_r13 _ (List.mem_of_getElem? (i := 0) rfl)) (wU_r1 _ (List.mem_of_getElem? (i := 19) rfl)) (wU_r13 _ (List.mem_of_getElem? (i := 1) rfl))
theorem w_X3_clause_f12 : Cond.fieldLink yX3_clause.cls 12 (TX3 0).1 (TX3 0).2.1 (TX3 0).2.2.1 ∈ uX3_clause := List.mem_cons_of_mem _ (wU_r4 _ (List.mem_of_getElem? (i := 0) rfl))
theorem g_X3_clause_79 : GoodIn uX3_clause (wsV yX3_clause.cls 79 RX5 yX5_close uX5_close) := gU_V (wU_r13 _ (List.mem_of_getElem? (i := 18) rfl)) (wU_r13 _ (List.mem_of_getElem? (i := 19) rfl)) (wU_r13 _ (List.mem_of_getElem? (i := 20) rfl)) (wU_r2 _ (List.mem_of_getElem? (i := 20) rfl)) (wU_r13 _ (List.mem_of_getElem? (i := 21) rfl))
theorem w_X3_clause_f72 : Cond.fieldLink yX3_clause.cls 72 (TX5 3).1 (TX5 3).2.1 (TX5 3).2.2.1 ∈ uX3_clause := List.mem_cons_of_mem _ (wU_r7 _ (List.mem_of_getElem? (i := 15) rfl))
theorem w_X3_clause_f69 : Cond.fieldLink yX3_clause.cls 69 (TX5 2).1 (TX5 2).2.1 (TX5 2).2.2.1 ∈ uX3_clause := List.mem_cons_of_mem _ (wU_r7 _ (List.mem_of_getElem? (i := 14) rfl))
def f_X3_clause  (S : aSt) : Option (Int32 × aSt) := (aB (f_X3_word S) (fun r1_ S1 => (if r1_ = (-1 : Int32) then (some ((0 : Int32), S1)) else (aB (f_X3_takes (32 : Int32) S1) (fun r2_ S2 => (if r2_ = 0 then (some ((0 : Int32), S2)) else (aB (f_X3_number S2) (fun r3_ S3 => (if r3_ = (-1 : Int32) then (some ((0 : Int32), S3)) else (if r1_ = (3 : Int32) then (aLt (aUi S3 (23) 2 r3_) (fun S8 => (some ((1 : Int32), S8)))) else (if r1_ = (4 : Int32) then (aLt (aUi S3 (23) 3 r3_) (fun S7 => (some ((1 : Int32), S7)))) else (aB (f_X3_takes (32 : Int32) S3) (fun r4_ S4 => (if r4_ = 0 then (some ((0 : Int32), S4)) else (aB (f_X3_either_k (0 : Int32) S4) (fun r5_ S5 => (if r5_ = 0 then (some ((0 : Int32), S5)) else (aB (f_X5_close (23) r1_ r3_ S5) (fun r6_ S6 => (some ((1 : Int32), S6)))))))))))))))))))))
set_option maxRecDepth 20000 in
set_option maxHeartbeats 4000000 in
theorem m_X3_clause {G : aG} (hR : aRd G)  (S : aSt) : aMet G yX3_clause uX3_clause 30 mk_i (f_X3_clause S) [.ref (22)] S := by
  refine x_met (cc := cX3_clause) (nL := 3) (ret := (some .boolean)) (L := [some (.ref (22)), none, none]) (by decide +kernel) rfl (And.intro rfl trivial) (Nat.le_of_ble_eq_true rfl) ?_
  unfold f_X3_clause
  refine x_aload_n dX3_clause_0 rfl rfl ?_
  refine x_b (fun r1_ S1 e1 => ?_)
  refine x_callVi (As := []) dX3_clause_1 (aMet_of e1 (m_X3_word hR S)) g_X3_clause_63 rfl hR.1 rfl dd_X3_word rfl rfl (Nat.le_of_ble_eq_true rfl) (Nat.le_of_ble_eq_true rfl) (Nat.le_of_ble_eq_true rfl) ?_
  refine x_istore_n dX3_clause_4 rfl (Nat.le_of_ble_eq_true rfl) rfl ?_
  refine x_iload_n dX3_clause_5 rfl rfl ?_
  refine x_iconst (-1 : Int32) dX3_clause_6 (by decide) ?_
  refine x_icmp_eq (tgt := 19) dX3_clause_7 (by decide) ?_ ?_
  · refine x_iconst (0 : Int32) dX3_clause_19 (by decide) ?_
    exact x_zret dX3_clause_20 rfl rfl
  · refine x_aload_n dX3_clause_10 rfl rfl ?_
    refine x_bipush (32 : Int32) dX3_clause_11 (by decide) ?_
    refine x_b (fun r2_ S2 e2 => ?_)
    refine x_callVi (As := [.int (32 : Int32)]) dX3_clause_13 (aMet_of e2 (m_X3_takes hR (32 : Int32) S1)) g_X3_clause_38 rfl hR.1 rfl dd_X3_takes rfl rfl (Nat.le_of_ble_eq_true rfl) (Nat.le_of_ble_eq_true rfl) (Nat.le_of_ble_eq_true rfl) ?_
    refine x_if_ne (tgt := 21) dX3_clause_16 (by decide) ?_ ?_
    · refine x_aload_n dX3_clause_21 rfl rfl ?_
      refine x_b (fun r3_ S3 e3 => ?_)
      refine x_callVi (As := []) dX3_clause_22 (aMet_of e3 (m_X3_number hR S2)) g_X3_clause_66 rfl hR.1 rfl dd_X3_number rfl rfl (Nat.le_of_ble_eq_true rfl) (Nat.le_of_ble_eq_true rfl) (Nat.le_of_ble_eq_true rfl) ?_
      refine x_istore_n dX3_clause_25 rfl (Nat.le_of_ble_eq_true rfl) rfl ?_
      refine x_iload_n dX3_clause_26 rfl rfl ?_
      refine x_iconst (-1 : Int32) dX3_clause_27 (by decide) ?_
      refine x_icmp_ne (tgt := 33) dX3_clause_28 (by decide) ?_ ?_
      · refine x_iload_n dX3_clause_33 rfl rfl ?_
        refine x_iconst (3 : Int32) dX3_clause_34 (by decide) ?_
        refine x_icmp_ne (tgt := 48) dX3_clause_35 (by decide) ?_ ?_
        · refine x_iload_n dX3_clause_48 rfl rfl ?_
          refine x_iconst (4 : Int32) dX3_clause_49 (by decide) ?_
          refine x_icmp_ne (tgt := 63) dX3_clause_50 (by decide) ?_ ?_
          · refine x_aload_n dX3_clause_63 rfl rfl ?_
            refine x_bipush (32 : Int32) dX3_clause_64 (by decide) ?_
            refine x_b (fun r4_ S4 e4 => ?_)
            refine x_callVi (As := [.int (32 : Int32)]) dX3_clause_66 (aMet_of e4 (m_X3_takes hR (32 : Int32) S3)) g_X3_clause_38 rfl hR.1 rfl dd_X3_takes rfl rfl (Nat.le_of_ble_eq_true rfl) (Nat.le_of_ble_eq_true rfl) (Nat.le_of_ble_eq_true rfl) ?_
            refine x_if_eq (tgt := 80) dX3_clause_69 (by decide) ?_ ?_
            · refine x_iconst (0 : Int32) dX3_clause_80 (by decide) ?_
              exact x_zret dX3_clause_81 rfl rfl
            · refine x_aload_n dX3_clause_72 rfl rfl ?_
              refine x_iconst (0 : Int32) dX3_clause_73 (by decide) ?_
              refine x_b (fun r5_ S5 e5 => ?_)
              refine x_callVi (As := [.int (0 : Int32)]) dX3_clause_74 (aMet_of e5 (m_X3_either_k hR (0 : Int32) S4)) g_X3_clause_75 rfl hR.1 rfl dd_X3_either rfl rfl (Nat.le_of_ble_eq_true rfl) (Nat.le_of_ble_eq_true rfl) (Nat.le_of_ble_eq_true rfl) ?_
              refine x_if_ne (tgt := 82) dX3_clause_77 (by decide) ?_ ?_
              · refine x_aload_n dX3_clause_82 rfl rfl ?_
                refine x_getR (r := 23) (k := 22) (j := 0) dX3_clause_83 hR.1 rfl rfl (Nat.le_of_ble_eq_true rfl) (fun w h => List.mem_cons_of_mem _ (inlX3 w h)) w_X3_clause_f12 ?_
                refine x_iload_n dX3_clause_86 rfl rfl ?_
                refine x_iload_n dX3_clause_87 rfl rfl ?_
                refine x_b (fun r6_ S6 e6 => ?_)
                refine x_callVv (As := [.int r1_, .int r3_]) dX3_clause_88 (aMet_of e6 (m_X5_close (23) hR.2.1 r1_ r3_ S5)) g_X3_clause_79 rfl hR.2.1.1 rfl dd_X5_close rfl rfl (Nat.le_of_ble_eq_true rfl) (Nat.le_of_ble_eq_true rfl) (Nat.le_of_ble_eq_true rfl) ?_
                refine x_iconst (1 : Int32) dX3_clause_91 (by decide) ?_
                exact x_zret dX3_clause_92 rfl rfl
              · refine x_iconst (0 : Int32) dX3_clause_80 (by decide) ?_
                exact x_zret dX3_clause_81 rfl rfl
          · refine x_aload_n dX3_clause_53 rfl rfl ?_
            refine x_getR (r := 23) (k := 22) (j := 0) dX3_clause_54 hR.1 rfl rfl (Nat.le_of_ble_eq_true rfl) (fun w h => List.mem_cons_of_mem _ (inlX3 w h)) w_X3_clause_f12 ?_
            refine x_iload_n dX3_clause_57 rfl rfl ?_
            refine x_putI (k := 23) (j := 3) dX3_clause_58 hR.2.1.1 rfl rfl (Nat.le_of_ble_eq_true rfl) (fun w h => List.mem_cons_of_mem _ (inlX5 w h)) w_X3_clause_f72 tyX5 tyX5_ok nmX5 rfl (by decide +kernel) ?_
            refine x_ltS (fun S7 => ?_)
            refine x_iconst (1 : Int32) dX3_clause_61 (by decide) ?_
            exact x_zret dX3_clause_62 rfl rfl
        · refine x_aload_n dX3_clause_38 rfl rfl ?_
          refine x_getR (r := 23) (k := 22) (j := 0) dX3_clause_39 hR.1 rfl rfl (Nat.le_of_ble_eq_true rfl) (fun w h => List.mem_cons_of_mem _ (inlX3 w h)) w_X3_clause_f12 ?_
          refine x_iload_n dX3_clause_42 rfl rfl ?_
          refine x_putI (k := 23) (j := 2) dX3_clause_43 hR.2.1.1 rfl rfl (Nat.le_of_ble_eq_true rfl) (fun w h => List.mem_cons_of_mem _ (inlX5 w h)) w_X3_clause_f69 tyX5 tyX5_ok nmX5 rfl (by decide +kernel) ?_
          refine x_ltS (fun S8 => ?_)
          refine x_iconst (1 : Int32) dX3_clause_46 (by decide) ?_
          exact x_zret dX3_clause_47 rfl rfl
      · refine x_iconst (0 : Int32) dX3_clause_31 (by decide) ?_
        exact x_zret dX3_clause_32 rfl rfl
    · refine x_iconst (0 : Int32) dX3_clause_19 (by decide) ?_
      exact x_zret dX3_clause_20 rfl rfl
theorem dd_X5_clear : yX5_clear.cls = RX5 ∧ yX5_clear.cls ≠ "java/lang/invoke/MethodHandle" ∧ yX5_clear.cls ≠ "java/lang/invoke/VarHandle" ∧ (parseMethodDescriptor yX5_clear.desc).map (fun d => d.parameters.length) = some 0 := by decide +kernel
theorem dd_X3_clause : yX3_clause.cls = RX3 ∧ yX3_clause.cls ≠ "java/lang/invoke/MethodHandle" ∧ yX3_clause.cls ≠ "java/lang/invoke/VarHandle" ∧ (parseMethodDescriptor yX3_clause.desc).map (fun d => d.parameters.length) = some 0 := by decide +kernel
theorem w_X3_reads_f18 : Cond.fieldLink yX3_reads.cls 18 (TX3 1).1 (TX3 1).2.1 (TX3 1).2.2.1 ∈ uX3_reads := List.mem_cons_of_mem _ (wU_r4 _ (List.mem_of_getElem? (i := 1) rfl))
theorem w_X3_reads_m22 : Cond.methodLink yX3_reads.cls 22 arraycopyName ∈ uX3_reads := List.mem_cons_of_mem _ (wU_r6 _ (List.mem_of_getElem? (i := 19) rfl))
theorem w_X3_reads_cn : Cond.native arraycopyName ∈ uX3_reads := List.mem_cons_of_mem _ (wU_r6 _ (List.mem_of_getElem? (i := 20) rfl))
theorem w_X3_reads_cs : Cond.static arraycopyName ∈ uX3_reads := List.mem_cons_of_mem _ (wU_r6 _ (List.mem_of_getElem? (i := 21) rfl))
theorem w_X3_reads_ci : Cond.initialized "java/lang/System" ∈ uX3_reads := List.mem_cons_of_mem _ (wU_r6 _ (List.mem_of_getElem? (i := 22) rfl))
theorem w_X3_reads_f28 : Cond.fieldLink yX3_reads.cls 28 (TX3 2).1 (TX3 2).2.1 (TX3 2).2.2.1 ∈ uX3_reads := List.mem_cons_of_mem _ (wU_r6 _ (List.mem_of_getElem? (i := 23) rfl))
theorem w_X3_reads_f32 : Cond.fieldLink yX3_reads.cls 32 (TX3 3).1 (TX3 3).2.1 (TX3 3).2.2.1 ∈ uX3_reads := List.mem_cons_of_mem _ (wU_r7 _ (List.mem_of_getElem? (i := 0) rfl))
theorem w_X3_reads_f12 : Cond.fieldLink yX3_reads.cls 12 (TX3 0).1 (TX3 0).2.1 (TX3 0).2.2.1 ∈ uX3_reads := List.mem_cons_of_mem _ (wU_r4 _ (List.mem_of_getElem? (i := 0) rfl))
theorem g_X3_reads_35 : GoodIn uX3_reads (wsV yX3_reads.cls 35 RX5 yX5_clear uX5_clear) := gU_V (wU_r7 _ (List.mem_of_getElem? (i := 1) rfl)) (wU_r3 _ (List.mem_of_getElem? (i := 9) rfl)) (wU_r3 _ (List.mem_of_getElem? (i := 10) rfl)) (wU_r2 _ (List.mem_of_getElem? (i := 20) rfl)) (wU_r3 _ (List.mem_of_getElem? (i := 11) rfl))
theorem g_X3_reads_38 : GoodIn uX3_reads (wsV yX3_reads.cls 38 RX3 yX3_takes uX3_takes) := gU_V (wU_r7 _ (List.mem_of_getElem? (i := 2) rfl)) (wU_r7 _ (List.mem_of_getElem? (i := 3) rfl)) (wU_r7 _ (List.mem_of_getElem? (i := 4) rfl)) (wU_r1 _ (List.mem_of_getElem? (i := 19) rfl)) (wU_r7 _ (List.mem_of_getElem? (i := 5) rfl))
theorem g_X3_reads_42 : GoodIn uX3_reads (wsV yX3_reads.cls 42 RX3 yX3_clause uX3_clause) := gU_V (wU_r7 _ (List.mem_of_getElem? (i := 10) rfl)) (wU_r7 _ (List.mem_of_getElem? (i := 11) rfl)) (wU_r7 _ (List.mem_of_getElem? (i := 12) rfl)) (wU_r1 _ (List.mem_of_getElem? (i := 19) rfl)) (wU_r7 _ (List.mem_of_getElem? (i := 13) rfl))
def f_X3_reads_52 (r31 : Int32 → aSt → Option (Int32 × aSt)) (l3 : Int32) (S : aSt) : Option (Int32 × aSt) := (aB (f_X3_clause S) (fun r6_ S6 => (if r6_ = 0 then (some ((0 : Int32), S6)) else (if (S6.1 (22) 3) = (S6.1 (22) 2) then (some ((1 : Int32), S6)) else (aLt (l3 + (1 : Int32)) (fun x7 => (r31 x7 S6)))))))
set_option maxRecDepth 20000 in
set_option maxHeartbeats 4000000 in
theorem v_X3_reads_52 {G : aG} (hR : aRd G) (r31 : Int32 → aSt → Option (Int32 × aSt)) (hr31 : ∀ (l3 : Int32) (S : aSt), aX G yX3_reads cX3_reads 4 (some .boolean) uX3_reads 31 mk_i (r31 l3 S) 31 [some (.ref (22)), none, none, some (.int l3)] [] S) (l3 : Int32) (S : aSt) : aX G yX3_reads cX3_reads 4 (some .boolean) uX3_reads 31 mk_i (f_X3_reads_52 r31 l3 S) 52 [some (.ref (22)), none, none, some (.int l3)] [] S := by
  unfold f_X3_reads_52
  refine x_aload_n dX3_reads_52 rfl rfl ?_
  refine x_b (fun r6_ S6 e6 => ?_)
  refine x_callVi (As := []) dX3_reads_53 (aMet_of e6 (m_X3_clause hR S)) g_X3_reads_42 rfl hR.1 rfl dd_X3_clause rfl rfl (Nat.le_of_ble_eq_true rfl) (Nat.le_of_ble_eq_true rfl) (Nat.le_of_ble_eq_true rfl) ?_
  refine x_if_ne (tgt := 61) dX3_reads_56 (by decide) ?_ ?_
  · refine x_aload_n dX3_reads_61 rfl rfl ?_
    refine x_getI (k := 22) (j := 3) dX3_reads_62 hR.1 rfl rfl (Nat.le_of_ble_eq_true rfl) (fun w h => List.mem_cons_of_mem _ (inlX3 w h)) w_X3_reads_f32 ?_
    refine x_aload_n dX3_reads_65 rfl rfl ?_
    refine x_getI (k := 22) (j := 2) dX3_reads_66 hR.1 rfl rfl (Nat.le_of_ble_eq_true rfl) (fun w h => List.mem_cons_of_mem _ (inlX3 w h)) w_X3_reads_f28 ?_
    refine x_icmp_ne (tgt := 74) dX3_reads_69 (by decide) ?_ ?_
    · refine x_iincL (w := (1 : Int32)) dX3_reads_74 rfl (by decide) (Nat.le_of_ble_eq_true rfl) rfl (fun x7 => ?_)
      refine x_goto (tgt := 31) dX3_reads_77 (by decide) ?_
      exact x_le (hr31 x7 S6) (And.intro rfl (And.intro rfl trivial))
    · refine x_iconst (1 : Int32) dX3_reads_72 (by decide) ?_
      exact x_zret dX3_reads_73 rfl rfl
  · refine x_iconst (0 : Int32) dX3_reads_59 (by decide) ?_
    exact x_zret dX3_reads_60 rfl rfl
def f_X3_reads_31  : Nat → Int32 → aSt → Option (Int32 × aSt)
  | 0, _, _ => none
  | n + 1, l3, S => (if (10 : Int32) ≤ l3 then (some ((0 : Int32), S)) else (if l3 ≤ 0 then (f_X3_reads_52 (fun l3 S => (f_X3_reads_31 n l3 S)) l3 S) else (aB (f_X3_takes (59 : Int32) S) (fun r5_ S5 => (if r5_ = 0 then (some ((0 : Int32), S5)) else (f_X3_reads_52 (fun l3 S => (f_X3_reads_31 n l3 S)) l3 S5))))))
set_option maxRecDepth 20000 in
set_option maxHeartbeats 4000000 in
theorem v_X3_reads_31 {G : aG} (hR : aRd G) : ∀ (n : Nat) (l3 : Int32) (S : aSt), aX G yX3_reads cX3_reads 4 (some .boolean) uX3_reads 31 mk_i (f_X3_reads_31 n l3 S) 31 [some (.ref (22)), none, none, some (.int l3)] [] S := by
  intro n
  induction n with
  | zero => intro l3 S; exact x_none
  | succ n ih =>
    intro l3 S
    unfold f_X3_reads_31
    refine x_iload_n dX3_reads_31 rfl rfl ?_
    refine x_bipush (10 : Int32) dX3_reads_32 (by decide) ?_
    refine x_icmp_ge (tgt := 80) dX3_reads_34 (by decide) ?_ ?_
    · refine x_iconst (0 : Int32) dX3_reads_80 (by decide) ?_
      exact x_zret dX3_reads_81 rfl rfl
    · refine x_iload_n dX3_reads_37 rfl rfl ?_
      refine x_if_le (tgt := 52) dX3_reads_38 (by decide) ?_ ?_
      · exact x_le (v_X3_reads_52 hR (fun l3 S => (f_X3_reads_31 n l3 S)) ih l3 S) (And.intro rfl (And.intro rfl trivial))
      · refine x_aload_n dX3_reads_41 rfl rfl ?_
        refine x_bipush (59 : Int32) dX3_reads_42 (by decide) ?_
        refine x_b (fun r5_ S5 e5 => ?_)
        refine x_callVi (As := [.int (59 : Int32)]) dX3_reads_44 (aMet_of e5 (m_X3_takes hR (59 : Int32) S)) g_X3_reads_38 rfl hR.1 rfl dd_X3_takes rfl rfl (Nat.le_of_ble_eq_true rfl) (Nat.le_of_ble_eq_true rfl) (Nat.le_of_ble_eq_true rfl) ?_
        refine x_if_ne (tgt := 52) dX3_reads_47 (by decide) ?_ ?_
        · exact x_le (v_X3_reads_52 hR (fun l3 S => (f_X3_reads_31 n l3 S)) ih l3 S5) (And.intro rfl (And.intro rfl trivial))
        · refine x_iconst (0 : Int32) dX3_reads_50 (by decide) ?_
          exact x_zret dX3_reads_51 rfl rfl
def f_X3_reads (p1 : Nat) (p2 : Int32) (S : aSt) : Option (Int32 × aSt) := (if aFit (S.1 (p1)) 100 = true then (aLt (aCp S (p1) (28) 100) (fun S1 => (aLt (aUi S1 (22) 2 p2) (fun S2 => (aLt (aUi S2 (22) 3 (0 : Int32)) (fun S3 => (aB (f_X5_clear (23) S3) (fun r4_ S4 => (f_X3_reads_31 aF (0 : Int32) S4))))))))) else none)
set_option maxRecDepth 20000 in
set_option maxHeartbeats 4000000 in
theorem m_X3_reads {G : aG} (hR : aRd G) (p1 : Nat) (q1 : G.2.2.2.2[p1]? = some (.inl (1, 100, none))) (p2 : Int32) (S : aSt) : aMet G yX3_reads uX3_reads 31 mk_i (f_X3_reads p1 p2 S) [.ref (22), .ref (p1), .int p2] S := by
  refine x_met (cc := cX3_reads) (nL := 4) (ret := (some .boolean)) (L := [some (.ref (22)), some (.ref (p1)), some (.int p2), none]) (by decide +kernel) rfl (And.intro rfl (And.intro rfl (And.intro rfl trivial))) (Nat.le_of_ble_eq_true rfl) ?_
  unfold f_X3_reads
  refine x_aload_n dX3_reads_0 rfl rfl ?_
  refine x_iconst (0 : Int32) dX3_reads_1 (by decide) ?_
  refine x_aload_n dX3_reads_2 rfl rfl ?_
  refine x_getR (r := 28) (k := 22) (j := 1) dX3_reads_3 hR.1 rfl rfl (Nat.le_of_ble_eq_true rfl) (fun w h => List.mem_cons_of_mem _ (inlX3 w h)) w_X3_reads_f18 ?_
  refine x_iconst (0 : Int32) dX3_reads_6 (by decide) ?_
  refine x_bipush (100 : Int32) dX3_reads_7 (by decide) ?_
  refine x_if (fun hfit => ?_) (fun _ => x_none)
  refine x_cpyc (n := 100) dX3_reads_9 w_X3_reads_m22 w_X3_reads_cn w_X3_reads_cs w_X3_reads_ci q1 hR.2.2 rfl rfl rfl rfl (by decide) (by decide) (Nat.le_of_ble_eq_true rfl) (Nat.le_of_ble_eq_true rfl) (aFit_at hfit) (Nat.le_of_ble_eq_true rfl) (Nat.le_of_ble_eq_true rfl) ?_
  refine x_ltS (fun S1 => ?_)
  refine x_aload_n dX3_reads_12 rfl rfl ?_
  refine x_iload_n dX3_reads_13 rfl rfl ?_
  refine x_putI (k := 22) (j := 2) dX3_reads_14 hR.1 rfl rfl (Nat.le_of_ble_eq_true rfl) (fun w h => List.mem_cons_of_mem _ (inlX3 w h)) w_X3_reads_f28 tyX3 tyX3_ok nmX3 rfl (by decide +kernel) ?_
  refine x_ltS (fun S2 => ?_)
  refine x_aload_n dX3_reads_17 rfl rfl ?_
  refine x_iconst (0 : Int32) dX3_reads_18 (by decide) ?_
  refine x_putI (k := 22) (j := 3) dX3_reads_19 hR.1 rfl rfl (Nat.le_of_ble_eq_true rfl) (fun w h => List.mem_cons_of_mem _ (inlX3 w h)) w_X3_reads_f32 tyX3 tyX3_ok nmX3 rfl (by decide +kernel) ?_
  refine x_ltS (fun S3 => ?_)
  refine x_aload_n dX3_reads_22 rfl rfl ?_
  refine x_getR (r := 23) (k := 22) (j := 0) dX3_reads_23 hR.1 rfl rfl (Nat.le_of_ble_eq_true rfl) (fun w h => List.mem_cons_of_mem _ (inlX3 w h)) w_X3_reads_f12 ?_
  refine x_b (fun r4_ S4 e4 => ?_)
  refine x_callVv (As := []) dX3_reads_26 (aMet_of e4 (m_X5_clear (23) hR.2.1 S3)) g_X3_reads_35 rfl hR.2.1.1 rfl dd_X5_clear rfl rfl (Nat.le_of_ble_eq_true rfl) (Nat.le_of_ble_eq_true rfl) (Nat.le_of_ble_eq_true rfl) ?_
  refine x_iconst (0 : Int32) dX3_reads_29 (by decide) ?_
  refine x_istore_n dX3_reads_30 rfl (Nat.le_of_ble_eq_true rfl) rfl ?_
  exact x_le (v_X3_reads_31 hR aF (0 : Int32) S4) (And.intro rfl (And.intro rfl trivial))

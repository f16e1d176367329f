/-! written by program: what the bytecode does, and the walk -/
def f_X6_outside (p0 : Int32) (p1 : Int32) (S : aSt) : Option (Int32 × aSt) := (if p0 < 0 then (some ((1 : Int32), S)) else (if p0 ≤ p1 then (some ((0 : Int32), S)) else (some ((1 : Int32), S))))
set_option maxRecDepth 20000 in
set_option maxHeartbeats 4000000 in
theorem m_X6_outside {G : aG} (p0 : Int32) (p1 : Int32) (S : aSt) : aMet G yX6_outside uX6_outside 2 mk_i (f_X6_outside p0 p1 S) [.int p0, .int p1] S := by
  refine x_met (cc := cX6_outside) (nL := 2) (ret := (some .boolean)) (L := [some (.int p0), some (.int p1)]) (by decide +kernel) rfl (And.intro rfl (And.intro rfl trivial)) (Nat.le_of_ble_eq_true rfl) ?_
  unfold f_X6_outside
  refine x_iload_n dX6_outside_0 rfl rfl ?_
  refine x_if_lt (tgt := 9) dX6_outside_1 (by decide) ?_ ?_
  · refine x_iconst (1 : Int32) dX6_outside_9 (by decide) ?_
    refine x_goto (tgt := 14) dX6_outside_10 (by decide) ?_
    exact x_zret dX6_outside_14 rfl rfl
  · refine x_iload_n dX6_outside_4 rfl rfl ?_
    refine x_iload_n dX6_outside_5 rfl rfl ?_
    refine x_icmp_le (tgt := 13) dX6_outside_6 (by decide) ?_ ?_
    · refine x_iconst (0 : Int32) dX6_outside_13 (by decide) ?_
      exact x_zret dX6_outside_14 rfl rfl
    · refine x_iconst (1 : Int32) dX6_outside_9 (by decide) ?_
      refine x_goto (tgt := 14) dX6_outside_10 (by decide) ?_
      exact x_zret dX6_outside_14 rfl rfl
def f_X6_bitOf (p0 : Int32) (S : aSt) : Option (Int32 × aSt) := (if 0 ≤ p0 then (some (((1 : Int32) <<< (p0 &&& 31)), S)) else (some ((0 : Int32), S)))
set_option maxRecDepth 20000 in
set_option maxHeartbeats 4000000 in
theorem m_X6_bitOf {G : aG} (p0 : Int32) (S : aSt) : aMet G yX6_bitOf uX6_bitOf 2 mk_i (f_X6_bitOf p0 S) [.int p0] S := by
  refine x_met (cc := cX6_bitOf) (nL := 1) (ret := (some .int)) (L := [some (.int p0)]) (by decide +kernel) rfl (And.intro rfl trivial) (Nat.le_of_ble_eq_true rfl) ?_
  unfold f_X6_bitOf
  refine x_iload_n dX6_bitOf_0 rfl rfl ?_
  refine x_if_ge (tgt := 8) dX6_bitOf_1 (by decide) ?_ ?_
  · refine x_iconst (1 : Int32) dX6_bitOf_8 (by decide) ?_
    refine x_iload_n dX6_bitOf_9 rfl rfl ?_
    refine x_ishl dX6_bitOf_10 ?_
    exact x_iret dX6_bitOf_11 rfl
  · refine x_iconst (0 : Int32) dX6_bitOf_4 (by decide) ?_
    refine x_goto (tgt := 11) dX6_bitOf_5 (by decide) ?_
    exact x_iret dX6_bitOf_11 rfl
def f_X6_stepsBehind (p0 : Int32) (p1 : Int32) (S : aSt) : Option (Int32 × aSt) := (some (((p0 - p1) &&& (7 : Int32)), S))
set_option maxRecDepth 20000 in
set_option maxHeartbeats 4000000 in
theorem m_X6_stepsBehind {G : aG} (p0 : Int32) (p1 : Int32) (S : aSt) : aMet G yX6_stepsBehind uX6_stepsBehind 2 mk_i (f_X6_stepsBehind p0 p1 S) [.int p0, .int p1] S := by
  refine x_met (cc := cX6_stepsBehind) (nL := 2) (ret := (some .int)) (L := [some (.int p0), some (.int p1)]) (by decide +kernel) rfl (And.intro rfl (And.intro rfl trivial)) (Nat.le_of_ble_eq_true rfl) ?_
  unfold f_X6_stepsBehind
  refine x_iload_n dX6_stepsBehind_0 rfl rfl ?_
  refine x_iload_n dX6_stepsBehind_1 rfl rfl ?_
  refine x_isub dX6_stepsBehind_2 ?_
  refine x_bipush (7 : Int32) dX6_stepsBehind_3 (by decide) ?_
  refine x_iand dX6_stepsBehind_5 ?_
  exact x_iret dX6_stepsBehind_6 rfl
theorem dd_X6_stepsBehind : yX6_stepsBehind.cls ≠ "java/lang/invoke/MethodHandle" ∧ yX6_stepsBehind.cls ≠ "java/lang/invoke/VarHandle" ∧ (parseMethodDescriptor yX6_stepsBehind.desc).map (fun d => d.parameters.length) = some 2 := by decide +kernel
theorem g_X6_alongOf_263 : GoodIn uX6_alongOf (va_wsS yX6_alongOf.cls 263 yX6_stepsBehind uX6_stepsBehind) := gU_S (wU_r23 _ (List.mem_of_getElem? (i := 2) rfl)) (wU_r23 _ (List.mem_of_getElem? (i := 3) rfl)) (wU_r1 _ (List.mem_of_getElem? (i := 2) rfl)) (wU_r23 _ (List.mem_of_getElem? (i := 4) rfl))
theorem w_X6_alongOf_m243 : Cond.methodLink yX6_alongOf.cls 243 Lib.Math.min.name ∈ uX6_alongOf := List.mem_cons_of_mem _ (wU_r23 _ (List.mem_of_getElem? (i := 1) rfl))
theorem w_X6_alongOf_ms_min : Cond.static Lib.Math.min.name ∈ uX6_alongOf := List.mem_cons_of_mem _ (wU_r11 _ (List.mem_of_getElem? (i := 2) rfl))
theorem w_X6_alongOf_mi : Cond.initialized "java/lang/Math" ∈ uX6_alongOf := List.mem_cons_of_mem _ (wU_r10 _ (List.mem_of_getElem? (i := 23) rfl))
theorem w_X6_alongOf_mc_min : Cond.code Lib.Math.min.name Lib.Math.min.code 2 (some .int) ∈ uX6_alongOf := List.mem_cons_of_mem _ (wU_r11 _ (List.mem_of_getElem? (i := 3) rfl))
def f_X6_alongOf (p0 : Int32) (p1 : Int32) (S : aSt) : Option (Int32 × aSt) := (aB (f_X6_stepsBehind p0 p1 S) (fun r1_ S1 => (some (((2 : Int32) - (if ((8 : Int32) - r1_) < r1_ then ((8 : Int32) - r1_) else r1_)), S1))))
set_option maxRecDepth 20000 in
set_option maxHeartbeats 4000000 in
theorem m_X6_alongOf {G : aG} (p0 : Int32) (p1 : Int32) (S : aSt) : aMet G yX6_alongOf uX6_alongOf 3 mk_i (f_X6_alongOf p0 p1 S) [.int p0, .int p1] S := by
  refine x_met (cc := cX6_alongOf) (nL := 3) (ret := (some .int)) (L := [some (.int p0), some (.int p1), none]) (by decide +kernel) rfl (And.intro rfl (And.intro rfl trivial)) (Nat.le_of_ble_eq_true rfl) ?_
  unfold f_X6_alongOf
  refine x_iload_n dX6_alongOf_0 rfl rfl ?_
  refine x_iload_n dX6_alongOf_1 rfl rfl ?_
  refine x_b (fun r1_ S1 e1 => ?_)
  refine x_callSi (As := [.int p0, .int p1]) dX6_alongOf_2 (aMet_of e1 (m_X6_stepsBehind p0 p1 S)) g_X6_alongOf_263 rfl dd_X6_stepsBehind rfl rfl (Nat.le_of_ble_eq_true rfl) (Nat.le_of_ble_eq_true rfl) (Nat.le_of_ble_eq_true rfl) ?_
  refine x_istore_n dX6_alongOf_5 rfl (Nat.le_of_ble_eq_true rfl) rfl ?_
  refine x_iconst (2 : Int32) dX6_alongOf_6 (by decide) ?_
  refine x_iload_n dX6_alongOf_7 rfl rfl ?_
  refine x_bipush (8 : Int32) dX6_alongOf_8 (by decide) ?_
  refine x_iload_n dX6_alongOf_10 rfl rfl ?_
  refine x_isub dX6_alongOf_11 ?_
  refine x_min dX6_alongOf_12 w_X6_alongOf_m243 w_X6_alongOf_ms_min w_X6_alongOf_mi w_X6_alongOf_mc_min (Nat.le_of_ble_eq_true rfl) (Nat.le_of_ble_eq_true rfl) ?_
  refine x_isub dX6_alongOf_15 ?_
  exact x_iret dX6_alongOf_16 rfl
theorem g_X6_sideOf_263 : GoodIn uX6_sideOf (va_wsS yX6_sideOf.cls 263 yX6_stepsBehind uX6_stepsBehind) := gU_S (wU_r23 _ (List.mem_of_getElem? (i := 2) rfl)) (wU_r23 _ (List.mem_of_getElem? (i := 3) rfl)) (wU_r1 _ (List.mem_of_getElem? (i := 2) rfl)) (wU_r23 _ (List.mem_of_getElem? (i := 4) rfl))
def f_X6_sideOf (p0 : Int32) (p1 : Int32) (S : aSt) : Option (Int32 × aSt) := (aB (f_X6_stepsBehind p0 p1 S) (fun r1_ S1 => (if r1_ = 0 then (some ((0 : Int32), S1)) else (if r1_ = (4 : Int32) then (some ((0 : Int32), S1)) else (if (4 : Int32) ≤ r1_ then (some ((-1 : Int32), S1)) else (some ((1 : Int32), S1)))))))
set_option maxRecDepth 20000 in
set_option maxHeartbeats 4000000 in
theorem m_X6_sideOf {G : aG} (p0 : Int32) (p1 : Int32) (S : aSt) : aMet G yX6_sideOf uX6_sideOf 3 mk_i (f_X6_sideOf p0 p1 S) [.int p0, .int p1] S := by
  refine x_met (cc := cX6_sideOf) (nL := 3) (ret := (some .int)) (L := [some (.int p0), some (.int p1), none]) (by decide +kernel) rfl (And.intro rfl (And.intro rfl trivial)) (Nat.le_of_ble_eq_true rfl) ?_
  unfold f_X6_sideOf
  refine x_iload_n dX6_sideOf_0 rfl rfl ?_
  refine x_iload_n dX6_sideOf_1 rfl rfl ?_
  refine x_b (fun r1_ S1 e1 => ?_)
  refine x_callSi (As := [.int p0, .int p1]) dX6_sideOf_2 (aMet_of e1 (m_X6_stepsBehind p0 p1 S)) g_X6_sideOf_263 rfl dd_X6_stepsBehind rfl rfl (Nat.le_of_ble_eq_true rfl) (Nat.le_of_ble_eq_true rfl) (Nat.le_of_ble_eq_true rfl) ?_
  refine x_istore_n dX6_sideOf_5 rfl (Nat.le_of_ble_eq_true rfl) rfl ?_
  refine x_iload_n dX6_sideOf_6 rfl rfl ?_
  refine x_if_eq (tgt := 15) dX6_sideOf_7 (by decide) ?_ ?_
  · refine x_iconst (0 : Int32) dX6_sideOf_15 (by decide) ?_
    exact x_iret dX6_sideOf_16 rfl
  · refine x_iload_n dX6_sideOf_10 rfl rfl ?_
    refine x_iconst (4 : Int32) dX6_sideOf_11 (by decide) ?_
    refine x_icmp_ne (tgt := 17) dX6_sideOf_12 (by decide) ?_ ?_
    · refine x_iload_n dX6_sideOf_17 rfl rfl ?_
      refine x_iconst (4 : Int32) dX6_sideOf_18 (by decide) ?_
      refine x_icmp_ge (tgt := 26) dX6_sideOf_19 (by decide) ?_ ?_
      · refine x_iconst (-1 : Int32) dX6_sideOf_26 (by decide) ?_
        exact x_iret dX6_sideOf_27 rfl
      · refine x_iconst (1 : Int32) dX6_sideOf_22 (by decide) ?_
        refine x_goto (tgt := 27) dX6_sideOf_23 (by decide) ?_
        exact x_iret dX6_sideOf_27 rfl
    · refine x_iconst (0 : Int32) dX6_sideOf_15 (by decide) ?_
      exact x_iret dX6_sideOf_16 rfl
theorem dd_X6_outside : yX6_outside.cls ≠ "java/lang/invoke/MethodHandle" ∧ yX6_outside.cls ≠ "java/lang/invoke/VarHandle" ∧ (parseMethodDescriptor yX6_outside.desc).map (fun d => d.parameters.length) = some 2 := by decide +kernel
theorem w_X6_nextPlace_f266 : Cond.fieldLink yX6_nextPlace.cls 266 "FellTree" "ROWS_ON" "[I" ∈ uX6_nextPlace := List.mem_cons_of_mem _ (wU_r24 _ (List.mem_of_getElem? (i := 15) rfl))
theorem w_X6_nextPlace_f269 : Cond.fieldLink yX6_nextPlace.cls 269 "FellTree" "COLUMNS_ON" "[I" ∈ uX6_nextPlace := List.mem_cons_of_mem _ (wU_r24 _ (List.mem_of_getElem? (i := 16) rfl))
theorem g_X6_nextPlace_57 : GoodIn uX6_nextPlace (va_wsS yX6_nextPlace.cls 57 yX6_outside uX6_outside) := gU_S (wU_r5 _ (List.mem_of_getElem? (i := 21) rfl)) (wU_r5 _ (List.mem_of_getElem? (i := 22) rfl)) (wU_r1 _ (List.mem_of_getElem? (i := 2) rfl)) (wU_r5 _ (List.mem_of_getElem? (i := 23) rfl))
def f_X6_nextPlace (p0 : Int32) (p1 : Int32) (S : aSt) : Option (Int32 × aSt) := (if (p1 &&& (7 : Int32)) < 0 ∨ 8 ≤ ((p1 &&& (7 : Int32))).toNatClampNeg then none else (aLt ((p0 / (8 : Int32)) + ((a_tab.getD 1 []).getD ((p1 &&& (7 : Int32))).toNatClampNeg 0)) (fun x1 => (if (p1 &&& (7 : Int32)) < 0 ∨ 8 ≤ ((p1 &&& (7 : Int32))).toNatClampNeg then none else (aLt ((p0 - p0 / (8 : Int32) * (8 : Int32)) + ((a_tab.getD 2 []).getD ((p1 &&& (7 : Int32))).toNatClampNeg 0)) (fun x2 => (aB (f_X6_outside x1 (7 : Int32) S) (fun r3_ S3 => (if r3_ = 0 then (aB (f_X6_outside x2 (7 : Int32) S3) (fun r4_ S4 => (if r4_ = 0 then (some ((((8 : Int32) * x1) + x2), S4)) else (some ((-1 : Int32), S4))))) else (some ((-1 : Int32), S3)))))))))))
set_option maxRecDepth 20000 in
set_option maxHeartbeats 4000000 in
theorem m_X6_nextPlace {G : aG} (p0 : Int32) (p1 : Int32) (S : aSt) : aMet G yX6_nextPlace uX6_nextPlace 3 mk_i (f_X6_nextPlace p0 p1 S) [.int p0, .int p1] S := by
  refine x_met (cc := cX6_nextPlace) (nL := 4) (ret := (some .int)) (L := [some (.int p0), some (.int p1), none, none]) (by decide +kernel) rfl (And.intro rfl (And.intro rfl trivial)) (Nat.le_of_ble_eq_true rfl) ?_
  unfold f_X6_nextPlace
  refine x_iload_n dX6_nextPlace_0 rfl rfl ?_
  refine x_bipush (8 : Int32) dX6_nextPlace_1 (by decide) ?_
  refine x_idivc dX6_nextPlace_3 (by decide) ?_
  refine x_gets (t := 1) dX6_nextPlace_4 (by decide) rfl w_X6_nextPlace_f266 ?_
  refine x_iload_n dX6_nextPlace_7 rfl rfl ?_
  refine x_bipush (7 : Int32) dX6_nextPlace_8 (by decide) ?_
  refine x_iand dX6_nextPlace_10 ?_
  refine x_tald (t := 1) (n := 8) dX6_nextPlace_11 (by decide) rfl (fun _ => rfl) ?_
  refine x_iadd dX6_nextPlace_12 ?_
  refine x_lti (fun x1 => ?_)
  refine x_istore_n dX6_nextPlace_13 rfl (Nat.le_of_ble_eq_true rfl) rfl ?_
  refine x_iload_n dX6_nextPlace_14 rfl rfl ?_
  refine x_bipush (8 : Int32) dX6_nextPlace_15 (by decide) ?_
  refine x_iremc dX6_nextPlace_17 (by decide) ?_
  refine x_gets (t := 2) dX6_nextPlace_18 (by decide) rfl w_X6_nextPlace_f269 ?_
  refine x_iload_n dX6_nextPlace_21 rfl rfl ?_
  refine x_bipush (7 : Int32) dX6_nextPlace_22 (by decide) ?_
  refine x_iand dX6_nextPlace_24 ?_
  refine x_tald (t := 2) (n := 8) dX6_nextPlace_25 (by decide) rfl (fun _ => rfl) ?_
  refine x_iadd dX6_nextPlace_26 ?_
  refine x_lti (fun x2 => ?_)
  refine x_istore_n dX6_nextPlace_27 rfl (Nat.le_of_ble_eq_true rfl) rfl ?_
  refine x_iload_n dX6_nextPlace_28 rfl rfl ?_
  refine x_bipush (7 : Int32) dX6_nextPlace_29 (by decide) ?_
  refine x_b (fun r3_ S3 e3 => ?_)
  refine x_callSi (As := [.int x1, .int (7 : Int32)]) dX6_nextPlace_31 (aMet_of e3 (m_X6_outside x1 (7 : Int32) S)) g_X6_nextPlace_57 rfl dd_X6_outside rfl rfl (Nat.le_of_ble_eq_true rfl) (Nat.le_of_ble_eq_true rfl) (Nat.le_of_ble_eq_true rfl) ?_
  refine x_if_ne (tgt := 46) dX6_nextPlace_34 (by decide) ?_ ?_
  · refine x_iconst (-1 : Int32) dX6_nextPlace_46 (by decide) ?_
    refine x_goto (tgt := 56) dX6_nextPlace_47 (by decide) ?_
    exact x_iret dX6_nextPlace_56 rfl
  · refine x_iload_n dX6_nextPlace_37 rfl rfl ?_
    refine x_bipush (7 : Int32) dX6_nextPlace_38 (by decide) ?_
    refine x_b (fun r4_ S4 e4 => ?_)
    refine x_callSi (As := [.int x2, .int (7 : Int32)]) dX6_nextPlace_40 (aMet_of e4 (m_X6_outside x2 (7 : Int32) S3)) g_X6_nextPlace_57 rfl dd_X6_outside rfl rfl (Nat.le_of_ble_eq_true rfl) (Nat.le_of_ble_eq_true rfl) (Nat.le_of_ble_eq_true rfl) ?_
    refine x_if_eq (tgt := 50) dX6_nextPlace_43 (by decide) ?_ ?_
    · refine x_bipush (8 : Int32) dX6_nextPlace_50 (by decide) ?_
      refine x_iload_n dX6_nextPlace_52 rfl rfl ?_
      refine x_imul dX6_nextPlace_53 ?_
      refine x_iload_n dX6_nextPlace_54 rfl rfl ?_
      refine x_iadd dX6_nextPlace_55 ?_
      exact x_iret dX6_nextPlace_56 rfl
    · refine x_iconst (-1 : Int32) dX6_nextPlace_46 (by decide) ?_
      refine x_goto (tgt := 56) dX6_nextPlace_47 (by decide) ?_
      exact x_iret dX6_nextPlace_56 rfl
theorem g_X6_kindAbove_57 : GoodIn uX6_kindAbove (va_wsS yX6_kindAbove.cls 57 yX6_outside uX6_outside) := gU_S (wU_r5 _ (List.mem_of_getElem? (i := 21) rfl)) (wU_r5 _ (List.mem_of_getElem? (i := 22) rfl)) (wU_r1 _ (List.mem_of_getElem? (i := 2) rfl)) (wU_r5 _ (List.mem_of_getElem? (i := 23) rfl))
theorem w_X6_kindAbove_f275 : Cond.fieldLink yX6_kindAbove.cls 275 "FellTree" "KIND_ABOVE" "[I" ∈ uX6_kindAbove := List.mem_cons_of_mem _ (wU_r39 _ (List.mem_of_getElem? (i := 1) rfl))
def f_X6_kindAbove (p0 : Int32) (S : aSt) : Option (Int32 × aSt) := (aB (f_X6_outside p0 (6 : Int32) S) (fun r1_ S1 => (if r1_ = 0 then (if p0 < 0 ∨ 7 ≤ (p0).toNatClampNeg then none else (some (((a_tab.getD 0 []).getD (p0).toNatClampNeg 0), S1))) else (some ((-1 : Int32), S1)))))
set_option maxRecDepth 20000 in
set_option maxHeartbeats 4000000 in
theorem m_X6_kindAbove {G : aG} (p0 : Int32) (S : aSt) : aMet G yX6_kindAbove uX6_kindAbove 3 mk_i (f_X6_kindAbove p0 S) [.int p0] S := by
  refine x_met (cc := cX6_kindAbove) (nL := 1) (ret := (some .int)) (L := [some (.int p0)]) (by decide +kernel) rfl (And.intro rfl trivial) (Nat.le_of_ble_eq_true rfl) ?_
  unfold f_X6_kindAbove
  refine x_iload_n dX6_kindAbove_0 rfl rfl ?_
  refine x_bipush (6 : Int32) dX6_kindAbove_1 (by decide) ?_
  refine x_b (fun r1_ S1 e1 => ?_)
  refine x_callSi (As := [.int p0, .int (6 : Int32)]) dX6_kindAbove_3 (aMet_of e1 (m_X6_outside p0 (6 : Int32) S)) g_X6_kindAbove_57 rfl dd_X6_outside rfl rfl (Nat.le_of_ble_eq_true rfl) (Nat.le_of_ble_eq_true rfl) (Nat.le_of_ble_eq_true rfl) ?_
  refine x_if_eq (tgt := 13) dX6_kindAbove_6 (by decide) ?_ ?_
  · refine x_gets (t := 0) dX6_kindAbove_13 (by decide) rfl w_X6_kindAbove_f275 ?_
    refine x_iload_n dX6_kindAbove_16 rfl rfl ?_
    refine x_tald (t := 0) (n := 7) dX6_kindAbove_17 (by decide) rfl (fun _ => rfl) ?_
    exact x_iret dX6_kindAbove_18 rfl
  · refine x_iconst (-1 : Int32) dX6_kindAbove_9 (by decide) ?_
    refine x_goto (tgt := 18) dX6_kindAbove_10 (by decide) ?_
    exact x_iret dX6_kindAbove_18 rfl
def f_X6_commonDivisor_34  (l2 : Int32) (S : aSt) : Option (Int32 × aSt) := (if l2 = 0 then (some ((1 : Int32), S)) else (some (l2, S)))
set_option maxRecDepth 20000 in
set_option maxHeartbeats 4000000 in
theorem v_X6_commonDivisor_34 {G : aG} (l2 : Int32) (S : aSt) : aX G yX6_commonDivisor cX6_commonDivisor 6 (some .int) uX6_commonDivisor 2 mk_i (f_X6_commonDivisor_34 l2 S) 34 [none, none, some (.int l2), none, none, none] [] S := by
  unfold f_X6_commonDivisor_34
  refine x_iload_n dX6_commonDivisor_34 rfl rfl ?_
  refine x_if_ne (tgt := 42) dX6_commonDivisor_35 (by decide) ?_ ?_
  · refine x_iload_n dX6_commonDivisor_42 rfl rfl ?_
    exact x_iret dX6_commonDivisor_43 rfl
  · refine x_iconst (1 : Int32) dX6_commonDivisor_38 (by decide) ?_
    refine x_goto (tgt := 43) dX6_commonDivisor_39 (by decide) ?_
    exact x_iret dX6_commonDivisor_43 rfl
def f_X6_commonDivisor_7  : Nat → Int32 → Int32 → Int32 → aSt → Option (Int32 × aSt)
  | 0, _, _, _, _ => none
  | n + 1, l2, l3, l4, S => (if (64 : Int32) ≤ l4 then (f_X6_commonDivisor_34 l2 S) else (if l3 = 0 then (f_X6_commonDivisor_34 l2 S) else (if l3 = 0 then none else (aLt (l2 - l2 / l3 * l3) (fun x1 => (aLt (l4 + (1 : Int32)) (fun x2 => (f_X6_commonDivisor_7 n l3 x1 x2 S))))))))
set_option maxRecDepth 20000 in
set_option maxHeartbeats 4000000 in
theorem v_X6_commonDivisor_7 {G : aG} : ∀ (n : Nat) (l2 : Int32) (l3 : Int32) (l4 : Int32) (S : aSt), aX G yX6_commonDivisor cX6_commonDivisor 6 (some .int) uX6_commonDivisor 2 mk_i (f_X6_commonDivisor_7 n l2 l3 l4 S) 7 [none, none, some (.int l2), some (.int l3), some (.int l4), none] [] S := by
  intro n
  induction n with
  | zero => intro l2 l3 l4 S; exact x_none
  | succ n ih =>
    intro l2 l3 l4 S
    unfold f_X6_commonDivisor_7
    refine x_iload dX6_commonDivisor_7 rfl ?_
    refine x_bipush (64 : Int32) dX6_commonDivisor_9 (by decide) ?_
    refine x_icmp_ge (tgt := 34) dX6_commonDivisor_11 (by decide) ?_ ?_
    · exact x_le (v_X6_commonDivisor_34 l2 S) (And.intro rfl trivial)
    · refine x_iload_n dX6_commonDivisor_14 rfl rfl ?_
      refine x_if_eq (tgt := 34) dX6_commonDivisor_15 (by decide) ?_ ?_
      · exact x_le (v_X6_commonDivisor_34 l2 S) (And.intro rfl trivial)
      · refine x_iload_n dX6_commonDivisor_18 rfl rfl ?_
        refine x_iload_n dX6_commonDivisor_19 rfl rfl ?_
        refine x_irem dX6_commonDivisor_20 ?_
        refine x_lti (fun x1 => ?_)
        refine x_istore dX6_commonDivisor_21 (Nat.le_of_ble_eq_true rfl) rfl ?_
        refine x_iload_n dX6_commonDivisor_23 rfl rfl ?_
        refine x_istore_n dX6_commonDivisor_24 rfl (Nat.le_of_ble_eq_true rfl) rfl ?_
        refine x_iload dX6_commonDivisor_25 rfl ?_
        refine x_istore_n dX6_commonDivisor_27 rfl (Nat.le_of_ble_eq_true rfl) rfl ?_
        refine x_iincL (w := (1 : Int32)) dX6_commonDivisor_28 rfl (by decide) (Nat.le_of_ble_eq_true rfl) rfl (fun x2 => ?_)
        refine x_goto (tgt := 7) dX6_commonDivisor_31 (by decide) ?_
        exact x_le (ih l3 x1 x2 S) (And.intro rfl (And.intro rfl (And.intro rfl trivial)))
def f_X6_commonDivisor (p0 : Int32) (p1 : Int32) (S : aSt) : Option (Int32 × aSt) := (f_X6_commonDivisor_7 aF p0 p1 (0 : Int32) S)
set_option maxRecDepth 20000 in
set_option maxHeartbeats 4000000 in
theorem m_X6_commonDivisor {G : aG} (p0 : Int32) (p1 : Int32) (S : aSt) : aMet G yX6_commonDivisor uX6_commonDivisor 2 mk_i (f_X6_commonDivisor p0 p1 S) [.int p0, .int p1] S := by
  refine x_met (cc := cX6_commonDivisor) (nL := 6) (ret := (some .int)) (L := [some (.int p0), some (.int p1), none, none, none, none]) (by decide +kernel) rfl (And.intro rfl (And.intro rfl trivial)) (Nat.le_of_ble_eq_true rfl) ?_
  unfold f_X6_commonDivisor
  refine x_iload_n dX6_commonDivisor_0 rfl rfl ?_
  refine x_istore_n dX6_commonDivisor_1 rfl (Nat.le_of_ble_eq_true rfl) rfl ?_
  refine x_iload_n dX6_commonDivisor_2 rfl rfl ?_
  refine x_istore_n dX6_commonDivisor_3 rfl (Nat.le_of_ble_eq_true rfl) rfl ?_
  refine x_iconst (0 : Int32) dX6_commonDivisor_4 (by decide) ?_
  refine x_istore dX6_commonDivisor_5 (Nat.le_of_ble_eq_true rfl) rfl ?_
  exact x_le (v_X6_commonDivisor_7 aF p0 p1 (0 : Int32) S) (And.intro rfl (And.intro rfl (And.intro rfl trivial)))
theorem dd_X6_nextPlace : yX6_nextPlace.cls ≠ "java/lang/invoke/MethodHandle" ∧ yX6_nextPlace.cls ≠ "java/lang/invoke/VarHandle" ∧ (parseMethodDescriptor yX6_nextPlace.desc).map (fun d => d.parameters.length) = some 2 := by decide +kernel
theorem g_X6_stepsFrom_272 : GoodIn uX6_stepsFrom (va_wsS yX6_stepsFrom.cls 272 yX6_nextPlace uX6_nextPlace) := gU_S (wU_r32 _ (List.mem_of_getElem? (i := 1) rfl)) (wU_r24 _ (List.mem_of_getElem? (i := 13) rfl)) (wU_r1 _ (List.mem_of_getElem? (i := 2) rfl)) (wU_r24 _ (List.mem_of_getElem? (i := 14) rfl))
def f_X6_stepsFrom_32 (r4 : Int32 → Int64 → Int32 → aSt → Option (Int64 × aSt)) (l0 : Int32) (l3 : Int32) (s0 : Int64) (s1 : Int64) (S : aSt) : Option (Int64 × aSt) := (aLt (s1 ||| s0) (fun x2 => (aLt (l3 + (1 : Int32)) (fun x3 => (r4 l0 x2 x3 S)))))
set_option maxRecDepth 20000 in
set_option maxHeartbeats 4000000 in
theorem v_X6_stepsFrom_32 {G : aG} (r4 : Int32 → Int64 → Int32 → aSt → Option (Int64 × aSt)) (hr4 : ∀ (l0 : Int32) (l1 : Int64) (l3 : Int32) (S : aSt), aX G yX6_stepsFrom cX6_stepsFrom 5 (some .long) uX6_stepsFrom 4 mk_l (r4 l0 l1 l3 S) 4 [some (.int l0), some (.long l1), none, some (.int l3), none] [] S) (l0 : Int32) (l3 : Int32) (s0 : Int64) (s1 : Int64) (S : aSt) : aX G yX6_stepsFrom cX6_stepsFrom 5 (some .long) uX6_stepsFrom 4 mk_l (f_X6_stepsFrom_32 r4 l0 l3 s0 s1 S) 32 [some (.int l0), none, none, some (.int l3), none] [.long s0, .long s1] S := by
  unfold f_X6_stepsFrom_32
  refine x_lor dX6_stepsFrom_32 ?_
  refine x_ltj (fun x2 => ?_)
  refine x_lstore_n dX6_stepsFrom_33 rfl (Nat.le_of_ble_eq_true rfl) rfl ?_
  refine x_iincL (w := (1 : Int32)) dX6_stepsFrom_34 rfl (by decide) (Nat.le_of_ble_eq_true rfl) rfl (fun x3 => ?_)
  refine x_goto (tgt := 4) dX6_stepsFrom_37 (by decide) ?_
  exact x_le (hr4 l0 x2 x3 S) (And.intro rfl (And.intro rfl (And.intro rfl trivial)))
def f_X6_stepsFrom_4  : Nat → Int32 → Int64 → Int32 → aSt → Option (Int64 × aSt)
  | 0, _, _, _, _ => none
  | n + 1, l0, l1, l3, S => (if (8 : Int32) ≤ l3 then (some (l1, S)) else (aB (f_X6_nextPlace l0 l3 S) (fun r1_ S1 => (if r1_ = (-1 : Int32) then (f_X6_stepsFrom_32 (fun l0 l1 l3 S => (f_X6_stepsFrom_4 n l0 l1 l3 S)) l0 l3 (0 : Int64) l1 S1) else (f_X6_stepsFrom_32 (fun l0 l1 l3 S => (f_X6_stepsFrom_4 n l0 l1 l3 S)) l0 l3 ((1 : Int64) <<< ((r1_).toInt64 &&& 63)) l1 S1)))))
set_option maxRecDepth 20000 in
set_option maxHeartbeats 4000000 in
theorem v_X6_stepsFrom_4 {G : aG} : ∀ (n : Nat) (l0 : Int32) (l1 : Int64) (l3 : Int32) (S : aSt), aX G yX6_stepsFrom cX6_stepsFrom 5 (some .long) uX6_stepsFrom 4 mk_l (f_X6_stepsFrom_4 n l0 l1 l3 S) 4 [some (.int l0), some (.long l1), none, some (.int l3), none] [] S := by
  intro n
  induction n with
  | zero => intro l0 l1 l3 S; exact x_none
  | succ n ih =>
    intro l0 l1 l3 S
    unfold f_X6_stepsFrom_4
    refine x_iload_n dX6_stepsFrom_4 rfl rfl ?_
    refine x_bipush (8 : Int32) dX6_stepsFrom_5 (by decide) ?_
    refine x_icmp_ge (tgt := 40) dX6_stepsFrom_7 (by decide) ?_ ?_
    · refine x_lload_n dX6_stepsFrom_40 rfl rfl ?_
      exact x_lret dX6_stepsFrom_41 rfl
    · refine x_iload_n dX6_stepsFrom_10 rfl rfl ?_
      refine x_iload_n dX6_stepsFrom_11 rfl rfl ?_
      refine x_b (fun r1_ S1 e1 => ?_)
      refine x_callSi (As := [.int l0, .int l3]) dX6_stepsFrom_12 (aMet_of e1 (m_X6_nextPlace l0 l3 S)) g_X6_stepsFrom_272 rfl dd_X6_nextPlace rfl rfl (Nat.le_of_ble_eq_true rfl) (Nat.le_of_ble_eq_true rfl) (Nat.le_of_ble_eq_true rfl) ?_
      refine x_istore dX6_stepsFrom_15 (Nat.le_of_ble_eq_true rfl) rfl ?_
      refine x_lload_n dX6_stepsFrom_17 rfl rfl ?_
      refine x_iload dX6_stepsFrom_18 rfl ?_
      refine x_iconst (-1 : Int32) dX6_stepsFrom_20 (by decide) ?_
      refine x_icmp_ne (tgt := 28) dX6_stepsFrom_21 (by decide) ?_ ?_
      · refine x_lconst (1 : Int64) dX6_stepsFrom_28 (by decide) ?_
        refine x_iload dX6_stepsFrom_29 rfl ?_
        refine x_lshl dX6_stepsFrom_31 ?_
        exact x_le (v_X6_stepsFrom_32 (fun l0 l1 l3 S => (f_X6_stepsFrom_4 n l0 l1 l3 S)) ih l0 l3 ((1 : Int64) <<< ((r1_).toInt64 &&& 63)) l1 S1) (And.intro rfl (And.intro rfl trivial))
      · refine x_lconst (0 : Int64) dX6_stepsFrom_24 (by decide) ?_
        refine x_goto (tgt := 32) dX6_stepsFrom_25 (by decide) ?_
        exact x_le (v_X6_stepsFrom_32 (fun l0 l1 l3 S => (f_X6_stepsFrom_4 n l0 l1 l3 S)) ih l0 l3 (0 : Int64) l1 S1) (And.intro rfl (And.intro rfl trivial))
def f_X6_stepsFrom (p0 : Int32) (S : aSt) : Option (Int64 × aSt) := (f_X6_stepsFrom_4 aF p0 (0 : Int64) (0 : Int32) S)
set_option maxRecDepth 20000 in
set_option maxHeartbeats 4000000 in
theorem m_X6_stepsFrom {G : aG} (p0 : Int32) (S : aSt) : aMet G yX6_stepsFrom uX6_stepsFrom 4 mk_l (f_X6_stepsFrom p0 S) [.int p0] S := by
  refine x_met (cc := cX6_stepsFrom) (nL := 5) (ret := (some .long)) (L := [some (.int p0), none, none, none, none]) (by decide +kernel) rfl (And.intro rfl trivial) (Nat.le_of_ble_eq_true rfl) ?_
  unfold f_X6_stepsFrom
  refine x_lconst (0 : Int64) dX6_stepsFrom_0 (by decide) ?_
  refine x_lstore_n dX6_stepsFrom_1 rfl (Nat.le_of_ble_eq_true rfl) rfl ?_
  refine x_iconst (0 : Int32) dX6_stepsFrom_2 (by decide) ?_
  refine x_istore_n dX6_stepsFrom_3 rfl (Nat.le_of_ble_eq_true rfl) rfl ?_
  exact x_le (v_X6_stepsFrom_4 aF p0 (0 : Int64) (0 : Int32) S) (And.intro rfl (And.intro rfl (And.intro rfl trivial)))
theorem w_J6_bitCount_0f7a4_k265 : Cond.constant yJ6_bitCount_0f7a4.cls 265 (1431655765 : Int32) ∈ uJ6_bitCount_0f7a4 := List.mem_cons_of_mem _ (wU_r32 _ (List.mem_of_getElem? (i := 15) rfl))
theorem w_J6_bitCount_0f7a4_k266 : Cond.constant yJ6_bitCount_0f7a4.cls 266 (858993459 : Int32) ∈ uJ6_bitCount_0f7a4 := List.mem_cons_of_mem _ (wU_r32 _ (List.mem_of_getElem? (i := 16) rfl))
theorem w_J6_bitCount_0f7a4_k267 : Cond.constant yJ6_bitCount_0f7a4.cls 267 (252645135 : Int32) ∈ uJ6_bitCount_0f7a4 := List.mem_cons_of_mem _ (wU_r32 _ (List.mem_of_getElem? (i := 17) rfl))
def f_J6_bitCount_0f7a4 (p0 : Int32) (S : aSt) : Option (Int32 × aSt) := (aLt (p0 - (((p0).toUInt32 >>> (((1 : Int32)).toUInt32 &&& Int32.toUInt32 31)).toInt32 &&& (1431655765 : Int32))) (fun x1 => (aLt ((x1 &&& (858993459 : Int32)) + (((x1).toUInt32 >>> (((2 : Int32)).toUInt32 &&& Int32.toUInt32 31)).toInt32 &&& (858993459 : Int32))) (fun x2 => (aLt ((x2 + ((x2).toUInt32 >>> (((4 : Int32)).toUInt32 &&& Int32.toUInt32 31)).toInt32) &&& (252645135 : Int32)) (fun x3 => (aLt (x3 + ((x3).toUInt32 >>> (((8 : Int32)).toUInt32 &&& Int32.toUInt32 31)).toInt32) (fun x4 => (aLt (x4 + ((x4).toUInt32 >>> (((16 : Int32)).toUInt32 &&& Int32.toUInt32 31)).toInt32) (fun x5 => (some ((x5 &&& (63 : Int32)), S))))))))))))
set_option maxRecDepth 20000 in
set_option maxHeartbeats 4000000 in
theorem m_J6_bitCount_0f7a4 {G : aG} (p0 : Int32) (S : aSt) : aMet G yJ6_bitCount_0f7a4 uJ6_bitCount_0f7a4 2 mk_i (f_J6_bitCount_0f7a4 p0 S) [.int p0] S := by
  refine x_met (cc := cJ6_bitCount_0f7a4) (nL := 1) (ret := (some .int)) (L := [some (.int p0)]) (by decide +kernel) rfl (And.intro rfl trivial) (Nat.le_of_ble_eq_true rfl) ?_
  unfold f_J6_bitCount_0f7a4
  refine x_iload_n dJ6_bitCount_0f7a4_0 rfl rfl ?_
  refine x_iload_n dJ6_bitCount_0f7a4_1 rfl rfl ?_
  refine x_iconst (1 : Int32) dJ6_bitCount_0f7a4_2 (by decide) ?_
  refine x_iushr dJ6_bitCount_0f7a4_3 ?_
  refine x_ldcw (v := (1431655765 : Int32)) dJ6_bitCount_0f7a4_4 w_J6_bitCount_0f7a4_k265 ?_
  refine x_iand dJ6_bitCount_0f7a4_7 ?_
  refine x_isub dJ6_bitCount_0f7a4_8 ?_
  refine x_lti (fun x1 => ?_)
  refine x_istore_n dJ6_bitCount_0f7a4_9 rfl (Nat.le_of_ble_eq_true rfl) rfl ?_
  refine x_iload_n dJ6_bitCount_0f7a4_10 rfl rfl ?_
  refine x_ldcw (v := (858993459 : Int32)) dJ6_bitCount_0f7a4_11 w_J6_bitCount_0f7a4_k266 ?_
  refine x_iand dJ6_bitCount_0f7a4_14 ?_
  refine x_iload_n dJ6_bitCount_0f7a4_15 rfl rfl ?_
  refine x_iconst (2 : Int32) dJ6_bitCount_0f7a4_16 (by decide) ?_
  refine x_iushr dJ6_bitCount_0f7a4_17 ?_
  refine x_ldcw (v := (858993459 : Int32)) dJ6_bitCount_0f7a4_18 w_J6_bitCount_0f7a4_k266 ?_
  refine x_iand dJ6_bitCount_0f7a4_21 ?_
  refine x_iadd dJ6_bitCount_0f7a4_22 ?_
  refine x_lti (fun x2 => ?_)
  refine x_istore_n dJ6_bitCount_0f7a4_23 rfl (Nat.le_of_ble_eq_true rfl) rfl ?_
  refine x_iload_n dJ6_bitCount_0f7a4_24 rfl rfl ?_
  refine x_iload_n dJ6_bitCount_0f7a4_25 rfl rfl ?_
  refine x_iconst (4 : Int32) dJ6_bitCount_0f7a4_26 (by decide) ?_
  refine x_iushr dJ6_bitCount_0f7a4_27 ?_
  refine x_iadd dJ6_bitCount_0f7a4_28 ?_
  refine x_ldcw (v := (252645135 : Int32)) dJ6_bitCount_0f7a4_29 w_J6_bitCount_0f7a4_k267 ?_
  refine x_iand dJ6_bitCount_0f7a4_32 ?_
  refine x_lti (fun x3 => ?_)
  refine x_istore_n dJ6_bitCount_0f7a4_33 rfl (Nat.le_of_ble_eq_true rfl) rfl ?_
  refine x_iload_n dJ6_bitCount_0f7a4_34 rfl rfl ?_
  refine x_iload_n dJ6_bitCount_0f7a4_35 rfl rfl ?_
  refine x_bipush (8 : Int32) dJ6_bitCount_0f7a4_36 (by decide) ?_
  refine x_iushr dJ6_bitCount_0f7a4_38 ?_
  refine x_iadd dJ6_bitCount_0f7a4_39 ?_
  refine x_lti (fun x4 => ?_)
  refine x_istore_n dJ6_bitCount_0f7a4_40 rfl (Nat.le_of_ble_eq_true rfl) rfl ?_
  refine x_iload_n dJ6_bitCount_0f7a4_41 rfl rfl ?_
  refine x_iload_n dJ6_bitCount_0f7a4_42 rfl rfl ?_
  refine x_bipush (16 : Int32) dJ6_bitCount_0f7a4_43 (by decide) ?_
  refine x_iushr dJ6_bitCount_0f7a4_45 ?_
  refine x_iadd dJ6_bitCount_0f7a4_46 ?_
  refine x_lti (fun x5 => ?_)
  refine x_istore_n dJ6_bitCount_0f7a4_47 rfl (Nat.le_of_ble_eq_true rfl) rfl ?_
  refine x_iload_n dJ6_bitCount_0f7a4_48 rfl rfl ?_
  refine x_bipush (63 : Int32) dJ6_bitCount_0f7a4_49 (by decide) ?_
  refine x_iand dJ6_bitCount_0f7a4_51 ?_
  exact x_iret dJ6_bitCount_0f7a4_52 rfl
theorem w_J13_bitCount_95d88_k314 : Cond.constantLong yJ13_bitCount_95d88.cls 314 (6148914691236517205 : Int64) ∈ uJ13_bitCount_95d88 := List.mem_cons_of_mem _ (wU_r5 _ (List.mem_of_getElem? (i := 8) rfl))
theorem w_J13_bitCount_95d88_k316 : Cond.constantLong yJ13_bitCount_95d88.cls 316 (3689348814741910323 : Int64) ∈ uJ13_bitCount_95d88 := List.mem_cons_of_mem _ (wU_r5 _ (List.mem_of_getElem? (i := 9) rfl))
theorem w_J13_bitCount_95d88_k318 : Cond.constantLong yJ13_bitCount_95d88.cls 318 (1085102592571150095 : Int64) ∈ uJ13_bitCount_95d88 := List.mem_cons_of_mem _ (wU_r5 _ (List.mem_of_getElem? (i := 10) rfl))
def f_J13_bitCount_95d88 (p0 : Int64) (S : aSt) : Option (Int32 × aSt) := (aLt (p0 - (((p0).toUInt64 >>> (((1 : Int32)).toInt64.toUInt64 &&& Int64.toUInt64 63)).toInt64 &&& (6148914691236517205 : Int64))) (fun x1 => (aLt ((x1 &&& (3689348814741910323 : Int64)) + (((x1).toUInt64 >>> (((2 : Int32)).toInt64.toUInt64 &&& Int64.toUInt64 63)).toInt64 &&& (3689348814741910323 : Int64))) (fun x2 => (aLt ((x2 + ((x2).toUInt64 >>> (((4 : Int32)).toInt64.toUInt64 &&& Int64.toUInt64 63)).toInt64) &&& (1085102592571150095 : Int64)) (fun x3 => (aLt (x3 + ((x3).toUInt64 >>> (((8 : Int32)).toInt64.toUInt64 &&& Int64.toUInt64 63)).toInt64) (fun x4 => (aLt (x4 + ((x4).toUInt64 >>> (((16 : Int32)).toInt64.toUInt64 &&& Int64.toUInt64 63)).toInt64) (fun x5 => (aLt (x5 + ((x5).toUInt64 >>> (((32 : Int32)).toInt64.toUInt64 &&& Int64.toUInt64 63)).toInt64) (fun x6 => (some (((x6).toInt32 &&& (127 : Int32)), S))))))))))))))
set_option maxRecDepth 20000 in
set_option maxHeartbeats 4000000 in
theorem m_J13_bitCount_95d88 {G : aG} (p0 : Int64) (S : aSt) : aMet G yJ13_bitCount_95d88 uJ13_bitCount_95d88 2 mk_i (f_J13_bitCount_95d88 p0 S) [.long p0] S := by
  refine x_met (cc := cJ13_bitCount_95d88) (nL := 2) (ret := (some .int)) (L := [some (.long p0), none]) (by decide +kernel) rfl (And.intro rfl trivial) (Nat.le_of_ble_eq_true rfl) ?_
  unfold f_J13_bitCount_95d88
  refine x_lload_n dJ13_bitCount_95d88_0 rfl rfl ?_
  refine x_lload_n dJ13_bitCount_95d88_1 rfl rfl ?_
  refine x_iconst (1 : Int32) dJ13_bitCount_95d88_2 (by decide) ?_
  refine x_lushr dJ13_bitCount_95d88_3 ?_
  refine x_ldc2 (v := (6148914691236517205 : Int64)) dJ13_bitCount_95d88_4 w_J13_bitCount_95d88_k314 ?_
  refine x_land dJ13_bitCount_95d88_7 ?_
  refine x_lsub dJ13_bitCount_95d88_8 ?_
  refine x_ltj (fun x1 => ?_)
  refine x_lstore_n dJ13_bitCount_95d88_9 rfl (Nat.le_of_ble_eq_true rfl) rfl ?_
  refine x_lload_n dJ13_bitCount_95d88_10 rfl rfl ?_
  refine x_ldc2 (v := (3689348814741910323 : Int64)) dJ13_bitCount_95d88_11 w_J13_bitCount_95d88_k316 ?_
  refine x_land dJ13_bitCount_95d88_14 ?_
  refine x_lload_n dJ13_bitCount_95d88_15 rfl rfl ?_
  refine x_iconst (2 : Int32) dJ13_bitCount_95d88_16 (by decide) ?_
  refine x_lushr dJ13_bitCount_95d88_17 ?_
  refine x_ldc2 (v := (3689348814741910323 : Int64)) dJ13_bitCount_95d88_18 w_J13_bitCount_95d88_k316 ?_
  refine x_land dJ13_bitCount_95d88_21 ?_
  refine x_ladd dJ13_bitCount_95d88_22 ?_
  refine x_ltj (fun x2 => ?_)
  refine x_lstore_n dJ13_bitCount_95d88_23 rfl (Nat.le_of_ble_eq_true rfl) rfl ?_
  refine x_lload_n dJ13_bitCount_95d88_24 rfl rfl ?_
  refine x_lload_n dJ13_bitCount_95d88_25 rfl rfl ?_
  refine x_iconst (4 : Int32) dJ13_bitCount_95d88_26 (by decide) ?_
  refine x_lushr dJ13_bitCount_95d88_27 ?_
  refine x_ladd dJ13_bitCount_95d88_28 ?_
  refine x_ldc2 (v := (1085102592571150095 : Int64)) dJ13_bitCount_95d88_29 w_J13_bitCount_95d88_k318 ?_
  refine x_land dJ13_bitCount_95d88_32 ?_
  refine x_ltj (fun x3 => ?_)
  refine x_lstore_n dJ13_bitCount_95d88_33 rfl (Nat.le_of_ble_eq_true rfl) rfl ?_
  refine x_lload_n dJ13_bitCount_95d88_34 rfl rfl ?_
  refine x_lload_n dJ13_bitCount_95d88_35 rfl rfl ?_
  refine x_bipush (8 : Int32) dJ13_bitCount_95d88_36 (by decide) ?_
  refine x_lushr dJ13_bitCount_95d88_38 ?_
  refine x_ladd dJ13_bitCount_95d88_39 ?_
  refine x_ltj (fun x4 => ?_)
  refine x_lstore_n dJ13_bitCount_95d88_40 rfl (Nat.le_of_ble_eq_true rfl) rfl ?_
  refine x_lload_n dJ13_bitCount_95d88_41 rfl rfl ?_
  refine x_lload_n dJ13_bitCount_95d88_42 rfl rfl ?_
  refine x_bipush (16 : Int32) dJ13_bitCount_95d88_43 (by decide) ?_
  refine x_lushr dJ13_bitCount_95d88_45 ?_
  refine x_ladd dJ13_bitCount_95d88_46 ?_
  refine x_ltj (fun x5 => ?_)
  refine x_lstore_n dJ13_bitCount_95d88_47 rfl (Nat.le_of_ble_eq_true rfl) rfl ?_
  refine x_lload_n dJ13_bitCount_95d88_48 rfl rfl ?_
  refine x_lload_n dJ13_bitCount_95d88_49 rfl rfl ?_
  refine x_bipush (32 : Int32) dJ13_bitCount_95d88_50 (by decide) ?_
  refine x_lushr dJ13_bitCount_95d88_52 ?_
  refine x_ladd dJ13_bitCount_95d88_53 ?_
  refine x_ltj (fun x6 => ?_)
  refine x_lstore_n dJ13_bitCount_95d88_54 rfl (Nat.le_of_ble_eq_true rfl) rfl ?_
  refine x_lload_n dJ13_bitCount_95d88_55 rfl rfl ?_
  refine x_l2i dJ13_bitCount_95d88_56 ?_
  refine x_bipush (127 : Int32) dJ13_bitCount_95d88_57 (by decide) ?_
  refine x_iand dJ13_bitCount_95d88_59 ?_
  exact x_iret dJ13_bitCount_95d88_60 rfl
theorem w_J0_coder_7d493_f38 : Cond.fieldLink yJ0_coder_7d493.cls 38 "java/lang/String" "COMPACT_STRINGS" "Z" ∈ uJ0_coder_7d493 := List.mem_cons_of_mem _ (wU_r8 _ (List.mem_of_getElem? (i := 10) rfl))
theorem w_J0_coder_7d493_f15 : Cond.fieldLink yJ0_coder_7d493.cls 15 "java/lang/String" "coder" "B" ∈ uJ0_coder_7d493 := List.mem_cons_of_mem _ (wU_r8 _ (List.mem_of_getElem? (i := 11) rfl))
def f_J0_coder_7d493 (p0 : Nat) (S : aSt) : Option (Int32 × aSt) := (if (1 : Int32) = 0 then (some ((1 : Int32), S)) else (some ((0 : Int32), S)))
set_option maxRecDepth 20000 in
set_option maxHeartbeats 4000000 in
theorem m_J0_coder_7d493 {G : aG} (p0 : Nat) (q0 : p0 < 13) (S : aSt) : aMet G yJ0_coder_7d493 uJ0_coder_7d493 2 mk_i (f_J0_coder_7d493 p0 S) [.ref (1000 + p0)] S := by
  refine x_met (cc := cJ0_coder_7d493) (nL := 1) (ret := (some .byte)) (L := [some (.ref (1000 + p0))]) (by decide +kernel) rfl (And.intro rfl trivial) (Nat.le_of_ble_eq_true rfl) ?_
  unfold f_J0_coder_7d493
  refine x_getCS dJ0_coder_7d493_0 w_J0_coder_7d493_f38 ?_
  refine x_if_eq (tgt := 13) dJ0_coder_7d493_3 (by decide) ?_ ?_
  · refine x_iconst (1 : Int32) dJ0_coder_7d493_13 (by decide) ?_
    exact x_zret dJ0_coder_7d493_14 rfl rfl
  · refine x_aload_n dJ0_coder_7d493_6 rfl rfl ?_
    refine x_getSc dJ0_coder_7d493_7 q0 w_J0_coder_7d493_f15 ?_
    refine x_goto (tgt := 14) dJ0_coder_7d493_10 (by decide) ?_
    exact x_zret dJ0_coder_7d493_14 rfl rfl
theorem w_J0_isLatin1_aae02_f38 : Cond.fieldLink yJ0_isLatin1_aae02.cls 38 "java/lang/String" "COMPACT_STRINGS" "Z" ∈ uJ0_isLatin1_aae02 := List.mem_cons_of_mem _ (wU_r8 _ (List.mem_of_getElem? (i := 10) rfl))
theorem w_J0_isLatin1_aae02_f15 : Cond.fieldLink yJ0_isLatin1_aae02.cls 15 "java/lang/String" "coder" "B" ∈ uJ0_isLatin1_aae02 := List.mem_cons_of_mem _ (wU_r8 _ (List.mem_of_getElem? (i := 11) rfl))
def f_J0_isLatin1_aae02 (p0 : Nat) (S : aSt) : Option (Int32 × aSt) := (if (1 : Int32) = 0 then (some ((0 : Int32), S)) else (if (0 : Int32) = 0 then (some ((1 : Int32), S)) else (some ((0 : Int32), S))))
set_option maxRecDepth 20000 in
set_option maxHeartbeats 4000000 in
theorem m_J0_isLatin1_aae02 {G : aG} (p0 : Nat) (q0 : p0 < 13) (S : aSt) : aMet G yJ0_isLatin1_aae02 uJ0_isLatin1_aae02 2 mk_i (f_J0_isLatin1_aae02 p0 S) [.ref (1000 + p0)] S := by
  refine x_met (cc := cJ0_isLatin1_aae02) (nL := 1) (ret := (some .boolean)) (L := [some (.ref (1000 + p0))]) (by decide +kernel) rfl (And.intro rfl trivial) (Nat.le_of_ble_eq_true rfl) ?_
  unfold f_J0_isLatin1_aae02
  refine x_getCS dJ0_isLatin1_aae02_0 w_J0_isLatin1_aae02_f38 ?_
  refine x_if_eq (tgt := 17) dJ0_isLatin1_aae02_3 (by decide) ?_ ?_
  · refine x_iconst (0 : Int32) dJ0_isLatin1_aae02_17 (by decide) ?_
    exact x_zret dJ0_isLatin1_aae02_18 rfl rfl
  · refine x_aload_n dJ0_isLatin1_aae02_6 rfl rfl ?_
    refine x_getSc dJ0_isLatin1_aae02_7 q0 w_J0_isLatin1_aae02_f15 ?_
    refine x_if_ne (tgt := 17) dJ0_isLatin1_aae02_10 (by decide) ?_ ?_
    · refine x_iconst (0 : Int32) dJ0_isLatin1_aae02_17 (by decide) ?_
      exact x_zret dJ0_isLatin1_aae02_18 rfl rfl
    · refine x_iconst (1 : Int32) dJ0_isLatin1_aae02_13 (by decide) ?_
      refine x_goto (tgt := 18) dJ0_isLatin1_aae02_14 (by decide) ?_
      exact x_zret dJ0_isLatin1_aae02_18 rfl rfl
theorem dd_J0_coder_7d493 : yJ0_coder_7d493.cls = "java/lang/String" ∧ yJ0_coder_7d493.cls ≠ "java/lang/invoke/MethodHandle" ∧ yJ0_coder_7d493.cls ≠ "java/lang/invoke/VarHandle" ∧ (parseMethodDescriptor yJ0_coder_7d493.desc).map (fun d => d.parameters.length) = some 0 := by decide +kernel
theorem w_J0_length_8abf5_f9 : Cond.fieldLink yJ0_length_8abf5.cls 9 "java/lang/String" "value" "[B" ∈ uJ0_length_8abf5 := List.mem_cons_of_mem _ (wU_r8 _ (List.mem_of_getElem? (i := 5) rfl))
theorem g_J0_length_8abf5_335 : GoodIn uJ0_length_8abf5 (wsV yJ0_length_8abf5.cls 335 RJ0 yJ0_coder_7d493 uJ0_coder_7d493) := gU_V (wU_r8 _ (List.mem_of_getElem? (i := 6) rfl)) (wU_r8 _ (List.mem_of_getElem? (i := 7) rfl)) (wU_r8 _ (List.mem_of_getElem? (i := 8) rfl)) (wU_r8 _ (List.mem_of_getElem? (i := 3) rfl)) (wU_r8 _ (List.mem_of_getElem? (i := 9) rfl))
def f_J0_length_8abf5 (p0 : Nat) (S : aSt) : Option (Int32 × aSt) := (aB (f_J0_coder_7d493 (p0) S) (fun r1_ S1 => (some (((Int32.ofNat (a_strL.getD (p0) 0)) >>> (r1_ &&& 31)), S1))))
set_option maxRecDepth 20000 in
set_option maxHeartbeats 4000000 in
theorem m_J0_length_8abf5 {G : aG} (p0 : Nat) (q0 : p0 < 13) (S : aSt) : aMet G yJ0_length_8abf5 uJ0_length_8abf5 3 mk_i (f_J0_length_8abf5 p0 S) [.ref (1000 + p0)] S := by
  refine x_met (cc := cJ0_length_8abf5) (nL := 1) (ret := (some .int)) (L := [some (.ref (1000 + p0))]) (by decide +kernel) rfl (And.intro rfl trivial) (Nat.le_of_ble_eq_true rfl) ?_
  unfold f_J0_length_8abf5
  refine x_aload_n dJ0_length_8abf5_0 rfl rfl ?_
  refine x_getSv dJ0_length_8abf5_1 q0 w_J0_length_8abf5_f9 ?_
  refine x_blen dJ0_length_8abf5_4 q0 ?_
  refine x_aload_n dJ0_length_8abf5_5 rfl rfl ?_
  refine x_b (fun r1_ S1 e1 => ?_)
  refine x_callKi (As := []) dJ0_length_8abf5_6 (aMet_of e1 (m_J0_coder_7d493 (p0) q0 S)) g_J0_length_8abf5_335 rfl q0 dd_J0_coder_7d493 rfl rfl (Nat.le_of_ble_eq_true rfl) (Nat.le_of_ble_eq_true rfl) (Nat.le_of_ble_eq_true rfl) ?_
  refine x_ishr dJ0_length_8abf5_9 ?_
  exact x_iret dJ0_length_8abf5_10 rfl
def f_J3_checkIndex_8e157_N (p0 : Int32) (p1 : Int32) (S : aSt) : Option (Int32 × aSt) := (if p0 < 0 then none else (if p0 < p1 then (some (p0, S)) else none))
set_option maxRecDepth 20000 in
set_option maxHeartbeats 4000000 in
theorem m_J3_checkIndex_8e157_N {G : aG} (p0 : Int32) (p1 : Int32) (S : aSt) : aMet G yJ3_checkIndex_8e157 uJ3_checkIndex_8e157 1 mk_i (f_J3_checkIndex_8e157_N p0 p1 S) [.int p0, .int p1, .null] S := by
  refine x_met (cc := cJ3_checkIndex_8e157) (nL := 3) (ret := (some .int)) (L := [some (.int p0), some (.int p1), some (.null)]) (by decide +kernel) rfl (And.intro rfl (And.intro rfl (And.intro rfl trivial))) (Nat.le_of_ble_eq_true rfl) ?_
  unfold f_J3_checkIndex_8e157_N
  refine x_iload_n dJ3_checkIndex_8e157_0 rfl rfl ?_
  refine x_if_lt (tgt := 9) dJ3_checkIndex_8e157_1 (by decide) ?_ ?_
  · exact x_none
  · refine x_iload_n dJ3_checkIndex_8e157_4 rfl rfl ?_
    refine x_iload_n dJ3_checkIndex_8e157_5 rfl rfl ?_
    refine x_icmp_lt (tgt := 16) dJ3_checkIndex_8e157_6 (by decide) ?_ ?_
    · refine x_iload_n dJ3_checkIndex_8e157_16 rfl rfl ?_
      exact x_iret dJ3_checkIndex_8e157_17 rfl
    · exact x_none
set_option maxRecDepth 20000 in
set_option maxHeartbeats 4000000 in
theorem m_J3_checkIndex_8e157_R {G : aG} (p0 : Int32) (p1 : Int32) (S : aSt) : aMet G yJ3_checkIndex_8e157 uJ3_checkIndex_8e157 1 mk_i (f_J3_checkIndex_8e157_N p0 p1 S) [.int p0, .int p1, .ref (3003)] S := by
  refine x_met (cc := cJ3_checkIndex_8e157) (nL := 3) (ret := (some .int)) (L := [some (.int p0), some (.int p1), some (.ref (3003))]) (by decide +kernel) rfl (And.intro rfl (And.intro rfl (And.intro rfl trivial))) (Nat.le_of_ble_eq_true rfl) ?_
  unfold f_J3_checkIndex_8e157_N
  refine x_iload_n dJ3_checkIndex_8e157_0 rfl rfl ?_
  refine x_if_lt (tgt := 9) dJ3_checkIndex_8e157_1 (by decide) ?_ ?_
  · exact x_none
  · refine x_iload_n dJ3_checkIndex_8e157_4 rfl rfl ?_
    refine x_iload_n dJ3_checkIndex_8e157_5 rfl rfl ?_
    refine x_icmp_lt (tgt := 16) dJ3_checkIndex_8e157_6 (by decide) ?_ ?_
    · refine x_iload_n dJ3_checkIndex_8e157_16 rfl rfl ?_
      exact x_iret dJ3_checkIndex_8e157_17 rfl
    · exact x_none
theorem dd_J3_checkIndex_8e157 : yJ3_checkIndex_8e157.cls ≠ "java/lang/invoke/MethodHandle" ∧ yJ3_checkIndex_8e157.cls ≠ "java/lang/invoke/VarHandle" ∧ (parseMethodDescriptor yJ3_checkIndex_8e157.desc).map (fun d => d.parameters.length) = some 3 := by decide +kernel
theorem w_J0_checkIndex_df160_f1053 : Cond.fieldLink yJ0_checkIndex_df160.cls 1053 "jdk/internal/util/Preconditions" "SIOOBE_FORMATTER" "Ljava/util/function/BiFunction;" ∈ uJ0_checkIndex_df160 := List.mem_cons_of_mem _ (wU_r9 _ (List.mem_of_getElem? (i := 3) rfl))
theorem g_J0_checkIndex_df160_1059 : GoodIn uJ0_checkIndex_df160 (va_wsS yJ0_checkIndex_df160.cls 1059 yJ3_checkIndex_8e157 uJ3_checkIndex_8e157) := gU_S (wU_r9 _ (List.mem_of_getElem? (i := 4) rfl)) (wU_r9 _ (List.mem_of_getElem? (i := 5) rfl)) (wU_r9 _ (List.mem_of_getElem? (i := 6) rfl)) (wU_r9 _ (List.mem_of_getElem? (i := 7) rfl))
def f_J0_checkIndex_df160 (p0 : Int32) (p1 : Int32) (S : aSt) : Option (Unit × aSt) := (aB (f_J3_checkIndex_8e157_N p0 p1 S) (fun r1_ S1 => (some ((), S1))))
set_option maxRecDepth 20000 in
set_option maxHeartbeats 4000000 in
theorem m_J0_checkIndex_df160 {G : aG} (p0 : Int32) (p1 : Int32) (S : aSt) : aMet G yJ0_checkIndex_df160 uJ0_checkIndex_df160 2 mk_v (f_J0_checkIndex_df160 p0 p1 S) [.int p0, .int p1] S := by
  refine x_met (cc := cJ0_checkIndex_df160) (nL := 2) (ret := none) (L := [some (.int p0), some (.int p1)]) (by decide +kernel) rfl (And.intro rfl (And.intro rfl trivial)) (Nat.le_of_ble_eq_true rfl) ?_
  unfold f_J0_checkIndex_df160
  refine x_iload_n dJ0_checkIndex_df160_0 rfl rfl ?_
  refine x_iload_n dJ0_checkIndex_df160_1 rfl rfl ?_
  refine x_getFmt dJ0_checkIndex_df160_2 w_J0_checkIndex_df160_f1053 ?_ ?_
  · refine x_b (fun r1_ S1 e1 => ?_)
    refine x_callSi (As := [.int p0, .int p1, .null]) dJ0_checkIndex_df160_5 (aMet_of e1 (m_J3_checkIndex_8e157_N p0 p1 S)) g_J0_checkIndex_df160_1059 rfl dd_J3_checkIndex_8e157 rfl rfl (Nat.le_of_ble_eq_true rfl) (Nat.le_of_ble_eq_true rfl) (Nat.le_of_ble_eq_true rfl) ?_
    refine x_pop dJ0_checkIndex_df160_8 rfl ?_
    exact x_vret dJ0_checkIndex_df160_9 rfl
  · refine x_b (fun r1_ S1 e1 => ?_)
    refine x_callSi (As := [.int p0, .int p1, .ref (3003)]) dJ0_checkIndex_df160_5 (aMet_of e1 (m_J3_checkIndex_8e157_R p0 p1 S)) g_J0_checkIndex_df160_1059 rfl dd_J3_checkIndex_8e157 rfl rfl (Nat.le_of_ble_eq_true rfl) (Nat.le_of_ble_eq_true rfl) (Nat.le_of_ble_eq_true rfl) ?_
    refine x_pop dJ0_checkIndex_df160_8 rfl ?_
    exact x_vret dJ0_checkIndex_df160_9 rfl
theorem dd_J0_checkIndex_df160 : yJ0_checkIndex_df160.cls ≠ "java/lang/invoke/MethodHandle" ∧ yJ0_checkIndex_df160.cls ≠ "java/lang/invoke/VarHandle" ∧ (parseMethodDescriptor yJ0_checkIndex_df160.desc).map (fun d => d.parameters.length) = some 2 := by decide +kernel
theorem g_J1_charAt_3b067_9 : GoodIn uJ1_charAt_3b067 (va_wsS yJ1_charAt_3b067.cls 9 yJ0_checkIndex_df160 uJ0_checkIndex_df160) := gU_S (wU_r9 _ (List.mem_of_getElem? (i := 0) rfl)) (wU_r9 _ (List.mem_of_getElem? (i := 1) rfl)) (wU_r8 _ (List.mem_of_getElem? (i := 3) rfl)) (wU_r9 _ (List.mem_of_getElem? (i := 2) rfl))
def f_J1_charAt_3b067 (p0 : Nat) (p1 : Int32) (S : aSt) : Option (Int32 × aSt) := (aB (f_J0_checkIndex_df160 p1 (Int32.ofNat (a_strL.getD (p0) 0)) S) (fun r1_ S1 => (if p1 < 0 ∨ a_strL.getD (p0) 0 ≤ (p1).toNatClampNeg then none else (if narrow .char (.int (((((a_strB.getD (p0) []).getD (p1).toNatClampNeg 0) &&& (255 : Int32))).toUInt32 % 65536).toInt32) = .int (((((a_strB.getD (p0) []).getD (p1).toNatClampNeg 0) &&& (255 : Int32))).toUInt32 % 65536).toInt32 then some ((((((a_strB.getD (p0) []).getD (p1).toNatClampNeg 0) &&& (255 : Int32))).toUInt32 % 65536).toInt32, S1) else none))))
set_option maxRecDepth 20000 in
set_option maxHeartbeats 4000000 in
theorem m_J1_charAt_3b067 {G : aG} (p0 : Nat) (q0 : p0 < 13) (p1 : Int32) (S : aSt) : aMet G yJ1_charAt_3b067 uJ1_charAt_3b067 3 mk_i (f_J1_charAt_3b067 p0 p1 S) [.ref (2000 + p0), .int p1] S := by
  refine x_met (cc := cJ1_charAt_3b067) (nL := 2) (ret := (some .char)) (L := [some (.ref (2000 + p0)), some (.int p1)]) (by decide +kernel) rfl (And.intro rfl (And.intro rfl trivial)) (Nat.le_of_ble_eq_true rfl) ?_
  unfold f_J1_charAt_3b067
  refine x_iload_n dJ1_charAt_3b067_0 rfl rfl ?_
  refine x_aload_n dJ1_charAt_3b067_1 rfl rfl ?_
  refine x_blen dJ1_charAt_3b067_2 q0 ?_
  refine x_b (fun r1_ S1 e1 => ?_)
  refine x_callSv (As := [.int p1, .int (Int32.ofNat (a_strL.getD (p0) 0))]) dJ1_charAt_3b067_3 (aMet_of e1 (m_J0_checkIndex_df160 p1 (Int32.ofNat (a_strL.getD (p0) 0)) S)) g_J1_charAt_3b067_9 rfl dd_J0_checkIndex_df160 rfl rfl (Nat.le_of_ble_eq_true rfl) (Nat.le_of_ble_eq_true rfl) (Nat.le_of_ble_eq_true rfl) ?_
  refine x_aload_n dJ1_charAt_3b067_6 rfl rfl ?_
  refine x_iload_n dJ1_charAt_3b067_7 rfl rfl ?_
  refine x_bld dJ1_charAt_3b067_8 q0 ?_
  refine x_sipush (255 : Int32) dJ1_charAt_3b067_9 (by decide) ?_
  refine x_iand dJ1_charAt_3b067_12 ?_
  refine x_i2c dJ1_charAt_3b067_13 ?_
  exact x_cretc dJ1_charAt_3b067_14 rfl
theorem dd_J0_isLatin1_aae02 : yJ0_isLatin1_aae02.cls = "java/lang/String" ∧ yJ0_isLatin1_aae02.cls ≠ "java/lang/invoke/MethodHandle" ∧ yJ0_isLatin1_aae02.cls ≠ "java/lang/invoke/VarHandle" ∧ (parseMethodDescriptor yJ0_isLatin1_aae02.desc).map (fun d => d.parameters.length) = some 0 := by decide +kernel
theorem dd_J1_charAt_3b067 : yJ1_charAt_3b067.cls ≠ "java/lang/invoke/MethodHandle" ∧ yJ1_charAt_3b067.cls ≠ "java/lang/invoke/VarHandle" ∧ (parseMethodDescriptor yJ1_charAt_3b067.desc).map (fun d => d.parameters.length) = some 2 := by decide +kernel
theorem g_J0_charAt_5068e_492 : GoodIn uJ0_charAt_5068e (wsV yJ0_charAt_5068e.cls 492 RJ0 yJ0_isLatin1_aae02 uJ0_isLatin1_aae02) := gU_V (wU_r8 _ (List.mem_of_getElem? (i := 16) rfl)) (wU_r8 _ (List.mem_of_getElem? (i := 17) rfl)) (wU_r8 _ (List.mem_of_getElem? (i := 18) rfl)) (wU_r8 _ (List.mem_of_getElem? (i := 3) rfl)) (wU_r8 _ (List.mem_of_getElem? (i := 19) rfl))
theorem w_J0_charAt_5068e_f9 : Cond.fieldLink yJ0_charAt_5068e.cls 9 "java/lang/String" "value" "[B" ∈ uJ0_charAt_5068e := List.mem_cons_of_mem _ (wU_r8 _ (List.mem_of_getElem? (i := 5) rfl))
theorem g_J0_charAt_5068e_495 : GoodIn uJ0_charAt_5068e (va_wsS yJ0_charAt_5068e.cls 495 yJ1_charAt_3b067 uJ1_charAt_3b067) := gU_S (wU_r8 _ (List.mem_of_getElem? (i := 20) rfl)) (wU_r8 _ (List.mem_of_getElem? (i := 21) rfl)) (wU_r8 _ (List.mem_of_getElem? (i := 22) rfl)) (wU_r8 _ (List.mem_of_getElem? (i := 23) rfl))
def f_J0_charAt_5068e (p0 : Nat) (p1 : Int32) (S : aSt) : Option (Int32 × aSt) := (aB (f_J0_isLatin1_aae02 (p0) S) (fun r1_ S1 => (if r1_ = 0 then none else (aB (f_J1_charAt_3b067 (p0) p1 S1) (fun r2_ S2 => (if narrow .char (.int r2_) = .int r2_ then some (r2_, S2) else none))))))
set_option maxRecDepth 20000 in
set_option maxHeartbeats 4000000 in
theorem m_J0_charAt_5068e {G : aG} (p0 : Nat) (q0 : p0 < 13) (p1 : Int32) (S : aSt) : aMet G yJ0_charAt_5068e uJ0_charAt_5068e 4 mk_i (f_J0_charAt_5068e p0 p1 S) [.ref (1000 + p0), .int p1] S := by
  refine x_met (cc := cJ0_charAt_5068e) (nL := 2) (ret := (some .char)) (L := [some (.ref (1000 + p0)), some (.int p1)]) (by decide +kernel) rfl (And.intro rfl (And.intro rfl trivial)) (Nat.le_of_ble_eq_true rfl) ?_
  unfold f_J0_charAt_5068e
  refine x_aload_n dJ0_charAt_5068e_0 rfl rfl ?_
  refine x_b (fun r1_ S1 e1 => ?_)
  refine x_callKi (As := []) dJ0_charAt_5068e_1 (aMet_of e1 (m_J0_isLatin1_aae02 (p0) q0 S)) g_J0_charAt_5068e_492 rfl q0 dd_J0_isLatin1_aae02 rfl rfl (Nat.le_of_ble_eq_true rfl) (Nat.le_of_ble_eq_true rfl) (Nat.le_of_ble_eq_true rfl) ?_
  refine x_if_eq (tgt := 16) dJ0_charAt_5068e_4 (by decide) ?_ ?_
  · exact x_none
  · refine x_aload_n dJ0_charAt_5068e_7 rfl rfl ?_
    refine x_getSv dJ0_charAt_5068e_8 q0 w_J0_charAt_5068e_f9 ?_
    refine x_iload_n dJ0_charAt_5068e_11 rfl rfl ?_
    refine x_b (fun r2_ S2 e2 => ?_)
    refine x_callSi (As := [.ref (2000 + p0), .int p1]) dJ0_charAt_5068e_12 (aMet_of e2 (m_J1_charAt_3b067 (p0) q0 p1 S1)) g_J0_charAt_5068e_495 rfl dd_J1_charAt_3b067 rfl rfl (Nat.le_of_ble_eq_true rfl) (Nat.le_of_ble_eq_true rfl) (Nat.le_of_ble_eq_true rfl) ?_
    exact x_cretc dJ0_charAt_5068e_15 rfl
def f_J1_canEncode_9a6ad (p0 : Int32) (S : aSt) : Option (Int32 × aSt) := (if p0 < 0 then (some ((0 : Int32), S)) else (if (255 : Int32) < p0 then (some ((0 : Int32), S)) else (some ((1 : Int32), S))))
set_option maxRecDepth 20000 in
set_option maxHeartbeats 4000000 in
theorem m_J1_canEncode_9a6ad {G : aG} (p0 : Int32) (S : aSt) : aMet G yJ1_canEncode_9a6ad uJ1_canEncode_9a6ad 2 mk_i (f_J1_canEncode_9a6ad p0 S) [.int p0] S := by
  refine x_met (cc := cJ1_canEncode_9a6ad) (nL := 1) (ret := (some .boolean)) (L := [some (.int p0)]) (by decide +kernel) rfl (And.intro rfl trivial) (Nat.le_of_ble_eq_true rfl) ?_
  unfold f_J1_canEncode_9a6ad
  refine x_iload_n dJ1_canEncode_9a6ad_0 rfl rfl ?_
  refine x_if_lt (tgt := 15) dJ1_canEncode_9a6ad_1 (by decide) ?_ ?_
  · refine x_iconst (0 : Int32) dJ1_canEncode_9a6ad_15 (by decide) ?_
    exact x_zret dJ1_canEncode_9a6ad_16 rfl rfl
  · refine x_iload_n dJ1_canEncode_9a6ad_4 rfl rfl ?_
    refine x_sipush (255 : Int32) dJ1_canEncode_9a6ad_5 (by decide) ?_
    refine x_icmp_gt (tgt := 15) dJ1_canEncode_9a6ad_8 (by decide) ?_ ?_
    · refine x_iconst (0 : Int32) dJ1_canEncode_9a6ad_15 (by decide) ?_
      exact x_zret dJ1_canEncode_9a6ad_16 rfl rfl
    · refine x_iconst (1 : Int32) dJ1_canEncode_9a6ad_11 (by decide) ?_
      refine x_goto (tgt := 16) dJ1_canEncode_9a6ad_12 (by decide) ?_
      exact x_zret dJ1_canEncode_9a6ad_16 rfl rfl
def f_J1_indexOfChar_4cfef_7  : Nat → Nat → Int32 → Int32 → Int32 → aSt → Option (Int32 × aSt)
  | 0, _, _, _, _, _ => none
  | n + 1, l0, l3, l4, l5, S => (if l3 ≤ l5 then (some ((-1 : Int32), S)) else (if l5 < 0 ∨ a_strL.getD (l0) 0 ≤ (l5).toNatClampNeg then none else (if ((a_strB.getD (l0) []).getD (l5).toNatClampNeg 0) = l4 then (some (l5, S)) else (aLt (l5 + (1 : Int32)) (fun x2 => (f_J1_indexOfChar_4cfef_7 n (l0) l3 l4 x2 S))))))
set_option maxRecDepth 20000 in
set_option maxHeartbeats 4000000 in
theorem v_J1_indexOfChar_4cfef_7 {G : aG} : ∀ (n : Nat) (l0 : Nat) (ql0 : l0 < 13) (l3 : Int32) (l4 : Int32) (l5 : Int32) (S : aSt), aX G yJ1_indexOfChar_4cfef cJ1_indexOfChar_4cfef 6 (some .int) uJ1_indexOfChar_4cfef 2 mk_i (f_J1_indexOfChar_4cfef_7 n l0 l3 l4 l5 S) 7 [some (.ref (2000 + l0)), none, none, some (.int l3), some (.int l4), some (.int l5)] [] S := by
  intro n
  induction n with
  | zero => intro l0 ql0 l3 l4 l5 S; exact x_none
  | succ n ih =>
    intro l0 ql0 l3 l4 l5 S
    unfold f_J1_indexOfChar_4cfef_7
    refine x_iload dJ1_indexOfChar_4cfef_7 rfl ?_
    refine x_iload_n dJ1_indexOfChar_4cfef_9 rfl rfl ?_
    refine x_icmp_ge (tgt := 31) dJ1_indexOfChar_4cfef_10 (by decide) ?_ ?_
    · refine x_iconst (-1 : Int32) dJ1_indexOfChar_4cfef_31 (by decide) ?_
      exact x_iret dJ1_indexOfChar_4cfef_32 rfl
    · refine x_aload_n dJ1_indexOfChar_4cfef_13 rfl rfl ?_
      refine x_iload dJ1_indexOfChar_4cfef_14 rfl ?_
      refine x_bld dJ1_indexOfChar_4cfef_16 ql0 ?_
      refine x_iload dJ1_indexOfChar_4cfef_17 rfl ?_
      refine x_icmp_ne (tgt := 25) dJ1_indexOfChar_4cfef_19 (by decide) ?_ ?_
      · refine x_iincL (w := (1 : Int32)) dJ1_indexOfChar_4cfef_25 rfl (by decide) (Nat.le_of_ble_eq_true rfl) rfl (fun x2 => ?_)
        refine x_goto (tgt := 7) dJ1_indexOfChar_4cfef_28 (by decide) ?_
        exact x_le (ih (l0) ql0 l3 l4 x2 S) (And.intro rfl (And.intro rfl (And.intro rfl (And.intro rfl trivial))))
      · refine x_iload dJ1_indexOfChar_4cfef_22 rfl ?_
        exact x_iret dJ1_indexOfChar_4cfef_24 rfl
def f_J1_indexOfChar_4cfef (p0 : Nat) (p1 : Int32) (p2 : Int32) (p3 : Int32) (S : aSt) : Option (Int32 × aSt) := (aLt (p1).toInt8.toInt32 (fun x1 => (f_J1_indexOfChar_4cfef_7 aF (p0) p3 x1 p2 S)))
set_option maxRecDepth 20000 in
set_option maxHeartbeats 4000000 in
theorem m_J1_indexOfChar_4cfef {G : aG} (p0 : Nat) (q0 : p0 < 13) (p1 : Int32) (p2 : Int32) (p3 : Int32) (S : aSt) : aMet G yJ1_indexOfChar_4cfef uJ1_indexOfChar_4cfef 2 mk_i (f_J1_indexOfChar_4cfef p0 p1 p2 p3 S) [.ref (2000 + p0), .int p1, .int p2, .int p3] S := by
  refine x_met (cc := cJ1_indexOfChar_4cfef) (nL := 6) (ret := (some .int)) (L := [some (.ref (2000 + p0)), some (.int p1), some (.int p2), some (.int p3), none, none]) (by decide +kernel) rfl (And.intro rfl (And.intro rfl (And.intro rfl (And.intro rfl trivial)))) (Nat.le_of_ble_eq_true rfl) ?_
  unfold f_J1_indexOfChar_4cfef
  refine x_iload_n dJ1_indexOfChar_4cfef_0 rfl rfl ?_
  refine x_i2b dJ1_indexOfChar_4cfef_1 ?_
  refine x_lti (fun x1 => ?_)
  refine x_istore dJ1_indexOfChar_4cfef_2 (Nat.le_of_ble_eq_true rfl) rfl ?_
  refine x_iload_n dJ1_indexOfChar_4cfef_4 rfl rfl ?_
  refine x_istore dJ1_indexOfChar_4cfef_5 (Nat.le_of_ble_eq_true rfl) rfl ?_
  exact x_le (v_J1_indexOfChar_4cfef_7 aF (p0) q0 p3 x1 p2 S) (And.intro rfl (And.intro rfl (And.intro rfl (And.intro rfl trivial))))
theorem dd_J1_canEncode_9a6ad : yJ1_canEncode_9a6ad.cls ≠ "java/lang/invoke/MethodHandle" ∧ yJ1_canEncode_9a6ad.cls ≠ "java/lang/invoke/VarHandle" ∧ (parseMethodDescriptor yJ1_canEncode_9a6ad.desc).map (fun d => d.parameters.length) = some 1 := by decide +kernel
theorem dd_J1_indexOfChar_4cfef : yJ1_indexOfChar_4cfef.cls ≠ "java/lang/invoke/MethodHandle" ∧ yJ1_indexOfChar_4cfef.cls ≠ "java/lang/invoke/VarHandle" ∧ (parseMethodDescriptor yJ1_indexOfChar_4cfef.desc).map (fun d => d.parameters.length) = some 4 := by decide +kernel
theorem g_J1_indexOf_4cfef_88 : GoodIn uJ1_indexOf_4cfef (va_wsS yJ1_indexOf_4cfef.cls 88 yJ1_canEncode_9a6ad uJ1_canEncode_9a6ad) := gU_S (wU_r11 _ (List.mem_of_getElem? (i := 4) rfl)) (wU_r11 _ (List.mem_of_getElem? (i := 5) rfl)) (wU_r8 _ (List.mem_of_getElem? (i := 22) rfl)) (wU_r11 _ (List.mem_of_getElem? (i := 6) rfl))
theorem w_J1_indexOf_4cfef_m92 : Cond.methodLink yJ1_indexOf_4cfef.cls 92 Lib.Math.max.name ∈ uJ1_indexOf_4cfef := List.mem_cons_of_mem _ (wU_r10 _ (List.mem_of_getElem? (i := 21) rfl))
theorem w_J1_indexOf_4cfef_ms_max : Cond.static Lib.Math.max.name ∈ uJ1_indexOf_4cfef := List.mem_cons_of_mem _ (wU_r10 _ (List.mem_of_getElem? (i := 22) rfl))
theorem w_J1_indexOf_4cfef_mi : Cond.initialized "java/lang/Math" ∈ uJ1_indexOf_4cfef := List.mem_cons_of_mem _ (wU_r10 _ (List.mem_of_getElem? (i := 23) rfl))
theorem w_J1_indexOf_4cfef_mc_max : Cond.code Lib.Math.max.name Lib.Math.max.code 2 (some .int) ∈ uJ1_indexOf_4cfef := List.mem_cons_of_mem _ (wU_r11 _ (List.mem_of_getElem? (i := 0) rfl))
theorem w_J1_indexOf_4cfef_m38 : Cond.methodLink yJ1_indexOf_4cfef.cls 38 Lib.Math.min.name ∈ uJ1_indexOf_4cfef := List.mem_cons_of_mem _ (wU_r11 _ (List.mem_of_getElem? (i := 1) rfl))
theorem w_J1_indexOf_4cfef_ms_min : Cond.static Lib.Math.min.name ∈ uJ1_indexOf_4cfef := List.mem_cons_of_mem _ (wU_r11 _ (List.mem_of_getElem? (i := 2) rfl))
theorem w_J1_indexOf_4cfef_mc_min : Cond.code Lib.Math.min.name Lib.Math.min.code 2 (some .int) ∈ uJ1_indexOf_4cfef := List.mem_cons_of_mem _ (wU_r11 _ (List.mem_of_getElem? (i := 3) rfl))
theorem g_J1_indexOf_4cfef_95 : GoodIn uJ1_indexOf_4cfef (va_wsS yJ1_indexOf_4cfef.cls 95 yJ1_indexOfChar_4cfef uJ1_indexOfChar_4cfef) := gU_S (wU_r11 _ (List.mem_of_getElem? (i := 7) rfl)) (wU_r11 _ (List.mem_of_getElem? (i := 8) rfl)) (wU_r8 _ (List.mem_of_getElem? (i := 22) rfl)) (wU_r11 _ (List.mem_of_getElem? (i := 9) rfl))
def f_J1_indexOf_4cfef (p0 : Nat) (p1 : Int32) (p2 : Int32) (p3 : Int32) (S : aSt) : Option (Int32 × aSt) := (aB (f_J1_canEncode_9a6ad p1 S) (fun r1_ S1 => (if r1_ = 0 then (some ((-1 : Int32), S1)) else (aLt (if p2 < (0 : Int32) then (0 : Int32) else p2) (fun x2 => (aLt (if (Int32.ofNat (a_strL.getD (p0) 0)) < p3 then (Int32.ofNat (a_strL.getD (p0) 0)) else p3) (fun x3 => (if x2 < x3 then (aB (f_J1_indexOfChar_4cfef (p0) p1 x2 x3 S1) (fun r4_ S4 => (some (r4_, S4)))) else (some ((-1 : Int32), S1))))))))))
set_option maxRecDepth 20000 in
set_option maxHeartbeats 4000000 in
theorem m_J1_indexOf_4cfef {G : aG} (p0 : Nat) (q0 : p0 < 13) (p1 : Int32) (p2 : Int32) (p3 : Int32) (S : aSt) : aMet G yJ1_indexOf_4cfef uJ1_indexOf_4cfef 3 mk_i (f_J1_indexOf_4cfef p0 p1 p2 p3 S) [.ref (2000 + p0), .int p1, .int p2, .int p3] S := by
  refine x_met (cc := cJ1_indexOf_4cfef) (nL := 4) (ret := (some .int)) (L := [some (.ref (2000 + p0)), some (.int p1), some (.int p2), some (.int p3)]) (by decide +kernel) rfl (And.intro rfl (And.intro rfl (And.intro rfl (And.intro rfl trivial)))) (Nat.le_of_ble_eq_true rfl) ?_
  unfold f_J1_indexOf_4cfef
  refine x_iload_n dJ1_indexOf_4cfef_0 rfl rfl ?_
  refine x_b (fun r1_ S1 e1 => ?_)
  refine x_callSi (As := [.int p1]) dJ1_indexOf_4cfef_1 (aMet_of e1 (m_J1_canEncode_9a6ad p1 S)) g_J1_indexOf_4cfef_88 rfl dd_J1_canEncode_9a6ad rfl rfl (Nat.le_of_ble_eq_true rfl) (Nat.le_of_ble_eq_true rfl) (Nat.le_of_ble_eq_true rfl) ?_
  refine x_if_ne (tgt := 9) dJ1_indexOf_4cfef_4 (by decide) ?_ ?_
  · refine x_iload_n dJ1_indexOf_4cfef_9 rfl rfl ?_
    refine x_iconst (0 : Int32) dJ1_indexOf_4cfef_10 (by decide) ?_
    refine x_max dJ1_indexOf_4cfef_11 w_J1_indexOf_4cfef_m92 w_J1_indexOf_4cfef_ms_max w_J1_indexOf_4cfef_mi w_J1_indexOf_4cfef_mc_max (Nat.le_of_ble_eq_true rfl) (Nat.le_of_ble_eq_true rfl) ?_
    refine x_lti (fun x2 => ?_)
    refine x_istore_n dJ1_indexOf_4cfef_14 rfl (Nat.le_of_ble_eq_true rfl) rfl ?_
    refine x_iload_n dJ1_indexOf_4cfef_15 rfl rfl ?_
    refine x_aload_n dJ1_indexOf_4cfef_16 rfl rfl ?_
    refine x_blen dJ1_indexOf_4cfef_17 q0 ?_
    refine x_min dJ1_indexOf_4cfef_18 w_J1_indexOf_4cfef_m38 w_J1_indexOf_4cfef_ms_min w_J1_indexOf_4cfef_mi w_J1_indexOf_4cfef_mc_min (Nat.le_of_ble_eq_true rfl) (Nat.le_of_ble_eq_true rfl) ?_
    refine x_lti (fun x3 => ?_)
    refine x_istore_n dJ1_indexOf_4cfef_21 rfl (Nat.le_of_ble_eq_true rfl) rfl ?_
    refine x_iload_n dJ1_indexOf_4cfef_22 rfl rfl ?_
    refine x_iload_n dJ1_indexOf_4cfef_23 rfl rfl ?_
    refine x_icmp_lt (tgt := 29) dJ1_indexOf_4cfef_24 (by decide) ?_ ?_
    · refine x_aload_n dJ1_indexOf_4cfef_29 rfl rfl ?_
      refine x_iload_n dJ1_indexOf_4cfef_30 rfl rfl ?_
      refine x_iload_n dJ1_indexOf_4cfef_31 rfl rfl ?_
      refine x_iload_n dJ1_indexOf_4cfef_32 rfl rfl ?_
      refine x_b (fun r4_ S4 e4 => ?_)
      refine x_callSi (As := [.ref (2000 + p0), .int p1, .int x2, .int x3]) dJ1_indexOf_4cfef_33 (aMet_of e4 (m_J1_indexOfChar_4cfef (p0) q0 p1 x2 x3 S1)) g_J1_indexOf_4cfef_95 rfl dd_J1_indexOfChar_4cfef rfl rfl (Nat.le_of_ble_eq_true rfl) (Nat.le_of_ble_eq_true rfl) (Nat.le_of_ble_eq_true rfl) ?_
      exact x_iret dJ1_indexOf_4cfef_36 rfl
    · refine x_iconst (-1 : Int32) dJ1_indexOf_4cfef_27 (by decide) ?_
      exact x_iret dJ1_indexOf_4cfef_28 rfl
  · refine x_iconst (-1 : Int32) dJ1_indexOf_4cfef_7 (by decide) ?_
    exact x_iret dJ1_indexOf_4cfef_8 rfl
theorem dd_J0_length_8abf5 : yJ0_length_8abf5.cls = "java/lang/String" ∧ yJ0_length_8abf5.cls ≠ "java/lang/invoke/MethodHandle" ∧ yJ0_length_8abf5.cls ≠ "java/lang/invoke/VarHandle" ∧ (parseMethodDescriptor yJ0_length_8abf5.desc).map (fun d => d.parameters.length) = some 0 := by decide +kernel
theorem dd_J1_indexOf_4cfef : yJ1_indexOf_4cfef.cls ≠ "java/lang/invoke/MethodHandle" ∧ yJ1_indexOf_4cfef.cls ≠ "java/lang/invoke/VarHandle" ∧ (parseMethodDescriptor yJ1_indexOf_4cfef.desc).map (fun d => d.parameters.length) = some 4 := by decide +kernel
theorem g_J0_indexOf_7cf53_492 : GoodIn uJ0_indexOf_7cf53 (wsV yJ0_indexOf_7cf53.cls 492 RJ0 yJ0_isLatin1_aae02 uJ0_isLatin1_aae02) := gU_V (wU_r8 _ (List.mem_of_getElem? (i := 16) rfl)) (wU_r8 _ (List.mem_of_getElem? (i := 17) rfl)) (wU_r8 _ (List.mem_of_getElem? (i := 18) rfl)) (wU_r8 _ (List.mem_of_getElem? (i := 3) rfl)) (wU_r8 _ (List.mem_of_getElem? (i := 19) rfl))
theorem w_J0_indexOf_7cf53_f9 : Cond.fieldLink yJ0_indexOf_7cf53.cls 9 "java/lang/String" "value" "[B" ∈ uJ0_indexOf_7cf53 := List.mem_cons_of_mem _ (wU_r8 _ (List.mem_of_getElem? (i := 5) rfl))
theorem g_J0_indexOf_7cf53_505 : GoodIn uJ0_indexOf_7cf53 (wsV yJ0_indexOf_7cf53.cls 505 RJ0 yJ0_length_8abf5 uJ0_length_8abf5) := gU_V (wU_r10 _ (List.mem_of_getElem? (i := 17) rfl)) (wU_r8 _ (List.mem_of_getElem? (i := 1) rfl)) (wU_r8 _ (List.mem_of_getElem? (i := 2) rfl)) (wU_r8 _ (List.mem_of_getElem? (i := 3) rfl)) (wU_r8 _ (List.mem_of_getElem? (i := 4) rfl))
theorem g_J0_indexOf_7cf53_637 : GoodIn uJ0_indexOf_7cf53 (va_wsS yJ0_indexOf_7cf53.cls 637 yJ1_indexOf_4cfef uJ1_indexOf_4cfef) := gU_S (wU_r10 _ (List.mem_of_getElem? (i := 18) rfl)) (wU_r10 _ (List.mem_of_getElem? (i := 19) rfl)) (wU_r8 _ (List.mem_of_getElem? (i := 22) rfl)) (wU_r10 _ (List.mem_of_getElem? (i := 20) rfl))
def f_J0_indexOf_7cf53 (p0 : Nat) (p1 : Int32) (p2 : Int32) (S : aSt) : Option (Int32 × aSt) := (aB (f_J0_isLatin1_aae02 (p0) S) (fun r1_ S1 => (if r1_ = 0 then none else (aB (f_J0_length_8abf5 (p0) S1) (fun r2_ S2 => (aB (f_J1_indexOf_4cfef (p0) p1 p2 r2_ S2) (fun r3_ S3 => (some (r3_, S3)))))))))
set_option maxRecDepth 20000 in
set_option maxHeartbeats 4000000 in
theorem m_J0_indexOf_7cf53 {G : aG} (p0 : Nat) (q0 : p0 < 13) (p1 : Int32) (p2 : Int32) (S : aSt) : aMet G yJ0_indexOf_7cf53 uJ0_indexOf_7cf53 4 mk_i (f_J0_indexOf_7cf53 p0 p1 p2 S) [.ref (1000 + p0), .int p1, .int p2] S := by
  refine x_met (cc := cJ0_indexOf_7cf53) (nL := 3) (ret := (some .int)) (L := [some (.ref (1000 + p0)), some (.int p1), some (.int p2)]) (by decide +kernel) rfl (And.intro rfl (And.intro rfl (And.intro rfl trivial))) (Nat.le_of_ble_eq_true rfl) ?_
  unfold f_J0_indexOf_7cf53
  refine x_aload_n dJ0_indexOf_7cf53_0 rfl rfl ?_
  refine x_b (fun r1_ S1 e1 => ?_)
  refine x_callKi (As := []) dJ0_indexOf_7cf53_1 (aMet_of e1 (m_J0_isLatin1_aae02 (p0) q0 S)) g_J0_indexOf_7cf53_492 rfl q0 dd_J0_isLatin1_aae02 rfl rfl (Nat.le_of_ble_eq_true rfl) (Nat.le_of_ble_eq_true rfl) (Nat.le_of_ble_eq_true rfl) ?_
  refine x_if_eq (tgt := 23) dJ0_indexOf_7cf53_4 (by decide) ?_ ?_
  · exact x_none
  · refine x_aload_n dJ0_indexOf_7cf53_7 rfl rfl ?_
    refine x_getSv dJ0_indexOf_7cf53_8 q0 w_J0_indexOf_7cf53_f9 ?_
    refine x_iload_n dJ0_indexOf_7cf53_11 rfl rfl ?_
    refine x_iload_n dJ0_indexOf_7cf53_12 rfl rfl ?_
    refine x_aload_n dJ0_indexOf_7cf53_13 rfl rfl ?_
    refine x_b (fun r2_ S2 e2 => ?_)
    refine x_callKi (As := []) dJ0_indexOf_7cf53_14 (aMet_of e2 (m_J0_length_8abf5 (p0) q0 S1)) g_J0_indexOf_7cf53_505 rfl q0 dd_J0_length_8abf5 rfl rfl (Nat.le_of_ble_eq_true rfl) (Nat.le_of_ble_eq_true rfl) (Nat.le_of_ble_eq_true rfl) ?_
    refine x_b (fun r3_ S3 e3 => ?_)
    refine x_callSi (As := [.ref (2000 + p0), .int p1, .int p2, .int r2_]) dJ0_indexOf_7cf53_17 (aMet_of e3 (m_J1_indexOf_4cfef (p0) q0 p1 p2 r2_ S2)) g_J0_indexOf_7cf53_637 rfl dd_J1_indexOf_4cfef rfl rfl (Nat.le_of_ble_eq_true rfl) (Nat.le_of_ble_eq_true rfl) (Nat.le_of_ble_eq_true rfl) ?_
    refine x_goto (tgt := 36) dJ0_indexOf_7cf53_20 (by decide) ?_
    exact x_iret dJ0_indexOf_7cf53_36 rfl
theorem dd_J0_indexOf_7cf53 : yJ0_indexOf_7cf53.cls = "java/lang/String" ∧ yJ0_indexOf_7cf53.cls ≠ "java/lang/invoke/MethodHandle" ∧ yJ0_indexOf_7cf53.cls ≠ "java/lang/invoke/VarHandle" ∧ (parseMethodDescriptor yJ0_indexOf_7cf53.desc).map (fun d => d.parameters.length) = some 2 := by decide +kernel
theorem g_J0_indexOf_0f7a4_633 : GoodIn uJ0_indexOf_0f7a4 (wsV yJ0_indexOf_0f7a4.cls 633 RJ0 yJ0_indexOf_7cf53 uJ0_indexOf_7cf53) := gU_V (wU_r10 _ (List.mem_of_getElem? (i := 13) rfl)) (wU_r10 _ (List.mem_of_getElem? (i := 14) rfl)) (wU_r10 _ (List.mem_of_getElem? (i := 15) rfl)) (wU_r8 _ (List.mem_of_getElem? (i := 3) rfl)) (wU_r10 _ (List.mem_of_getElem? (i := 16) rfl))
def f_J0_indexOf_0f7a4 (p0 : Nat) (p1 : Int32) (S : aSt) : Option (Int32 × aSt) := (aB (f_J0_indexOf_7cf53 (p0) p1 (0 : Int32) S) (fun r1_ S1 => (some (r1_, S1))))
set_option maxRecDepth 20000 in
set_option maxHeartbeats 4000000 in
theorem m_J0_indexOf_0f7a4 {G : aG} (p0 : Nat) (q0 : p0 < 13) (p1 : Int32) (S : aSt) : aMet G yJ0_indexOf_0f7a4 uJ0_indexOf_0f7a4 5 mk_i (f_J0_indexOf_0f7a4 p0 p1 S) [.ref (1000 + p0), .int p1] S := by
  refine x_met (cc := cJ0_indexOf_0f7a4) (nL := 2) (ret := (some .int)) (L := [some (.ref (1000 + p0)), some (.int p1)]) (by decide +kernel) rfl (And.intro rfl (And.intro rfl trivial)) (Nat.le_of_ble_eq_true rfl) ?_
  unfold f_J0_indexOf_0f7a4
  refine x_aload_n dJ0_indexOf_0f7a4_0 rfl rfl ?_
  refine x_iload_n dJ0_indexOf_0f7a4_1 rfl rfl ?_
  refine x_iconst (0 : Int32) dJ0_indexOf_0f7a4_2 (by decide) ?_
  refine x_b (fun r1_ S1 e1 => ?_)
  refine x_callKi (As := [.int p1, .int (0 : Int32)]) dJ0_indexOf_0f7a4_3 (aMet_of e1 (m_J0_indexOf_7cf53 (p0) q0 p1 (0 : Int32) S)) g_J0_indexOf_0f7a4_633 rfl q0 dd_J0_indexOf_7cf53 rfl rfl (Nat.le_of_ble_eq_true rfl) (Nat.le_of_ble_eq_true rfl) (Nat.le_of_ble_eq_true rfl) ?_
  exact x_iret dJ0_indexOf_0f7a4_6 rfl

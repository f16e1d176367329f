/-! written by program: what the bytecode does, and the walk -/
theorem w_X1_changeByKind_f82 : Cond.fieldLink yX1_changeByKind.cls 82 (TX1 1).1 (TX1 1).2.1 (TX1 1).2.2.1 ∈ uX1_changeByKind := List.mem_cons_of_mem _ (wU_r22 _ (List.mem_of_getElem? (i := 15) rfl))
theorem w_X1_changeByKind_m117 : Cond.methodLink yX1_changeByKind.cls 117 Lib.Math.abs.name ∈ uX1_changeByKind := List.mem_cons_of_mem _ (wU_r23 _ (List.mem_of_getElem? (i := 11) rfl))
theorem w_X1_changeByKind_ms_abs : Cond.static Lib.Math.abs.name ∈ uX1_changeByKind := List.mem_cons_of_mem _ (wU_r23 _ (List.mem_of_getElem? (i := 12) rfl))
theorem w_X1_changeByKind_mi : Cond.initialized "java/lang/Math" ∈ uX1_changeByKind := List.mem_cons_of_mem _ (wU_r10 _ (List.mem_of_getElem? (i := 23) rfl))
theorem w_X1_changeByKind_mc_abs : Cond.code Lib.Math.abs.name Lib.Math.abs.code 1 (some .int) ∈ uX1_changeByKind := List.mem_cons_of_mem _ (wU_r23 _ (List.mem_of_getElem? (i := 13) rfl))
theorem w_X1_changeByKind_f88 : Cond.fieldLink yX1_changeByKind.cls 88 (TX1 2).1 (TX1 2).2.1 (TX1 2).2.2.1 ∈ uX1_changeByKind := List.mem_cons_of_mem _ (wU_r22 _ (List.mem_of_getElem? (i := 17) rfl))
theorem w_X1_changeByKind_m52 : Cond.methodLink yX1_changeByKind.cls 52 Lib.Math.max.name ∈ uX1_changeByKind := List.mem_cons_of_mem _ (wU_r21 _ (List.mem_of_getElem? (i := 9) rfl))
theorem w_X1_changeByKind_ms_max : Cond.static Lib.Math.max.name ∈ uX1_changeByKind := List.mem_cons_of_mem _ (wU_r10 _ (List.mem_of_getElem? (i := 22) rfl))
theorem w_X1_changeByKind_mc_max : Cond.code Lib.Math.max.name Lib.Math.max.code 2 (some .int) ∈ uX1_changeByKind := List.mem_cons_of_mem _ (wU_r11 _ (List.mem_of_getElem? (i := 0) rfl))
theorem w_X1_changeByKind_f76 : Cond.fieldLink yX1_changeByKind.cls 76 (TX1 0).1 (TX1 0).2.1 (TX1 0).2.2.1 ∈ uX1_changeByKind := List.mem_cons_of_mem _ (wU_r22 _ (List.mem_of_getElem? (i := 14) rfl))
theorem w_X1_changeByKind_f91 : Cond.fieldLink yX1_changeByKind.cls 91 (TX1 3).1 (TX1 3).2.1 (TX1 3).2.2.1 ∈ uX1_changeByKind := List.mem_cons_of_mem _ (wU_r22 _ (List.mem_of_getElem? (i := 18) rfl))
def f_X1_changeByKind_86  (l1 : Int32) (l2 : Int32) (S : aSt) : Option (Unit × aSt) := (if l1 = (6 : Int32) then (aLt (aUi S (29) 3 (if (0 : Int32) < ((S.1 (29) 3) - l2) then ((S.1 (29) 3) - l2) else (0 : Int32))) (fun S5 => (some ((), S5)))) else (some ((), S)))
set_option maxRecDepth 20000 in
set_option maxHeartbeats 4000000 in
theorem v_X1_changeByKind_86 {G : aG} (hC : aCo G) (l1 : Int32) (l2 : Int32) (S : aSt) : aX G yX1_changeByKind cX1_changeByKind 3 none uX1_changeByKind 2 mk_v (f_X1_changeByKind_86 l1 l2 S) 86 [some (.ref (29)), some (.int l1), some (.int l2)] [] S := by
  unfold f_X1_changeByKind_86
  refine x_iload_n dX1_changeByKind_86 rfl rfl ?_
  refine x_bipush (6 : Int32) dX1_changeByKind_87 (by decide) ?_
  refine x_icmp_ne (tgt := 106) dX1_changeByKind_89 (by decide) ?_ ?_
  · exact x_vret dX1_changeByKind_106 rfl
  · refine x_aload_n dX1_changeByKind_92 rfl rfl ?_
    refine x_iconst (0 : Int32) dX1_changeByKind_93 (by decide) ?_
    refine x_aload_n dX1_changeByKind_94 rfl rfl ?_
    refine x_getI (k := 29) (j := 3) dX1_changeByKind_95 hC rfl rfl (Nat.le_of_ble_eq_true rfl) (fun w h => List.mem_cons_of_mem _ (inlX1 w h)) w_X1_changeByKind_f91 ?_
    refine x_iload_n dX1_changeByKind_98 rfl rfl ?_
    refine x_isub dX1_changeByKind_99 ?_
    refine x_max dX1_changeByKind_100 w_X1_changeByKind_m52 w_X1_changeByKind_ms_max w_X1_changeByKind_mi w_X1_changeByKind_mc_max (Nat.le_of_ble_eq_true rfl) (Nat.le_of_ble_eq_true rfl) ?_
    refine x_putI (k := 29) (j := 3) dX1_changeByKind_103 hC rfl rfl (Nat.le_of_ble_eq_true rfl) (fun w h => List.mem_cons_of_mem _ (inlX1 w h)) w_X1_changeByKind_f91 tyX1 tyX1_ok nmX1 rfl (by decide +kernel) ?_
    refine x_ltS (fun S5 => ?_)
    exact x_vret dX1_changeByKind_106 rfl
def f_X1_changeByKind_76  (l1 : Int32) (l2 : Int32) (S : aSt) : Option (Unit × aSt) := (aLt (aUi S (29) 0 ((S.1 (29) 0) - l2)) (fun S4 => (f_X1_changeByKind_86 l1 l2 S4)))
set_option maxRecDepth 20000 in
set_option maxHeartbeats 4000000 in
theorem v_X1_changeByKind_76 {G : aG} (hC : aCo G) (l1 : Int32) (l2 : Int32) (S : aSt) : aX G yX1_changeByKind cX1_changeByKind 3 none uX1_changeByKind 2 mk_v (f_X1_changeByKind_76 l1 l2 S) 76 [some (.ref (29)), some (.int l1), some (.int l2)] [] S := by
  unfold f_X1_changeByKind_76
  refine x_aload_n dX1_changeByKind_76 rfl rfl ?_
  refine x_dup dX1_changeByKind_77 rfl ?_
  refine x_getI (k := 29) (j := 0) dX1_changeByKind_78 hC rfl rfl (Nat.le_of_ble_eq_true rfl) (fun w h => List.mem_cons_of_mem _ (inlX1 w h)) w_X1_changeByKind_f76 ?_
  refine x_iload_n dX1_changeByKind_81 rfl rfl ?_
  refine x_isub dX1_changeByKind_82 ?_
  refine x_putI (k := 29) (j := 0) dX1_changeByKind_83 hC rfl rfl (Nat.le_of_ble_eq_true rfl) (fun w h => List.mem_cons_of_mem _ (inlX1 w h)) w_X1_changeByKind_f76 tyX1 tyX1_ok nmX1 rfl (by decide +kernel) ?_
  refine x_ltS (fun S4 => ?_)
  exact x_le (v_X1_changeByKind_86 hC l1 l2 S4) (And.intro rfl (And.intro rfl (And.intro rfl trivial)))
def f_X1_changeByKind_65  (l1 : Int32) (l2 : Int32) (S : aSt) : Option (Unit × aSt) := (if l1 = (3 : Int32) then (f_X1_changeByKind_76 l1 l2 S) else (if l1 = (6 : Int32) then (f_X1_changeByKind_76 l1 l2 S) else (f_X1_changeByKind_86 l1 l2 S)))
set_option maxRecDepth 20000 in
set_option maxHeartbeats 4000000 in
theorem v_X1_changeByKind_65 {G : aG} (hC : aCo G) (l1 : Int32) (l2 : Int32) (S : aSt) : aX G yX1_changeByKind cX1_changeByKind 3 none uX1_changeByKind 2 mk_v (f_X1_changeByKind_65 l1 l2 S) 65 [some (.ref (29)), some (.int l1), some (.int l2)] [] S := by
  unfold f_X1_changeByKind_65
  refine x_iload_n dX1_changeByKind_65 rfl rfl ?_
  refine x_iconst (3 : Int32) dX1_changeByKind_66 (by decide) ?_
  refine x_icmp_eq (tgt := 76) dX1_changeByKind_67 (by decide) ?_ ?_
  · exact x_le (v_X1_changeByKind_76 hC l1 l2 S) (And.intro rfl (And.intro rfl (And.intro rfl trivial)))
  · refine x_iload_n dX1_changeByKind_70 rfl rfl ?_
    refine x_bipush (6 : Int32) dX1_changeByKind_71 (by decide) ?_
    refine x_icmp_ne (tgt := 86) dX1_changeByKind_73 (by decide) ?_ ?_
    · exact x_le (v_X1_changeByKind_86 hC l1 l2 S) (And.intro rfl (And.intro rfl (And.intro rfl trivial)))
    · exact x_le (v_X1_changeByKind_76 hC l1 l2 S) (And.intro rfl (And.intro rfl (And.intro rfl trivial)))
def f_X1_changeByKind_46  (l1 : Int32) (l2 : Int32) (S : aSt) : Option (Unit × aSt) := (if l1 = (5 : Int32) then (aLt (aUi S (29) 2 (if (0 : Int32) < ((S.1 (29) 2) - l2) then ((S.1 (29) 2) - l2) else (0 : Int32))) (fun S3 => (f_X1_changeByKind_65 l1 l2 S3))) else (f_X1_changeByKind_65 l1 l2 S))
set_option maxRecDepth 20000 in
set_option maxHeartbeats 4000000 in
theorem v_X1_changeByKind_46 {G : aG} (hC : aCo G) (l1 : Int32) (l2 : Int32) (S : aSt) : aX G yX1_changeByKind cX1_changeByKind 3 none uX1_changeByKind 2 mk_v (f_X1_changeByKind_46 l1 l2 S) 46 [some (.ref (29)), some (.int l1), some (.int l2)] [] S := by
  unfold f_X1_changeByKind_46
  refine x_iload_n dX1_changeByKind_46 rfl rfl ?_
  refine x_iconst (5 : Int32) dX1_changeByKind_47 (by decide) ?_
  refine x_icmp_ne (tgt := 65) dX1_changeByKind_48 (by decide) ?_ ?_
  · exact x_le (v_X1_changeByKind_65 hC l1 l2 S) (And.intro rfl (And.intro rfl (And.intro rfl trivial)))
  · refine x_aload_n dX1_changeByKind_51 rfl rfl ?_
    refine x_iconst (0 : Int32) dX1_changeByKind_52 (by decide) ?_
    refine x_aload_n dX1_changeByKind_53 rfl rfl ?_
    refine x_getI (k := 29) (j := 2) dX1_changeByKind_54 hC rfl rfl (Nat.le_of_ble_eq_true rfl) (fun w h => List.mem_cons_of_mem _ (inlX1 w h)) w_X1_changeByKind_f88 ?_
    refine x_iload_n dX1_changeByKind_57 rfl rfl ?_
    refine x_isub dX1_changeByKind_58 ?_
    refine x_max dX1_changeByKind_59 w_X1_changeByKind_m52 w_X1_changeByKind_ms_max w_X1_changeByKind_mi w_X1_changeByKind_mc_max (Nat.le_of_ble_eq_true rfl) (Nat.le_of_ble_eq_true rfl) ?_
    refine x_putI (k := 29) (j := 2) dX1_changeByKind_62 hC rfl rfl (Nat.le_of_ble_eq_true rfl) (fun w h => List.mem_cons_of_mem _ (inlX1 w h)) w_X1_changeByKind_f88 tyX1 tyX1_ok nmX1 rfl (by decide +kernel) ?_
    refine x_ltS (fun S3 => ?_)
    exact x_le (v_X1_changeByKind_65 hC l1 l2 S3) (And.intro rfl (And.intro rfl (And.intro rfl trivial)))
def f_X1_changeByKind_36  (l1 : Int32) (l2 : Int32) (S : aSt) : Option (Unit × aSt) := (aLt (aUi S (29) 1 ((S.1 (29) 1) + l2)) (fun S2 => (f_X1_changeByKind_46 l1 l2 S2)))
set_option maxRecDepth 20000 in
set_option maxHeartbeats 4000000 in
theorem v_X1_changeByKind_36 {G : aG} (hC : aCo G) (l1 : Int32) (l2 : Int32) (S : aSt) : aX G yX1_changeByKind cX1_changeByKind 3 none uX1_changeByKind 2 mk_v (f_X1_changeByKind_36 l1 l2 S) 36 [some (.ref (29)), some (.int l1), some (.int l2)] [] S := by
  unfold f_X1_changeByKind_36
  refine x_aload_n dX1_changeByKind_36 rfl rfl ?_
  refine x_dup dX1_changeByKind_37 rfl ?_
  refine x_getI (k := 29) (j := 1) dX1_changeByKind_38 hC rfl rfl (Nat.le_of_ble_eq_true rfl) (fun w h => List.mem_cons_of_mem _ (inlX1 w h)) w_X1_changeByKind_f82 ?_
  refine x_iload_n dX1_changeByKind_41 rfl rfl ?_
  refine x_iadd dX1_changeByKind_42 ?_
  refine x_putI (k := 29) (j := 1) dX1_changeByKind_43 hC rfl rfl (Nat.le_of_ble_eq_true rfl) (fun w h => List.mem_cons_of_mem _ (inlX1 w h)) w_X1_changeByKind_f82 tyX1 tyX1_ok nmX1 rfl (by decide +kernel) ?_
  refine x_ltS (fun S2 => ?_)
  exact x_le (v_X1_changeByKind_46 hC l1 l2 S2) (And.intro rfl (And.intro rfl (And.intro rfl trivial)))
def f_X1_changeByKind_26  (l1 : Int32) (l2 : Int32) (S : aSt) : Option (Unit × aSt) := (if l1 = (2 : Int32) then (f_X1_changeByKind_36 l1 l2 S) else (if l1 = (5 : Int32) then (f_X1_changeByKind_36 l1 l2 S) else (f_X1_changeByKind_46 l1 l2 S)))
set_option maxRecDepth 20000 in
set_option maxHeartbeats 4000000 in
theorem v_X1_changeByKind_26 {G : aG} (hC : aCo G) (l1 : Int32) (l2 : Int32) (S : aSt) : aX G yX1_changeByKind cX1_changeByKind 3 none uX1_changeByKind 2 mk_v (f_X1_changeByKind_26 l1 l2 S) 26 [some (.ref (29)), some (.int l1), some (.int l2)] [] S := by
  unfold f_X1_changeByKind_26
  refine x_iload_n dX1_changeByKind_26 rfl rfl ?_
  refine x_iconst (2 : Int32) dX1_changeByKind_27 (by decide) ?_
  refine x_icmp_eq (tgt := 36) dX1_changeByKind_28 (by decide) ?_ ?_
  · exact x_le (v_X1_changeByKind_36 hC l1 l2 S) (And.intro rfl (And.intro rfl (And.intro rfl trivial)))
  · refine x_iload_n dX1_changeByKind_31 rfl rfl ?_
    refine x_iconst (5 : Int32) dX1_changeByKind_32 (by decide) ?_
    refine x_icmp_ne (tgt := 46) dX1_changeByKind_33 (by decide) ?_ ?_
    · exact x_le (v_X1_changeByKind_46 hC l1 l2 S) (And.intro rfl (And.intro rfl (And.intro rfl trivial)))
    · exact x_le (v_X1_changeByKind_36 hC l1 l2 S) (And.intro rfl (And.intro rfl (And.intro rfl trivial)))
def f_X1_changeByKind_10  (l1 : Int32) (l2 : Int32) (S : aSt) : Option (Unit × aSt) := (if l2 < (if 0 ≤ (S.1 (29) 1) then (S.1 (29) 1) else 0 - (S.1 (29) 1)) then (f_X1_changeByKind_26 l1 l2 S) else (aLt (aUi S (29) 1 (0 : Int32)) (fun S1 => (f_X1_changeByKind_26 l1 l2 S1))))
set_option maxRecDepth 20000 in
set_option maxHeartbeats 4000000 in
theorem v_X1_changeByKind_10 {G : aG} (hC : aCo G) (l1 : Int32) (l2 : Int32) (S : aSt) : aX G yX1_changeByKind cX1_changeByKind 3 none uX1_changeByKind 2 mk_v (f_X1_changeByKind_10 l1 l2 S) 10 [some (.ref (29)), some (.int l1), some (.int l2)] [] S := by
  unfold f_X1_changeByKind_10
  refine x_aload_n dX1_changeByKind_10 rfl rfl ?_
  refine x_getI (k := 29) (j := 1) dX1_changeByKind_11 hC rfl rfl (Nat.le_of_ble_eq_true rfl) (fun w h => List.mem_cons_of_mem _ (inlX1 w h)) w_X1_changeByKind_f82 ?_
  refine x_abs dX1_changeByKind_14 w_X1_changeByKind_m117 w_X1_changeByKind_ms_abs w_X1_changeByKind_mi w_X1_changeByKind_mc_abs (Nat.le_of_ble_eq_true rfl) (Nat.le_of_ble_eq_true rfl) ?_
  refine x_iload_n dX1_changeByKind_17 rfl rfl ?_
  refine x_icmp_gt (tgt := 26) dX1_changeByKind_18 (by decide) ?_ ?_
  · exact x_le (v_X1_changeByKind_26 hC l1 l2 S) (And.intro rfl (And.intro rfl (And.intro rfl trivial)))
  · refine x_aload_n dX1_changeByKind_21 rfl rfl ?_
    refine x_iconst (0 : Int32) dX1_changeByKind_22 (by decide) ?_
    refine x_putI (k := 29) (j := 1) dX1_changeByKind_23 hC rfl rfl (Nat.le_of_ble_eq_true rfl) (fun w h => List.mem_cons_of_mem _ (inlX1 w h)) w_X1_changeByKind_f82 tyX1 tyX1_ok nmX1 rfl (by decide +kernel) ?_
    refine x_ltS (fun S1 => ?_)
    exact x_le (v_X1_changeByKind_26 hC l1 l2 S1) (And.intro rfl (And.intro rfl (And.intro rfl trivial)))
def f_X1_changeByKind (p1 : Int32) (p2 : Int32) (S : aSt) : Option (Unit × aSt) := (if p1 = (1 : Int32) then (f_X1_changeByKind_10 p1 p2 S) else (if p1 = (4 : Int32) then (f_X1_changeByKind_10 p1 p2 S) else (f_X1_changeByKind_26 p1 p2 S)))
set_option maxRecDepth 20000 in
set_option maxHeartbeats 4000000 in
theorem m_X1_changeByKind {G : aG} (hC : aCo G) (p1 : Int32) (p2 : Int32) (S : aSt) : aMet G yX1_changeByKind uX1_changeByKind 2 mk_v (f_X1_changeByKind p1 p2 S) [.ref (29), .int p1, .int p2] S := by
  refine x_met (cc := cX1_changeByKind) (nL := 3) (ret := none) (L := [some (.ref (29)), some (.int p1), some (.int p2)]) (by decide +kernel) rfl (And.intro rfl (And.intro rfl (And.intro rfl trivial))) (Nat.le_of_ble_eq_true rfl) ?_
  unfold f_X1_changeByKind
  refine x_iload_n dX1_changeByKind_0 rfl rfl ?_
  refine x_iconst (1 : Int32) dX1_changeByKind_1 (by decide) ?_
  refine x_icmp_eq (tgt := 10) dX1_changeByKind_2 (by decide) ?_ ?_
  · exact x_le (v_X1_changeByKind_10 hC p1 p2 S) (And.intro rfl (And.intro rfl (And.intro rfl trivial)))
  · refine x_iload_n dX1_changeByKind_5 rfl rfl ?_
    refine x_iconst (4 : Int32) dX1_changeByKind_6 (by decide) ?_
    refine x_icmp_ne (tgt := 26) dX1_changeByKind_7 (by decide) ?_ ?_
    · exact x_le (v_X1_changeByKind_26 hC p1 p2 S) (And.intro rfl (And.intro rfl (And.intro rfl trivial)))
    · exact x_le (v_X1_changeByKind_10 hC p1 p2 S) (And.intro rfl (And.intro rfl (And.intro rfl trivial)))
theorem w_X1_howItGoes_f82 : Cond.fieldLink yX1_howItGoes.cls 82 (TX1 1).1 (TX1 1).2.1 (TX1 1).2.2.1 ∈ uX1_howItGoes := List.mem_cons_of_mem _ (wU_r22 _ (List.mem_of_getElem? (i := 15) rfl))
theorem w_X1_howItGoes_m117 : Cond.methodLink yX1_howItGoes.cls 117 Lib.Math.abs.name ∈ uX1_howItGoes := List.mem_cons_of_mem _ (wU_r23 _ (List.mem_of_getElem? (i := 11) rfl))
theorem w_X1_howItGoes_ms_abs : Cond.static Lib.Math.abs.name ∈ uX1_howItGoes := List.mem_cons_of_mem _ (wU_r23 _ (List.mem_of_getElem? (i := 12) rfl))
theorem w_X1_howItGoes_mi : Cond.initialized "java/lang/Math" ∈ uX1_howItGoes := List.mem_cons_of_mem _ (wU_r10 _ (List.mem_of_getElem? (i := 23) rfl))
theorem w_X1_howItGoes_mc_abs : Cond.code Lib.Math.abs.name Lib.Math.abs.code 1 (some .int) ∈ uX1_howItGoes := List.mem_cons_of_mem _ (wU_r23 _ (List.mem_of_getElem? (i := 13) rfl))
theorem w_X1_howItGoes_f76 : Cond.fieldLink yX1_howItGoes.cls 76 (TX1 0).1 (TX1 0).2.1 (TX1 0).2.2.1 ∈ uX1_howItGoes := List.mem_cons_of_mem _ (wU_r22 _ (List.mem_of_getElem? (i := 14) rfl))
theorem w_X1_howItGoes_f91 : Cond.fieldLink yX1_howItGoes.cls 91 (TX1 3).1 (TX1 3).2.1 (TX1 3).2.2.1 ∈ uX1_howItGoes := List.mem_cons_of_mem _ (wU_r22 _ (List.mem_of_getElem? (i := 18) rfl))
theorem w_X1_howItGoes_f88 : Cond.fieldLink yX1_howItGoes.cls 88 (TX1 2).1 (TX1 2).2.1 (TX1 2).2.2.1 ∈ uX1_howItGoes := List.mem_cons_of_mem _ (wU_r22 _ (List.mem_of_getElem? (i := 17) rfl))
def f_X1_howItGoes  (S : aSt) : Option (Int32 × aSt) := (aLt (if 0 ≤ (S.1 (29) 1) then (S.1 (29) 1) else 0 - (S.1 (29) 1)) (fun x1 => (if 0 ≤ (S.1 (29) 0) then (if (S.1 (29) 0) ≤ (S.1 (29) 3) then (if x1 ≤ (S.1 (29) 2) then (if ((2 : Int32) * x1) ≤ (S.1 (29) 2) then (some ((0 : Int32), S)) else (some ((1 : Int32), S))) else (some ((3 : Int32), S))) else (some ((4 : Int32), S))) else (some ((2 : Int32), S)))))
set_option maxRecDepth 20000 in
set_option maxHeartbeats 4000000 in
theorem m_X1_howItGoes {G : aG} (hC : aCo G)  (S : aSt) : aMet G yX1_howItGoes uX1_howItGoes 2 mk_i (f_X1_howItGoes S) [.ref (29)] S := by
  refine x_met (cc := cX1_howItGoes) (nL := 2) (ret := (some .int)) (L := [some (.ref (29)), none]) (by decide +kernel) rfl (And.intro rfl trivial) (Nat.le_of_ble_eq_true rfl) ?_
  unfold f_X1_howItGoes
  refine x_aload_n dX1_howItGoes_0 rfl rfl ?_
  refine x_getI (k := 29) (j := 1) dX1_howItGoes_1 hC rfl rfl (Nat.le_of_ble_eq_true rfl) (fun w h => List.mem_cons_of_mem _ (inlX1 w h)) w_X1_howItGoes_f82 ?_
  refine x_abs dX1_howItGoes_4 w_X1_howItGoes_m117 w_X1_howItGoes_ms_abs w_X1_howItGoes_mi w_X1_howItGoes_mc_abs (Nat.le_of_ble_eq_true rfl) (Nat.le_of_ble_eq_true rfl) ?_
  refine x_lti (fun x1 => ?_)
  refine x_istore_n dX1_howItGoes_7 rfl (Nat.le_of_ble_eq_true rfl) rfl ?_
  refine x_aload_n dX1_howItGoes_8 rfl rfl ?_
  refine x_getI (k := 29) (j := 0) dX1_howItGoes_9 hC rfl rfl (Nat.le_of_ble_eq_true rfl) (fun w h => List.mem_cons_of_mem _ (inlX1 w h)) w_X1_howItGoes_f76 ?_
  refine x_if_ge (tgt := 17) dX1_howItGoes_12 (by decide) ?_ ?_
  · refine x_aload_n dX1_howItGoes_17 rfl rfl ?_
    refine x_getI (k := 29) (j := 0) dX1_howItGoes_18 hC rfl rfl (Nat.le_of_ble_eq_true rfl) (fun w h => List.mem_cons_of_mem _ (inlX1 w h)) w_X1_howItGoes_f76 ?_
    refine x_aload_n dX1_howItGoes_21 rfl rfl ?_
    refine x_getI (k := 29) (j := 3) dX1_howItGoes_22 hC rfl rfl (Nat.le_of_ble_eq_true rfl) (fun w h => List.mem_cons_of_mem _ (inlX1 w h)) w_X1_howItGoes_f91 ?_
    refine x_icmp_le (tgt := 30) dX1_howItGoes_25 (by decide) ?_ ?_
    · refine x_iload_n dX1_howItGoes_30 rfl rfl ?_
      refine x_aload_n dX1_howItGoes_31 rfl rfl ?_
      refine x_getI (k := 29) (j := 2) dX1_howItGoes_32 hC rfl rfl (Nat.le_of_ble_eq_true rfl) (fun w h => List.mem_cons_of_mem _ (inlX1 w h)) w_X1_howItGoes_f88 ?_
      refine x_icmp_le (tgt := 40) dX1_howItGoes_35 (by decide) ?_ ?_
      · refine x_iconst (2 : Int32) dX1_howItGoes_40 (by decide) ?_
        refine x_iload_n dX1_howItGoes_41 rfl rfl ?_
        refine x_imul dX1_howItGoes_42 ?_
        refine x_aload_n dX1_howItGoes_43 rfl rfl ?_
        refine x_getI (k := 29) (j := 2) dX1_howItGoes_44 hC rfl rfl (Nat.le_of_ble_eq_true rfl) (fun w h => List.mem_cons_of_mem _ (inlX1 w h)) w_X1_howItGoes_f88 ?_
        refine x_icmp_le (tgt := 54) dX1_howItGoes_47 (by decide) ?_ ?_
        · refine x_iconst (0 : Int32) dX1_howItGoes_54 (by decide) ?_
          exact x_iret dX1_howItGoes_55 rfl
        · refine x_iconst (1 : Int32) dX1_howItGoes_50 (by decide) ?_
          refine x_goto (tgt := 55) dX1_howItGoes_51 (by decide) ?_
          exact x_iret dX1_howItGoes_55 rfl
      · refine x_iconst (3 : Int32) dX1_howItGoes_38 (by decide) ?_
        exact x_iret dX1_howItGoes_39 rfl
    · refine x_iconst (4 : Int32) dX1_howItGoes_28 (by decide) ?_
      exact x_iret dX1_howItGoes_29 rfl
  · refine x_iconst (2 : Int32) dX1_howItGoes_15 (by decide) ?_
    exact x_iret dX1_howItGoes_16 rfl
theorem w_X1_wayItGoes_f82 : Cond.fieldLink yX1_wayItGoes.cls 82 (TX1 1).1 (TX1 1).2.1 (TX1 1).2.2.1 ∈ uX1_wayItGoes := List.mem_cons_of_mem _ (wU_r22 _ (List.mem_of_getElem? (i := 15) rfl))
theorem w_X1_wayItGoes_f107 : Cond.fieldLink yX1_wayItGoes.cls 107 (TX1 4).1 (TX1 4).2.1 (TX1 4).2.2.1 ∈ uX1_wayItGoes := List.mem_cons_of_mem _ (wU_r22 _ (List.mem_of_getElem? (i := 21) rfl))
def f_X1_wayItGoes_12  (l1 : Int32) (s0 : Int32) (S : aSt) : Option (Int32 × aSt) := (if (S.1 (29) 4) = (1 : Int32) then (some (((l1 + s0) &&& (7 : Int32)), S)) else (if (S.1 (29) 4) = (2 : Int32) then (some ((-5 : Int32), S)) else (if (S.1 (29) 4) = (3 : Int32) then (some (((l1 + ((2 : Int32) * s0)) &&& (7 : Int32)), S)) else (some (l1, S)))))
set_option maxRecDepth 20000 in
set_option maxHeartbeats 4000000 in
theorem v_X1_wayItGoes_12 {G : aG} (hC : aCo G) (l1 : Int32) (s0 : Int32) (S : aSt) : aX G yX1_wayItGoes cX1_wayItGoes 3 (some .int) uX1_wayItGoes 2 mk_i (f_X1_wayItGoes_12 l1 s0 S) 12 [some (.ref (29)), some (.int l1), none] [.int s0] S := by
  unfold f_X1_wayItGoes_12
  refine x_istore_n dX1_wayItGoes_12 rfl (Nat.le_of_ble_eq_true rfl) rfl ?_
  refine x_aload_n dX1_wayItGoes_13 rfl rfl ?_
  refine x_getI (k := 29) (j := 4) dX1_wayItGoes_14 hC rfl rfl (Nat.le_of_ble_eq_true rfl) (fun w h => List.mem_cons_of_mem _ (inlX1 w h)) w_X1_wayItGoes_f107 ?_
  refine x_sw (1 : Int32) ?_ (fun hv0 => ?_)
  · refine x_tabIn (off := 30) (tgt := 47) dX1_wayItGoes_17 (by decide) (by decide) (by decide) (by decide) ?_
    refine x_iload_n dX1_wayItGoes_47 rfl rfl ?_
    refine x_iload_n dX1_wayItGoes_48 rfl rfl ?_
    refine x_iadd dX1_wayItGoes_49 ?_
    refine x_bipush (7 : Int32) dX1_wayItGoes_50 (by decide) ?_
    refine x_iand dX1_wayItGoes_52 ?_
    exact x_iret dX1_wayItGoes_53 rfl
  · refine x_sw (2 : Int32) ?_ (fun hv1 => ?_)
    · refine x_tabIn (off := 27) (tgt := 44) dX1_wayItGoes_17 (by decide) (by decide) (by decide) (by decide) ?_
      refine x_bipush (-5 : Int32) dX1_wayItGoes_44 (by decide) ?_
      exact x_iret dX1_wayItGoes_46 rfl
    · refine x_sw (3 : Int32) ?_ (fun hv2 => ?_)
      · refine x_tabIn (off := 37) (tgt := 54) dX1_wayItGoes_17 (by decide) (by decide) (by decide) (by decide) ?_
        refine x_iload_n dX1_wayItGoes_54 rfl rfl ?_
        refine x_iconst (2 : Int32) dX1_wayItGoes_55 (by decide) ?_
        refine x_iload_n dX1_wayItGoes_56 rfl rfl ?_
        refine x_imul dX1_wayItGoes_57 ?_
        refine x_iadd dX1_wayItGoes_58 ?_
        refine x_bipush (7 : Int32) dX1_wayItGoes_59 (by decide) ?_
        refine x_iand dX1_wayItGoes_61 ?_
        exact x_iret dX1_wayItGoes_62 rfl
      · refine x_tabOut (tgt := 63) dX1_wayItGoes_17 (a_out 3 [(1 : Int32), (2 : Int32), (3 : Int32)] (by decide) (by decide +kernel) (List.forall_mem_cons.mpr ⟨hv0, (List.forall_mem_cons.mpr ⟨hv1, (List.forall_mem_cons.mpr ⟨hv2, (fun _ h => absurd h List.not_mem_nil)⟩)⟩)⟩)) (by decide) ?_
        refine x_iload_n dX1_wayItGoes_63 rfl rfl ?_
        exact x_iret dX1_wayItGoes_64 rfl
def f_X1_wayItGoes (p1 : Int32) (S : aSt) : Option (Int32 × aSt) := (if (S.1 (29) 1) ≤ 0 then (f_X1_wayItGoes_12 p1 (-1 : Int32) S) else (f_X1_wayItGoes_12 p1 (1 : Int32) S))
set_option maxRecDepth 20000 in
set_option maxHeartbeats 4000000 in
theorem m_X1_wayItGoes {G : aG} (hC : aCo G) (p1 : Int32) (S : aSt) : aMet G yX1_wayItGoes uX1_wayItGoes 2 mk_i (f_X1_wayItGoes p1 S) [.ref (29), .int p1] S := by
  refine x_met (cc := cX1_wayItGoes) (nL := 3) (ret := (some .int)) (L := [some (.ref (29)), some (.int p1), none]) (by decide +kernel) rfl (And.intro rfl (And.intro rfl trivial)) (Nat.le_of_ble_eq_true rfl) ?_
  unfold f_X1_wayItGoes
  refine x_aload_n dX1_wayItGoes_0 rfl rfl ?_
  refine x_getI (k := 29) (j := 1) dX1_wayItGoes_1 hC rfl rfl (Nat.le_of_ble_eq_true rfl) (fun w h => List.mem_cons_of_mem _ (inlX1 w h)) w_X1_wayItGoes_f82 ?_
  refine x_if_le (tgt := 11) dX1_wayItGoes_4 (by decide) ?_ ?_
  · refine x_iconst (-1 : Int32) dX1_wayItGoes_11 (by decide) ?_
    exact x_le (v_X1_wayItGoes_12 hC p1 (-1 : Int32) S) (And.intro rfl (And.intro rfl trivial))
  · refine x_iconst (1 : Int32) dX1_wayItGoes_7 (by decide) ?_
    refine x_goto (tgt := 12) dX1_wayItGoes_8 (by decide) ?_
    exact x_le (v_X1_wayItGoes_12 hC p1 (1 : Int32) S) (And.intro rfl (And.intro rfl trivial))
theorem dd_X5_total : yX5_total.cls = RX5 ∧ yX5_total.cls ≠ "java/lang/invoke/MethodHandle" ∧ yX5_total.cls ≠ "java/lang/invoke/VarHandle" ∧ (parseMethodDescriptor yX5_total.desc).map (fun d => d.parameters.length) = some 3 := by decide +kernel
theorem w_X1_weigh_f36 : Cond.fieldLink yX1_weigh.cls 36 (TX4 9).1 (TX4 9).2.1 (TX4 9).2.2.1 ∈ uX1_weigh := List.mem_cons_of_mem _ (wU_r21 _ (List.mem_of_getElem? (i := 7) rfl))
theorem g_X1_weigh_44 : GoodIn uX1_weigh (wsV yX1_weigh.cls 44 RX5 yX5_total uX5_total) := gU_V (wU_r21 _ (List.mem_of_getElem? (i := 11) rfl)) (wU_r21 _ (List.mem_of_getElem? (i := 12) rfl)) (wU_r21 _ (List.mem_of_getElem? (i := 13) rfl)) (wU_r2 _ (List.mem_of_getElem? (i := 20) rfl)) (wU_r21 _ (List.mem_of_getElem? (i := 14) rfl))
theorem w_X1_weigh_f48 : Cond.fieldLink yX1_weigh.cls 48 (TX1 8).1 (TX1 8).2.1 (TX1 8).2.2.1 ∈ uX1_weigh := List.mem_cons_of_mem _ (wU_r21 _ (List.mem_of_getElem? (i := 8) rfl))
theorem w_X1_weigh_m52 : Cond.methodLink yX1_weigh.cls 52 Lib.Math.max.name ∈ uX1_weigh := List.mem_cons_of_mem _ (wU_r21 _ (List.mem_of_getElem? (i := 9) rfl))
theorem w_X1_weigh_ms_max : Cond.static Lib.Math.max.name ∈ uX1_weigh := List.mem_cons_of_mem _ (wU_r10 _ (List.mem_of_getElem? (i := 22) rfl))
theorem w_X1_weigh_mi : Cond.initialized "java/lang/Math" ∈ uX1_weigh := List.mem_cons_of_mem _ (wU_r10 _ (List.mem_of_getElem? (i := 23) rfl))
theorem w_X1_weigh_mc_max : Cond.code Lib.Math.max.name Lib.Math.max.code 2 (some .int) ∈ uX1_weigh := List.mem_cons_of_mem _ (wU_r11 _ (List.mem_of_getElem? (i := 0) rfl))
theorem w_X1_weigh_f58 : Cond.fieldLink yX1_weigh.cls 58 (TX1 9).1 (TX1 9).2.1 (TX1 9).2.2.1 ∈ uX1_weigh := List.mem_cons_of_mem _ (wU_r21 _ (List.mem_of_getElem? (i := 10) rfl))
def f_X1_weigh (p1 : Nat) (p2 : Nat) (S : aSt) : Option (Unit × aSt) := (aLt (S.1 (p2 + 1) 0) (fun x1 => (aB (f_X5_total (p1) (0 : Int32) (p2) x1 S) (fun r2_ S2 => (aLt (aUi S2 (29) 8 ((1 : Int32) + r2_)) (fun S3 => (aB (f_X5_total (p1) (1 : Int32) (p2) x1 S3) (fun r4_ S4 => (aLt (aUi S4 (29) 9 (if (0 : Int32) < ((40 : Int32) - r4_) then ((40 : Int32) - r4_) else (0 : Int32))) (fun S5 => (some ((), S5))))))))))))
set_option maxRecDepth 20000 in
set_option maxHeartbeats 4000000 in
theorem m_X1_weigh {G : aG} (hC : aCo G) (p1 : Nat) (q1 : aWd G p1) (p2 : Nat) (q2 : aTr G p2) (S : aSt) : aMet G yX1_weigh uX1_weigh 5 mk_v (f_X1_weigh p1 p2 S) [.ref (29), .ref (p1), .ref (p2)] S := by
  refine x_met (cc := cX1_weigh) (nL := 4) (ret := none) (L := [some (.ref (29)), some (.ref (p1)), some (.ref (p2)), none]) (by decide +kernel) rfl (And.intro rfl (And.intro rfl (And.intro rfl trivial))) (Nat.le_of_ble_eq_true rfl) ?_
  unfold f_X1_weigh
  refine x_aload_n dX1_weigh_0 rfl rfl ?_
  refine x_getR (r := p2 + 1) (k := p2) (j := 9) dX1_weigh_1 q2.1 rfl rfl (Nat.le_of_ble_eq_true rfl) (fun w h => List.mem_cons_of_mem _ (inlX4 w h)) w_X1_weigh_f36 ?_
  refine x_iconst (0 : Int32) dX1_weigh_4 (by decide) ?_
  refine x_ialdc (j := 0) dX1_weigh_5 q2.2 (by unfold vp_in; decide) (by decide) ?_
  refine x_lti (fun x1 => ?_)
  refine x_istore_n dX1_weigh_6 rfl (Nat.le_of_ble_eq_true rfl) rfl ?_
  refine x_aload_n dX1_weigh_7 rfl rfl ?_
  refine x_iconst (1 : Int32) dX1_weigh_8 (by decide) ?_
  refine x_aload_n dX1_weigh_9 rfl rfl ?_
  refine x_iconst (0 : Int32) dX1_weigh_10 (by decide) ?_
  refine x_aload_n dX1_weigh_11 rfl rfl ?_
  refine x_iload_n dX1_weigh_12 rfl rfl ?_
  refine x_b (fun r2_ S2 e2 => ?_)
  refine x_callVi (As := [.int (0 : Int32), .ref (p2), .int x1]) dX1_weigh_13 (aMet_of e2 (m_X5_total (p1) q1 (0 : Int32) (p2) q2 x1 S)) g_X1_weigh_44 rfl q1.1 rfl dd_X5_total rfl rfl (Nat.le_of_ble_eq_true rfl) (Nat.le_of_ble_eq_true rfl) (Nat.le_of_ble_eq_true rfl) ?_
  refine x_iadd dX1_weigh_16 ?_
  refine x_putI (k := 29) (j := 8) dX1_weigh_17 hC rfl rfl (Nat.le_of_ble_eq_true rfl) (fun w h => List.mem_cons_of_mem _ (inlX1 w h)) w_X1_weigh_f48 tyX1 tyX1_ok nmX1 rfl (by decide +kernel) ?_
  refine x_ltS (fun S3 => ?_)
  refine x_aload_n dX1_weigh_20 rfl rfl ?_
  refine x_iconst (0 : Int32) dX1_weigh_21 (by decide) ?_
  refine x_bipush (40 : Int32) dX1_weigh_22 (by decide) ?_
  refine x_aload_n dX1_weigh_24 rfl rfl ?_
  refine x_iconst (1 : Int32) dX1_weigh_25 (by decide) ?_
  refine x_aload_n dX1_weigh_26 rfl rfl ?_
  refine x_iload_n dX1_weigh_27 rfl rfl ?_
  refine x_b (fun r4_ S4 e4 => ?_)
  refine x_callVi (As := [.int (1 : Int32), .ref (p2), .int x1]) dX1_weigh_28 (aMet_of e4 (m_X5_total (p1) q1 (1 : Int32) (p2) q2 x1 S3)) g_X1_weigh_44 rfl q1.1 rfl dd_X5_total rfl rfl (Nat.le_of_ble_eq_true rfl) (Nat.le_of_ble_eq_true rfl) (Nat.le_of_ble_eq_true rfl) ?_
  refine x_isub dX1_weigh_31 ?_
  refine x_max dX1_weigh_32 w_X1_weigh_m52 w_X1_weigh_ms_max w_X1_weigh_mi w_X1_weigh_mc_max (Nat.le_of_ble_eq_true rfl) (Nat.le_of_ble_eq_true rfl) ?_
  refine x_putI (k := 29) (j := 9) dX1_weigh_35 hC rfl rfl (Nat.le_of_ble_eq_true rfl) (fun w h => List.mem_cons_of_mem _ (inlX1 w h)) w_X1_weigh_f58 tyX1 tyX1_ok nmX1 rfl (by decide +kernel) ?_
  refine x_ltS (fun S5 => ?_)
  exact x_vret dX1_weigh_38 rfl
theorem dd_X6_alongOf : yX6_alongOf.cls ≠ "java/lang/invoke/MethodHandle" ∧ yX6_alongOf.cls ≠ "java/lang/invoke/VarHandle" ∧ (parseMethodDescriptor yX6_alongOf.desc).map (fun d => d.parameters.length) = some 2 := by decide +kernel
theorem dd_X6_sideOf : yX6_sideOf.cls ≠ "java/lang/invoke/MethodHandle" ∧ yX6_sideOf.cls ≠ "java/lang/invoke/VarHandle" ∧ (parseMethodDescriptor yX6_sideOf.desc).map (fun d => d.parameters.length) = some 2 := by decide +kernel
theorem dd_X1_changeByKind : yX1_changeByKind.cls = RX1 ∧ yX1_changeByKind.cls ≠ "java/lang/invoke/MethodHandle" ∧ yX1_changeByKind.cls ≠ "java/lang/invoke/VarHandle" ∧ (parseMethodDescriptor yX1_changeByKind.desc).map (fun d => d.parameters.length) = some 2 := by decide +kernel
theorem dd_X1_howItGoes : yX1_howItGoes.cls = RX1 ∧ yX1_howItGoes.cls ≠ "java/lang/invoke/MethodHandle" ∧ yX1_howItGoes.cls ≠ "java/lang/invoke/VarHandle" ∧ (parseMethodDescriptor yX1_howItGoes.desc).map (fun d => d.parameters.length) = some 0 := by decide +kernel
theorem dd_X1_wayItGoes : yX1_wayItGoes.cls = RX1 ∧ yX1_wayItGoes.cls ≠ "java/lang/invoke/MethodHandle" ∧ yX1_wayItGoes.cls ≠ "java/lang/invoke/VarHandle" ∧ (parseMethodDescriptor yX1_wayItGoes.desc).map (fun d => d.parameters.length) = some 1 := by decide +kernel
theorem w_X1_push_f36 : Cond.fieldLink yX1_push.cls 36 (TX4 9).1 (TX4 9).2.1 (TX4 9).2.2.1 ∈ uX1_push := List.mem_cons_of_mem _ (wU_r21 _ (List.mem_of_getElem? (i := 7) rfl))
theorem w_X1_push_f61 : Cond.fieldLink yX1_push.cls 61 (TX5 3).1 (TX5 3).2.1 (TX5 3).2.2.1 ∈ uX1_push := List.mem_cons_of_mem _ (wU_r22 _ (List.mem_of_getElem? (i := 10) rfl))
theorem w_X1_push_f64 : Cond.fieldLink yX1_push.cls 64 (TX4 5).1 (TX4 5).2.1 (TX4 5).2.2.1 ∈ uX1_push := List.mem_cons_of_mem _ (wU_r22 _ (List.mem_of_getElem? (i := 11) rfl))
theorem w_X1_push_f67 : Cond.fieldLink yX1_push.cls 67 (TX4 6).1 (TX4 6).2.1 (TX4 6).2.2.1 ∈ uX1_push := List.mem_cons_of_mem _ (wU_r22 _ (List.mem_of_getElem? (i := 12) rfl))
theorem g_X1_push_70 : GoodIn uX1_push uX6_alongOf := gU_N (wU_r23 _ (List.mem_of_getElem? (i := 0) rfl))
theorem w_X1_push_st_X6_alongOf : Cond.static yX6_alongOf ∈ uX1_push := List.mem_cons_of_mem _ (wU_r22 _ (List.mem_of_getElem? (i := 23) rfl))
theorem w_X1_push_in_X6_alongOf : Cond.initialized yX6_alongOf.cls ∈ uX1_push := List.mem_cons_of_mem _ (wU_r1 _ (List.mem_of_getElem? (i := 2) rfl))
theorem w_X1_push_f73 : Cond.fieldLink yX1_push.cls 73 (TX5 2).1 (TX5 2).2.1 (TX5 2).2.2.1 ∈ uX1_push := List.mem_cons_of_mem _ (wU_r22 _ (List.mem_of_getElem? (i := 13) rfl))
theorem w_X1_push_f76 : Cond.fieldLink yX1_push.cls 76 (TX1 0).1 (TX1 0).2.1 (TX1 0).2.2.1 ∈ uX1_push := List.mem_cons_of_mem _ (wU_r22 _ (List.mem_of_getElem? (i := 14) rfl))
theorem g_X1_push_79 : GoodIn uX1_push uX6_sideOf := gU_N (wU_r23 _ (List.mem_of_getElem? (i := 6) rfl))
theorem w_X1_push_st_X6_sideOf : Cond.static yX6_sideOf ∈ uX1_push := List.mem_cons_of_mem _ (wU_r23 _ (List.mem_of_getElem? (i := 5) rfl))
theorem w_X1_push_in_X6_sideOf : Cond.initialized yX6_sideOf.cls ∈ uX1_push := List.mem_cons_of_mem _ (wU_r1 _ (List.mem_of_getElem? (i := 2) rfl))
theorem w_X1_push_f82 : Cond.fieldLink yX1_push.cls 82 (TX1 1).1 (TX1 1).2.1 (TX1 1).2.2.1 ∈ uX1_push := List.mem_cons_of_mem _ (wU_r22 _ (List.mem_of_getElem? (i := 15) rfl))
theorem g_X1_push_44 : GoodIn uX1_push (wsV yX1_push.cls 44 RX5 yX5_total uX5_total) := gU_V (wU_r21 _ (List.mem_of_getElem? (i := 11) rfl)) (wU_r21 _ (List.mem_of_getElem? (i := 12) rfl)) (wU_r21 _ (List.mem_of_getElem? (i := 13) rfl)) (wU_r2 _ (List.mem_of_getElem? (i := 20) rfl)) (wU_r21 _ (List.mem_of_getElem? (i := 14) rfl))
theorem w_X1_push_f48 : Cond.fieldLink yX1_push.cls 48 (TX1 8).1 (TX1 8).2.1 (TX1 8).2.2.1 ∈ uX1_push := List.mem_cons_of_mem _ (wU_r21 _ (List.mem_of_getElem? (i := 8) rfl))
theorem w_X1_push_f85 : Cond.fieldLink yX1_push.cls 85 (TX4 7).1 (TX4 7).2.1 (TX4 7).2.2.1 ∈ uX1_push := List.mem_cons_of_mem _ (wU_r22 _ (List.mem_of_getElem? (i := 16) rfl))
theorem w_X1_push_f88 : Cond.fieldLink yX1_push.cls 88 (TX1 2).1 (TX1 2).2.1 (TX1 2).2.2.1 ∈ uX1_push := List.mem_cons_of_mem _ (wU_r22 _ (List.mem_of_getElem? (i := 17) rfl))
theorem w_X1_push_f58 : Cond.fieldLink yX1_push.cls 58 (TX1 9).1 (TX1 9).2.1 (TX1 9).2.2.1 ∈ uX1_push := List.mem_cons_of_mem _ (wU_r21 _ (List.mem_of_getElem? (i := 10) rfl))
theorem w_X1_push_f91 : Cond.fieldLink yX1_push.cls 91 (TX1 3).1 (TX1 3).2.1 (TX1 3).2.2.1 ∈ uX1_push := List.mem_cons_of_mem _ (wU_r22 _ (List.mem_of_getElem? (i := 18) rfl))
theorem w_X1_push_f94 : Cond.fieldLink yX1_push.cls 94 (TX4 1).1 (TX4 1).2.1 (TX4 1).2.2.1 ∈ uX1_push := List.mem_cons_of_mem _ (wU_r22 _ (List.mem_of_getElem? (i := 19) rfl))
theorem w_X1_push_f97 : Cond.fieldLink yX1_push.cls 97 (TX4 2).1 (TX4 2).2.1 (TX4 2).2.2.1 ∈ uX1_push := List.mem_cons_of_mem _ (wU_r22 _ (List.mem_of_getElem? (i := 20) rfl))
theorem g_X1_push_100 : GoodIn uX1_push (wsV yX1_push.cls 100 RX1 yX1_changeByKind uX1_changeByKind) := gU_V (wU_r23 _ (List.mem_of_getElem? (i := 7) rfl)) (wU_r23 _ (List.mem_of_getElem? (i := 8) rfl)) (wU_r23 _ (List.mem_of_getElem? (i := 9) rfl)) (wU_r1 _ (List.mem_of_getElem? (i := 23) rfl)) (wU_r23 _ (List.mem_of_getElem? (i := 10) rfl))
theorem g_X1_push_104 : GoodIn uX1_push (wsV yX1_push.cls 104 RX1 yX1_howItGoes uX1_howItGoes) := gU_V (wU_r23 _ (List.mem_of_getElem? (i := 14) rfl)) (wU_r23 _ (List.mem_of_getElem? (i := 15) rfl)) (wU_r23 _ (List.mem_of_getElem? (i := 16) rfl)) (wU_r1 _ (List.mem_of_getElem? (i := 23) rfl)) (wU_r23 _ (List.mem_of_getElem? (i := 17) rfl))
theorem w_X1_push_f107 : Cond.fieldLink yX1_push.cls 107 (TX1 4).1 (TX1 4).2.1 (TX1 4).2.2.1 ∈ uX1_push := List.mem_cons_of_mem _ (wU_r22 _ (List.mem_of_getElem? (i := 21) rfl))
theorem g_X1_push_110 : GoodIn uX1_push (wsV yX1_push.cls 110 RX1 yX1_wayItGoes uX1_wayItGoes) := gU_V (wU_r23 _ (List.mem_of_getElem? (i := 18) rfl)) (wU_r23 _ (List.mem_of_getElem? (i := 19) rfl)) (wU_r23 _ (List.mem_of_getElem? (i := 20) rfl)) (wU_r1 _ (List.mem_of_getElem? (i := 23) rfl)) (wU_r23 _ (List.mem_of_getElem? (i := 21) rfl))
theorem w_X1_push_f114 : Cond.fieldLink yX1_push.cls 114 (TX1 5).1 (TX1 5).2.1 (TX1 5).2.2.1 ∈ uX1_push := List.mem_cons_of_mem _ (wU_r22 _ (List.mem_of_getElem? (i := 22) rfl))
def f_X1_push_166  (l2 : Nat) (l5 : Int32) (l7 : Int32) (S : aSt) : Option (Unit × aSt) := (aLt (aUi S (29) 2 (((S.1 (29) 8) * l7) - (((S.1 (l2) 7) * l7) / (10 : Int32)))) (fun S15 => (aLt (aUi S15 (29) 3 (S15.1 (29) 9)) (fun S16 => (aB (f_X1_changeByKind (S16.1 (l2) 1) (S16.1 (l2) 2) S16) (fun r17_ S17 => (aB (f_X1_howItGoes S17) (fun r18_ S18 => (aLt (aUi S18 (29) 4 r18_) (fun S19 => (aB (f_X1_wayItGoes l5 S19) (fun r20_ S20 => (aLt (aUi S20 (29) 5 r20_) (fun S21 => (some ((), S21))))))))))))))))
set_option maxRecDepth 20000 in
set_option maxHeartbeats 4000000 in
theorem v_X1_push_166 {G : aG} (hC : aCo G) (l2 : Nat) (ql2 : aTr G l2) (l5 : Int32) (l7 : Int32) (S : aSt) : aX G yX1_push cX1_push 9 none uX1_push 5 mk_v (f_X1_push_166 l2 l5 l7 S) 166 [some (.ref (29)), none, some (.ref (l2)), none, none, some (.int l5), none, some (.int l7), none] [] S := by
  unfold f_X1_push_166
  refine x_aload_n dX1_push_166 rfl rfl ?_
  refine x_aload_n dX1_push_167 rfl rfl ?_
  refine x_getI (k := 29) (j := 8) dX1_push_168 hC rfl rfl (Nat.le_of_ble_eq_true rfl) (fun w h => List.mem_cons_of_mem _ (inlX1 w h)) w_X1_push_f48 ?_
  refine x_iload dX1_push_171 rfl ?_
  refine x_imul dX1_push_173 ?_
  refine x_aload_n dX1_push_174 rfl rfl ?_
  refine x_getI (k := l2) (j := 7) dX1_push_175 ql2.1 rfl rfl (Nat.le_of_ble_eq_true rfl) (fun w h => List.mem_cons_of_mem _ (inlX4 w h)) w_X1_push_f85 ?_
  refine x_iload dX1_push_178 rfl ?_
  refine x_imul dX1_push_180 ?_
  refine x_bipush (10 : Int32) dX1_push_181 (by decide) ?_
  refine x_idivc dX1_push_183 (by decide) ?_
  refine x_isub dX1_push_184 ?_
  refine x_putI (k := 29) (j := 2) dX1_push_185 hC rfl rfl (Nat.le_of_ble_eq_true rfl) (fun w h => List.mem_cons_of_mem _ (inlX1 w h)) w_X1_push_f88 tyX1 tyX1_ok nmX1 rfl (by decide +kernel) ?_
  refine x_ltS (fun S15 => ?_)
  refine x_aload_n dX1_push_188 rfl rfl ?_
  refine x_aload_n dX1_push_189 rfl rfl ?_
  refine x_getI (k := 29) (j := 9) dX1_push_190 hC rfl rfl (Nat.le_of_ble_eq_true rfl) (fun w h => List.mem_cons_of_mem _ (inlX1 w h)) w_X1_push_f58 ?_
  refine x_putI (k := 29) (j := 3) dX1_push_193 hC rfl rfl (Nat.le_of_ble_eq_true rfl) (fun w h => List.mem_cons_of_mem _ (inlX1 w h)) w_X1_push_f91 tyX1 tyX1_ok nmX1 rfl (by decide +kernel) ?_
  refine x_ltS (fun S16 => ?_)
  refine x_aload_n dX1_push_196 rfl rfl ?_
  refine x_aload_n dX1_push_197 rfl rfl ?_
  refine x_getI (k := l2) (j := 1) dX1_push_198 ql2.1 rfl rfl (Nat.le_of_ble_eq_true rfl) (fun w h => List.mem_cons_of_mem _ (inlX4 w h)) w_X1_push_f94 ?_
  refine x_aload_n dX1_push_201 rfl rfl ?_
  refine x_getI (k := l2) (j := 2) dX1_push_202 ql2.1 rfl rfl (Nat.le_of_ble_eq_true rfl) (fun w h => List.mem_cons_of_mem _ (inlX4 w h)) w_X1_push_f97 ?_
  refine x_b (fun r17_ S17 e17 => ?_)
  refine x_callVv (As := [.int (S16.1 (l2) 1), .int (S16.1 (l2) 2)]) dX1_push_205 (aMet_of e17 (m_X1_changeByKind hC (S16.1 (l2) 1) (S16.1 (l2) 2) S16)) g_X1_push_100 rfl hC rfl dd_X1_changeByKind rfl rfl (Nat.le_of_ble_eq_true rfl) (Nat.le_of_ble_eq_true rfl) (Nat.le_of_ble_eq_true rfl) ?_
  refine x_aload_n dX1_push_208 rfl rfl ?_
  refine x_aload_n dX1_push_209 rfl rfl ?_
  refine x_b (fun r18_ S18 e18 => ?_)
  refine x_callVi (As := []) dX1_push_210 (aMet_of e18 (m_X1_howItGoes hC S17)) g_X1_push_104 rfl hC rfl dd_X1_howItGoes rfl rfl (Nat.le_of_ble_eq_true rfl) (Nat.le_of_ble_eq_true rfl) (Nat.le_of_ble_eq_true rfl) ?_
  refine x_putI (k := 29) (j := 4) dX1_push_213 hC rfl rfl (Nat.le_of_ble_eq_true rfl) (fun w h => List.mem_cons_of_mem _ (inlX1 w h)) w_X1_push_f107 tyX1 tyX1_ok nmX1 rfl (by decide +kernel) ?_
  refine x_ltS (fun S19 => ?_)
  refine x_aload_n dX1_push_216 rfl rfl ?_
  refine x_aload_n dX1_push_217 rfl rfl ?_
  refine x_iload dX1_push_218 rfl ?_
  refine x_b (fun r20_ S20 e20 => ?_)
  refine x_callVi (As := [.int l5]) dX1_push_220 (aMet_of e20 (m_X1_wayItGoes hC l5 S19)) g_X1_push_110 rfl hC rfl dd_X1_wayItGoes rfl rfl (Nat.le_of_ble_eq_true rfl) (Nat.le_of_ble_eq_true rfl) (Nat.le_of_ble_eq_true rfl) ?_
  refine x_putI (k := 29) (j := 5) dX1_push_223 hC rfl rfl (Nat.le_of_ble_eq_true rfl) (fun w h => List.mem_cons_of_mem _ (inlX1 w h)) w_X1_push_f114 tyX1 tyX1_ok nmX1 rfl (by decide +kernel) ?_
  refine x_ltS (fun S21 => ?_)
  exact x_vret dX1_push_226 rfl
def f_X1_push (p1 : Nat) (p2 : Nat) (p3 : Int32) (S : aSt) : Option (Unit × aSt) := (aLt (S.1 (p2 + 1) 0) (fun x1 => (aLt ((S.1 (p1) 3) * (S.1 (p2 + 1) 5)) (fun x2 => (aLt ((S.1 (p2 + 1) 1) + (S.1 (p2 + 1) 2)) (fun x3 => (aB (f_X6_alongOf (S.1 (p2) 6) x1 S) (fun r4_ S4 => (aB (f_X6_alongOf (S4.1 (p2 + 1) 4) x1 S4) (fun r5_ S5 => (aLt (aUi S5 (29) 0 ((((S.1 (p2) 5) * r4_) + ((S4.1 (p1) 2) * (S4.1 (p2 + 1) 3))) + (x2 * r5_))) (fun S6 => (aB (f_X6_sideOf (S6.1 (p2) 6) x1 S6) (fun r7_ S7 => (aB (f_X6_sideOf (S7.1 (p2 + 1) 4) x1 S7) (fun r8_ S8 => (aLt (aUi S8 (29) 1 (((((S6.1 (p2) 5) * r7_) + (S7.1 (p2 + 1) 2)) - (S7.1 (p2 + 1) 1)) + (x2 * r8_))) (fun S9 => (if p3 = (-1 : Int32) then (f_X1_push_166 (p2) x1 x3 S9) else (aB (f_X5_total (p1) (2 : Int32) (p2) p3 S9) (fun r10_ S10 => (aB (f_X6_alongOf p3 x1 S10) (fun r11_ S11 => (aLt (aUi S11 (29) 0 ((S10.1 (29) 0) + (r10_ * r11_))) (fun S12 => (aB (f_X6_sideOf p3 x1 S12) (fun r13_ S13 => (aLt (aUi S13 (29) 1 ((S12.1 (29) 1) + (r10_ * r13_))) (fun S14 => (f_X1_push_166 (p2) x1 x3 S14))))))))))))))))))))))))))))))
set_option maxRecDepth 20000 in
set_option maxHeartbeats 4000000 in
theorem m_X1_push {G : aG} (hC : aCo G) (p1 : Nat) (q1 : aWd G p1) (p2 : Nat) (q2 : aTr G p2) (p3 : Int32) (S : aSt) : aMet G yX1_push uX1_push 5 mk_v (f_X1_push p1 p2 p3 S) [.ref (29), .ref (p1), .ref (p2), .int p3] S := by
  refine x_met (cc := cX1_push) (nL := 9) (ret := none) (L := [some (.ref (29)), some (.ref (p1)), some (.ref (p2)), some (.int p3), none, none, none, none, none]) (by decide +kernel) rfl (And.intro rfl (And.intro rfl (And.intro rfl (And.intro rfl trivial)))) (Nat.le_of_ble_eq_true rfl) ?_
  unfold f_X1_push
  refine x_aload_n dX1_push_0 rfl rfl ?_
  refine x_getR (r := p2 + 1) (k := p2) (j := 9) dX1_push_1 q2.1 rfl rfl (Nat.le_of_ble_eq_true rfl) (fun w h => List.mem_cons_of_mem _ (inlX4 w h)) w_X1_push_f36 ?_
  refine x_astore dX1_push_4 (Nat.le_of_ble_eq_true rfl) rfl ?_
  refine x_aload dX1_push_6 rfl ?_
  refine x_iconst (0 : Int32) dX1_push_8 (by decide) ?_
  refine x_ialdc (j := 0) dX1_push_9 q2.2 (by unfold vp_in; decide) (by decide) ?_
  refine x_lti (fun x1 => ?_)
  refine x_istore dX1_push_10 (Nat.le_of_ble_eq_true rfl) rfl ?_
  refine x_aload_n dX1_push_12 rfl rfl ?_
  refine x_getI (k := p1) (j := 3) dX1_push_13 q1.1 rfl rfl (Nat.le_of_ble_eq_true rfl) (fun w h => List.mem_cons_of_mem _ (inlX5 w h)) w_X1_push_f61 ?_
  refine x_aload dX1_push_16 rfl ?_
  refine x_iconst (5 : Int32) dX1_push_18 (by decide) ?_
  refine x_ialdc (j := 5) dX1_push_19 q2.2 (by unfold vp_in; decide) (by decide) ?_
  refine x_imul dX1_push_20 ?_
  refine x_lti (fun x2 => ?_)
  refine x_istore dX1_push_21 (Nat.le_of_ble_eq_true rfl) rfl ?_
  refine x_aload dX1_push_23 rfl ?_
  refine x_iconst (1 : Int32) dX1_push_25 (by decide) ?_
  refine x_ialdc (j := 1) dX1_push_26 q2.2 (by unfold vp_in; decide) (by decide) ?_
  refine x_aload dX1_push_27 rfl ?_
  refine x_iconst (2 : Int32) dX1_push_29 (by decide) ?_
  refine x_ialdc (j := 2) dX1_push_30 q2.2 (by unfold vp_in; decide) (by decide) ?_
  refine x_iadd dX1_push_31 ?_
  refine x_lti (fun x3 => ?_)
  refine x_istore dX1_push_32 (Nat.le_of_ble_eq_true rfl) rfl ?_
  refine x_aload_n dX1_push_34 rfl rfl ?_
  refine x_aload_n dX1_push_35 rfl rfl ?_
  refine x_getI (k := p2) (j := 5) dX1_push_36 q2.1 rfl rfl (Nat.le_of_ble_eq_true rfl) (fun w h => List.mem_cons_of_mem _ (inlX4 w h)) w_X1_push_f64 ?_
  refine x_aload_n dX1_push_39 rfl rfl ?_
  refine x_getI (k := p2) (j := 6) dX1_push_40 q2.1 rfl rfl (Nat.le_of_ble_eq_true rfl) (fun w h => List.mem_cons_of_mem _ (inlX4 w h)) w_X1_push_f67 ?_
  refine x_iload dX1_push_43 rfl ?_
  refine x_b (fun r4_ S4 e4 => ?_)
  refine x_callNi (As := [.int (S.1 (p2) 6), .int x1]) dX1_push_45 (aMet_of e4 (m_X6_alongOf (S.1 (p2) 6) x1 S)) g_X1_push_70 (host := "FellTree") (by decide +kernel) w_X1_push_st_X6_alongOf w_X1_push_in_X6_alongOf rfl dd_X6_alongOf rfl rfl (Nat.le_of_ble_eq_true rfl) (Nat.le_of_ble_eq_true rfl) (Nat.le_of_ble_eq_true rfl) ?_
  refine x_imul dX1_push_48 ?_
  refine x_aload_n dX1_push_49 rfl rfl ?_
  refine x_getI (k := p1) (j := 2) dX1_push_50 q1.1 rfl rfl (Nat.le_of_ble_eq_true rfl) (fun w h => List.mem_cons_of_mem _ (inlX5 w h)) w_X1_push_f73 ?_
  refine x_aload dX1_push_53 rfl ?_
  refine x_iconst (3 : Int32) dX1_push_55 (by decide) ?_
  refine x_ialdc (j := 3) dX1_push_56 q2.2 (by unfold vp_in; decide) (by decide) ?_
  refine x_imul dX1_push_57 ?_
  refine x_iadd dX1_push_58 ?_
  refine x_iload dX1_push_59 rfl ?_
  refine x_aload dX1_push_61 rfl ?_
  refine x_iconst (4 : Int32) dX1_push_63 (by decide) ?_
  refine x_ialdc (j := 4) dX1_push_64 q2.2 (by unfold vp_in; decide) (by decide) ?_
  refine x_iload dX1_push_65 rfl ?_
  refine x_b (fun r5_ S5 e5 => ?_)
  refine x_callNi (As := [.int (S4.1 (p2 + 1) 4), .int x1]) dX1_push_67 (aMet_of e5 (m_X6_alongOf (S4.1 (p2 + 1) 4) x1 S4)) g_X1_push_70 (host := "FellTree") (by decide +kernel) w_X1_push_st_X6_alongOf w_X1_push_in_X6_alongOf rfl dd_X6_alongOf rfl rfl (Nat.le_of_ble_eq_true rfl) (Nat.le_of_ble_eq_true rfl) (Nat.le_of_ble_eq_true rfl) ?_
  refine x_imul dX1_push_70 ?_
  refine x_iadd dX1_push_71 ?_
  refine x_putI (k := 29) (j := 0) dX1_push_72 hC rfl rfl (Nat.le_of_ble_eq_true rfl) (fun w h => List.mem_cons_of_mem _ (inlX1 w h)) w_X1_push_f76 tyX1 tyX1_ok nmX1 rfl (by decide +kernel) ?_
  refine x_ltS (fun S6 => ?_)
  refine x_aload_n dX1_push_75 rfl rfl ?_
  refine x_aload_n dX1_push_76 rfl rfl ?_
  refine x_getI (k := p2) (j := 5) dX1_push_77 q2.1 rfl rfl (Nat.le_of_ble_eq_true rfl) (fun w h => List.mem_cons_of_mem _ (inlX4 w h)) w_X1_push_f64 ?_
  refine x_aload_n dX1_push_80 rfl rfl ?_
  refine x_getI (k := p2) (j := 6) dX1_push_81 q2.1 rfl rfl (Nat.le_of_ble_eq_true rfl) (fun w h => List.mem_cons_of_mem _ (inlX4 w h)) w_X1_push_f67 ?_
  refine x_iload dX1_push_84 rfl ?_
  refine x_b (fun r7_ S7 e7 => ?_)
  refine x_callNi (As := [.int (S6.1 (p2) 6), .int x1]) dX1_push_86 (aMet_of e7 (m_X6_sideOf (S6.1 (p2) 6) x1 S6)) g_X1_push_79 (host := "FellTree") (by decide +kernel) w_X1_push_st_X6_sideOf w_X1_push_in_X6_sideOf rfl dd_X6_sideOf rfl rfl (Nat.le_of_ble_eq_true rfl) (Nat.le_of_ble_eq_true rfl) (Nat.le_of_ble_eq_true rfl) ?_
  refine x_imul dX1_push_89 ?_
  refine x_aload dX1_push_90 rfl ?_
  refine x_iconst (2 : Int32) dX1_push_92 (by decide) ?_
  refine x_ialdc (j := 2) dX1_push_93 q2.2 (by unfold vp_in; decide) (by decide) ?_
  refine x_iadd dX1_push_94 ?_
  refine x_aload dX1_push_95 rfl ?_
  refine x_iconst (1 : Int32) dX1_push_97 (by decide) ?_
  refine x_ialdc (j := 1) dX1_push_98 q2.2 (by unfold vp_in; decide) (by decide) ?_
  refine x_isub dX1_push_99 ?_
  refine x_iload dX1_push_100 rfl ?_
  refine x_aload dX1_push_102 rfl ?_
  refine x_iconst (4 : Int32) dX1_push_104 (by decide) ?_
  refine x_ialdc (j := 4) dX1_push_105 q2.2 (by unfold vp_in; decide) (by decide) ?_
  refine x_iload dX1_push_106 rfl ?_
  refine x_b (fun r8_ S8 e8 => ?_)
  refine x_callNi (As := [.int (S7.1 (p2 + 1) 4), .int x1]) dX1_push_108 (aMet_of e8 (m_X6_sideOf (S7.1 (p2 + 1) 4) x1 S7)) g_X1_push_79 (host := "FellTree") (by decide +kernel) w_X1_push_st_X6_sideOf w_X1_push_in_X6_sideOf rfl dd_X6_sideOf rfl rfl (Nat.le_of_ble_eq_true rfl) (Nat.le_of_ble_eq_true rfl) (Nat.le_of_ble_eq_true rfl) ?_
  refine x_imul dX1_push_111 ?_
  refine x_iadd dX1_push_112 ?_
  refine x_putI (k := 29) (j := 1) dX1_push_113 hC rfl rfl (Nat.le_of_ble_eq_true rfl) (fun w h => List.mem_cons_of_mem _ (inlX1 w h)) w_X1_push_f82 tyX1 tyX1_ok nmX1 rfl (by decide +kernel) ?_
  refine x_ltS (fun S9 => ?_)
  refine x_iload_n dX1_push_116 rfl rfl ?_
  refine x_iconst (-1 : Int32) dX1_push_117 (by decide) ?_
  refine x_icmp_eq (tgt := 166) dX1_push_118 (by decide) ?_ ?_
  · exact x_le (v_X1_push_166 hC (p2) q2 x1 x3 S9) (And.intro rfl (And.intro rfl (And.intro rfl (And.intro rfl trivial))))
  · refine x_aload_n dX1_push_121 rfl rfl ?_
    refine x_iconst (2 : Int32) dX1_push_122 (by decide) ?_
    refine x_aload_n dX1_push_123 rfl rfl ?_
    refine x_iload_n dX1_push_124 rfl rfl ?_
    refine x_b (fun r10_ S10 e10 => ?_)
    refine x_callVi (As := [.int (2 : Int32), .ref (p2), .int p3]) dX1_push_125 (aMet_of e10 (m_X5_total (p1) q1 (2 : Int32) (p2) q2 p3 S9)) g_X1_push_44 rfl q1.1 rfl dd_X5_total rfl rfl (Nat.le_of_ble_eq_true rfl) (Nat.le_of_ble_eq_true rfl) (Nat.le_of_ble_eq_true rfl) ?_
    refine x_istore dX1_push_128 (Nat.le_of_ble_eq_true rfl) rfl ?_
    refine x_aload_n dX1_push_130 rfl rfl ?_
    refine x_dup dX1_push_131 rfl ?_
    refine x_getI (k := 29) (j := 0) dX1_push_132 hC rfl rfl (Nat.le_of_ble_eq_true rfl) (fun w h => List.mem_cons_of_mem _ (inlX1 w h)) w_X1_push_f76 ?_
    refine x_iload dX1_push_135 rfl ?_
    refine x_iload_n dX1_push_137 rfl rfl ?_
    refine x_iload dX1_push_138 rfl ?_
    refine x_b (fun r11_ S11 e11 => ?_)
    refine x_callNi (As := [.int p3, .int x1]) dX1_push_140 (aMet_of e11 (m_X6_alongOf p3 x1 S10)) g_X1_push_70 (host := "FellTree") (by decide +kernel) w_X1_push_st_X6_alongOf w_X1_push_in_X6_alongOf rfl dd_X6_alongOf rfl rfl (Nat.le_of_ble_eq_true rfl) (Nat.le_of_ble_eq_true rfl) (Nat.le_of_ble_eq_true rfl) ?_
    refine x_imul dX1_push_143 ?_
    refine x_iadd dX1_push_144 ?_
    refine x_putI (k := 29) (j := 0) dX1_push_145 hC rfl rfl (Nat.le_of_ble_eq_true rfl) (fun w h => List.mem_cons_of_mem _ (inlX1 w h)) w_X1_push_f76 tyX1 tyX1_ok nmX1 rfl (by decide +kernel) ?_
    refine x_ltS (fun S12 => ?_)
    refine x_aload_n dX1_push_148 rfl rfl ?_
    refine x_dup dX1_push_149 rfl ?_
    refine x_getI (k := 29) (j := 1) dX1_push_150 hC rfl rfl (Nat.le_of_ble_eq_true rfl) (fun w h => List.mem_cons_of_mem _ (inlX1 w h)) w_X1_push_f82 ?_
    refine x_iload dX1_push_153 rfl ?_
    refine x_iload_n dX1_push_155 rfl rfl ?_
    refine x_iload dX1_push_156 rfl ?_
    refine x_b (fun r13_ S13 e13 => ?_)
    refine x_callNi (As := [.int p3, .int x1]) dX1_push_158 (aMet_of e13 (m_X6_sideOf p3 x1 S12)) g_X1_push_79 (host := "FellTree") (by decide +kernel) w_X1_push_st_X6_sideOf w_X1_push_in_X6_sideOf rfl dd_X6_sideOf rfl rfl (Nat.le_of_ble_eq_true rfl) (Nat.le_of_ble_eq_true rfl) (Nat.le_of_ble_eq_true rfl) ?_
    refine x_imul dX1_push_161 ?_
    refine x_iadd dX1_push_162 ?_
    refine x_putI (k := 29) (j := 1) dX1_push_163 hC rfl rfl (Nat.le_of_ble_eq_true rfl) (fun w h => List.mem_cons_of_mem _ (inlX1 w h)) w_X1_push_f82 tyX1 tyX1_ok nmX1 rfl (by decide +kernel) ?_
    refine x_ltS (fun S14 => ?_)
    exact x_le (v_X1_push_166 hC (p2) q2 x1 x3 S14) (And.intro rfl (And.intro rfl (And.intro rfl (And.intro rfl trivial))))
theorem dd_X1_weigh : yX1_weigh.cls = RX1 ∧ yX1_weigh.cls ≠ "java/lang/invoke/MethodHandle" ∧ yX1_weigh.cls ≠ "java/lang/invoke/VarHandle" ∧ (parseMethodDescriptor yX1_weigh.desc).map (fun d => d.parameters.length) = some 2 := by decide +kernel
theorem dd_X1_push : yX1_push.cls = RX1 ∧ yX1_push.cls ≠ "java/lang/invoke/MethodHandle" ∧ yX1_push.cls ≠ "java/lang/invoke/VarHandle" ∧ (parseMethodDescriptor yX1_push.desc).map (fun d => d.parameters.length) = some 3 := by decide +kernel
theorem g_X1_decide_29 : GoodIn uX1_decide (wsV yX1_decide.cls 29 RX1 yX1_weigh uX1_weigh) := gU_V (wU_r21 _ (List.mem_of_getElem? (i := 3) rfl)) (wU_r21 _ (List.mem_of_getElem? (i := 4) rfl)) (wU_r21 _ (List.mem_of_getElem? (i := 5) rfl)) (wU_r1 _ (List.mem_of_getElem? (i := 23) rfl)) (wU_r21 _ (List.mem_of_getElem? (i := 6) rfl))
theorem g_X1_decide_33 : GoodIn uX1_decide (wsV yX1_decide.cls 33 RX1 yX1_push uX1_push) := gU_V (wU_r22 _ (List.mem_of_getElem? (i := 6) rfl)) (wU_r22 _ (List.mem_of_getElem? (i := 7) rfl)) (wU_r22 _ (List.mem_of_getElem? (i := 8) rfl)) (wU_r1 _ (List.mem_of_getElem? (i := 23) rfl)) (wU_r22 _ (List.mem_of_getElem? (i := 9) rfl))
def f_X1_decide (p1 : Nat) (p2 : Nat) (p3 : Int32) (S : aSt) : Option (Unit × aSt) := (aB (f_X1_weigh (p1) (p2) S) (fun r1_ S1 => (aB (f_X1_push (p1) (p2) p3 S1) (fun r2_ S2 => (some ((), S2))))))
set_option maxRecDepth 20000 in
set_option maxHeartbeats 4000000 in
theorem m_X1_decide {G : aG} (hC : aCo G) (p1 : Nat) (q1 : aWd G p1) (p2 : Nat) (q2 : aTr G p2) (p3 : Int32) (S : aSt) : aMet G yX1_decide uX1_decide 6 mk_v (f_X1_decide p1 p2 p3 S) [.ref (29), .ref (p1), .ref (p2), .int p3] S := by
  refine x_met (cc := cX1_decide) (nL := 4) (ret := none) (L := [some (.ref (29)), some (.ref (p1)), some (.ref (p2)), some (.int p3)]) (by decide +kernel) rfl (And.intro rfl (And.intro rfl (And.intro rfl (And.intro rfl trivial)))) (Nat.le_of_ble_eq_true rfl) ?_
  unfold f_X1_decide
  refine x_aload_n dX1_decide_0 rfl rfl ?_
  refine x_aload_n dX1_decide_1 rfl rfl ?_
  refine x_aload_n dX1_decide_2 rfl rfl ?_
  refine x_b (fun r1_ S1 e1 => ?_)
  refine x_callVv (As := [.ref (p1), .ref (p2)]) dX1_decide_3 (aMet_of e1 (m_X1_weigh hC (p1) q1 (p2) q2 S)) g_X1_decide_29 rfl hC rfl dd_X1_weigh rfl rfl (Nat.le_of_ble_eq_true rfl) (Nat.le_of_ble_eq_true rfl) (Nat.le_of_ble_eq_true rfl) ?_
  refine x_aload_n dX1_decide_6 rfl rfl ?_
  refine x_aload_n dX1_decide_7 rfl rfl ?_
  refine x_aload_n dX1_decide_8 rfl rfl ?_
  refine x_iload_n dX1_decide_9 rfl rfl ?_
  refine x_b (fun r2_ S2 e2 => ?_)
  refine x_callVv (As := [.ref (p1), .ref (p2), .int p3]) dX1_decide_10 (aMet_of e2 (m_X1_push hC (p1) q1 (p2) q2 p3 S1)) g_X1_decide_33 rfl hC rfl dd_X1_push rfl rfl (Nat.le_of_ble_eq_true rfl) (Nat.le_of_ble_eq_true rfl) (Nat.le_of_ble_eq_true rfl) ?_
  exact x_vret dX1_decide_13 rfl
theorem dd_X2_whichOn : yX2_whichOn.cls = RX2 ∧ yX2_whichOn.cls ≠ "java/lang/invoke/MethodHandle" ∧ yX2_whichOn.cls ≠ "java/lang/invoke/VarHandle" ∧ (parseMethodDescriptor yX2_whichOn.desc).map (fun d => d.parameters.length) = some 2 := by decide +kernel
theorem w_X1_lay_f120 : Cond.fieldLink yX1_lay.cls 120 (TX1 7).1 (TX1 7).2.1 (TX1 7).2.2.1 ∈ uX1_lay := List.mem_cons_of_mem _ (wU_r24 _ (List.mem_of_getElem? (i := 9) rfl))
theorem w_X1_lay_f124 : Cond.fieldLink yX1_lay.cls 124 (TX1 6).1 (TX1 6).2.1 (TX1 6).2.2.1 ∈ uX1_lay := List.mem_cons_of_mem _ (wU_r24 _ (List.mem_of_getElem? (i := 10) rfl))
theorem w_X1_lay_f107 : Cond.fieldLink yX1_lay.cls 107 (TX1 4).1 (TX1 4).2.1 (TX1 4).2.2.1 ∈ uX1_lay := List.mem_cons_of_mem _ (wU_r22 _ (List.mem_of_getElem? (i := 21) rfl))
theorem w_X1_lay_f127 : Cond.fieldLink yX1_lay.cls 127 (TX4 4).1 (TX4 4).2.1 (TX4 4).2.2.1 ∈ uX1_lay := List.mem_cons_of_mem _ (wU_r24 _ (List.mem_of_getElem? (i := 11) rfl))
theorem w_X1_lay_f130 : Cond.fieldLink yX1_lay.cls 130 (TX4 3).1 (TX4 3).2.1 (TX4 3).2.2.1 ∈ uX1_lay := List.mem_cons_of_mem _ (wU_r24 _ (List.mem_of_getElem? (i := 12) rfl))
theorem w_X1_lay_f114 : Cond.fieldLink yX1_lay.cls 114 (TX1 5).1 (TX1 5).2.1 (TX1 5).2.2.1 ∈ uX1_lay := List.mem_cons_of_mem _ (wU_r22 _ (List.mem_of_getElem? (i := 22) rfl))
theorem g_X1_lay_133 : GoodIn uX1_lay uX6_nextPlace := gU_N (wU_r24 _ (List.mem_of_getElem? (i := 14) rfl))
theorem w_X1_lay_st_X6_nextPlace : Cond.static yX6_nextPlace ∈ uX1_lay := List.mem_cons_of_mem _ (wU_r24 _ (List.mem_of_getElem? (i := 13) rfl))
theorem w_X1_lay_in_X6_nextPlace : Cond.initialized yX6_nextPlace.cls ∈ uX1_lay := List.mem_cons_of_mem _ (wU_r1 _ (List.mem_of_getElem? (i := 2) rfl))
theorem g_X1_lay_136 : GoodIn uX1_lay (wsV yX1_lay.cls 136 RX2 yX2_whichOn uX2_whichOn) := gU_V (wU_r24 _ (List.mem_of_getElem? (i := 17) rfl)) (wU_r24 _ (List.mem_of_getElem? (i := 18) rfl)) (wU_r24 _ (List.mem_of_getElem? (i := 19) rfl)) (wU_r1 _ (List.mem_of_getElem? (i := 15) rfl)) (wU_r24 _ (List.mem_of_getElem? (i := 20) rfl))
def f_X1_lay_62  : Nat → Nat → Int32 → Int32 → Int32 → Int32 → aSt → Option (Unit × aSt)
  | 0, _, _, _, _, _, _ => none
  | n + 1, l1, l3, l4, l5, l6, S => (if l4 ≤ l6 then (some ((), S)) else (if l5 = (-1 : Int32) then (some ((), S)) else (aB (f_X2_whichOn (l1) l5 l3 S) (fun r4_ S4 => (aLt (aUi S4 (29) 6 r4_) (fun S5 => (if (S5.1 (29) 6) = (-5 : Int32) then (aLt (aUl S5 (29) 7 ((S5.2 (29) 7) ||| ((1 : Int64) <<< ((l5).toInt64 &&& 63)))) (fun S6 => (aB (f_X6_nextPlace l5 (S6.1 (29) 5) S6) (fun r7_ S7 => (aLt (l6 + (1 : Int32)) (fun x8 => (f_X1_lay_62 n (l1) l3 l4 r7_ x8 S7))))))) else (some ((), S5)))))))))
set_option maxRecDepth 20000 in
set_option maxHeartbeats 4000000 in
theorem v_X1_lay_62 {G : aG} (hC : aCo G) : ∀ (n : Nat) (l1 : Nat) (ql1 : aGr G l1) (l3 : Int32) (l4 : Int32) (l5 : Int32) (l6 : Int32) (S : aSt), aX G yX1_lay cX1_lay 7 none uX1_lay 4 mk_v (f_X1_lay_62 n l1 l3 l4 l5 l6 S) 62 [some (.ref (29)), some (.ref (l1)), none, some (.int l3), some (.int l4), some (.int l5), some (.int l6)] [] S := by
  intro n
  induction n with
  | zero => intro l1 ql1 l3 l4 l5 l6 S; exact x_none
  | succ n ih =>
    intro l1 ql1 l3 l4 l5 l6 S
    unfold f_X1_lay_62
    refine x_iload dX1_lay_62 rfl ?_
    refine x_iload dX1_lay_64 rfl ?_
    refine x_icmp_ge (tgt := 126) dX1_lay_66 (by decide) ?_ ?_
    · exact x_vret dX1_lay_126 rfl
    · refine x_iload dX1_lay_69 rfl ?_
      refine x_iconst (-1 : Int32) dX1_lay_71 (by decide) ?_
      refine x_icmp_eq (tgt := 126) dX1_lay_72 (by decide) ?_ ?_
      · exact x_vret dX1_lay_126 rfl
      · refine x_aload_n dX1_lay_75 rfl rfl ?_
        refine x_aload_n dX1_lay_76 rfl rfl ?_
        refine x_iload dX1_lay_77 rfl ?_
        refine x_iload_n dX1_lay_79 rfl rfl ?_
        refine x_b (fun r4_ S4 e4 => ?_)
        refine x_callVi (As := [.int l5, .int l3]) dX1_lay_80 (aMet_of e4 (m_X2_whichOn (l1) ql1 l5 l3 S)) g_X1_lay_136 rfl ql1.1 rfl dd_X2_whichOn rfl rfl (Nat.le_of_ble_eq_true rfl) (Nat.le_of_ble_eq_true rfl) (Nat.le_of_ble_eq_true rfl) ?_
        refine x_putI (k := 29) (j := 6) dX1_lay_83 hC rfl rfl (Nat.le_of_ble_eq_true rfl) (fun w h => List.mem_cons_of_mem _ (inlX1 w h)) w_X1_lay_f124 tyX1 tyX1_ok nmX1 rfl (by decide +kernel) ?_
        refine x_ltS (fun S5 => ?_)
        refine x_aload_n dX1_lay_86 rfl rfl ?_
        refine x_getI (k := 29) (j := 6) dX1_lay_87 hC rfl rfl (Nat.le_of_ble_eq_true rfl) (fun w h => List.mem_cons_of_mem _ (inlX1 w h)) w_X1_lay_f124 ?_
        refine x_bipush (-5 : Int32) dX1_lay_90 (by decide) ?_
        refine x_icmp_eq (tgt := 96) dX1_lay_92 (by decide) ?_ ?_
        · refine x_aload_n dX1_lay_96 rfl rfl ?_
          refine x_dup dX1_lay_97 rfl ?_
          refine x_getJ (k := 29) (j := 7) dX1_lay_98 hC rfl rfl (Nat.le_of_ble_eq_true rfl) (fun w h => List.mem_cons_of_mem _ (inlX1 w h)) w_X1_lay_f120 ?_
          refine x_lconst (1 : Int64) dX1_lay_101 (by decide) ?_
          refine x_iload dX1_lay_102 rfl ?_
          refine x_lshl dX1_lay_104 ?_
          refine x_lor dX1_lay_105 ?_
          refine x_putJ (k := 29) (j := 7) dX1_lay_106 hC rfl rfl (Nat.le_of_ble_eq_true rfl) (fun w h => List.mem_cons_of_mem _ (inlX1 w h)) w_X1_lay_f120 tyX1 tyX1_ok nmX1 rfl (by decide +kernel) ?_
          refine x_ltS (fun S6 => ?_)
          refine x_iload dX1_lay_109 rfl ?_
          refine x_aload_n dX1_lay_111 rfl rfl ?_
          refine x_getI (k := 29) (j := 5) dX1_lay_112 hC rfl rfl (Nat.le_of_ble_eq_true rfl) (fun w h => List.mem_cons_of_mem _ (inlX1 w h)) w_X1_lay_f114 ?_
          refine x_b (fun r7_ S7 e7 => ?_)
          refine x_callNi (As := [.int l5, .int (S6.1 (29) 5)]) dX1_lay_115 (aMet_of e7 (m_X6_nextPlace l5 (S6.1 (29) 5) S6)) g_X1_lay_133 (host := "FellTree") (by decide +kernel) w_X1_lay_st_X6_nextPlace w_X1_lay_in_X6_nextPlace rfl dd_X6_nextPlace rfl rfl (Nat.le_of_ble_eq_true rfl) (Nat.le_of_ble_eq_true rfl) (Nat.le_of_ble_eq_true rfl) ?_
          refine x_istore dX1_lay_118 (Nat.le_of_ble_eq_true rfl) rfl ?_
          refine x_iincL (w := (1 : Int32)) dX1_lay_120 rfl (by decide) (Nat.le_of_ble_eq_true rfl) rfl (fun x8 => ?_)
          refine x_goto (tgt := 62) dX1_lay_123 (by decide) ?_
          exact x_le (ih (l1) ql1 l3 l4 r7_ x8 S7) (And.intro rfl (And.intro rfl (And.intro rfl (And.intro rfl (And.intro rfl (And.intro rfl trivial))))))
        · exact x_vret dX1_lay_95 rfl
def f_X1_lay_44  (l1 : Nat) (l2 : Nat) (l3 : Int32) (s0 : Int32) (S : aSt) : Option (Unit × aSt) := (aB (f_X6_nextPlace (S.1 (l2) 3) (S.1 (29) 5) S) (fun r3_ S3 => (f_X1_lay_62 aF (l1) l3 s0 r3_ (0 : Int32) S3)))
set_option maxRecDepth 20000 in
set_option maxHeartbeats 4000000 in
theorem v_X1_lay_44 {G : aG} (hC : aCo G) (l1 : Nat) (ql1 : aGr G l1) (l2 : Nat) (ql2 : aTr G l2) (l3 : Int32) (s0 : Int32) (S : aSt) : aX G yX1_lay cX1_lay 7 none uX1_lay 4 mk_v (f_X1_lay_44 l1 l2 l3 s0 S) 44 [some (.ref (29)), some (.ref (l1)), some (.ref (l2)), some (.int l3), none, none, none] [.int s0] S := by
  unfold f_X1_lay_44
  refine x_istore dX1_lay_44 (Nat.le_of_ble_eq_true rfl) rfl ?_
  refine x_aload_n dX1_lay_46 rfl rfl ?_
  refine x_getI (k := l2) (j := 3) dX1_lay_47 ql2.1 rfl rfl (Nat.le_of_ble_eq_true rfl) (fun w h => List.mem_cons_of_mem _ (inlX4 w h)) w_X1_lay_f130 ?_
  refine x_aload_n dX1_lay_50 rfl rfl ?_
  refine x_getI (k := 29) (j := 5) dX1_lay_51 hC rfl rfl (Nat.le_of_ble_eq_true rfl) (fun w h => List.mem_cons_of_mem _ (inlX1 w h)) w_X1_lay_f114 ?_
  refine x_b (fun r3_ S3 e3 => ?_)
  refine x_callNi (As := [.int (S.1 (l2) 3), .int (S.1 (29) 5)]) dX1_lay_54 (aMet_of e3 (m_X6_nextPlace (S.1 (l2) 3) (S.1 (29) 5) S)) g_X1_lay_133 (host := "FellTree") (by decide +kernel) w_X1_lay_st_X6_nextPlace w_X1_lay_in_X6_nextPlace rfl dd_X6_nextPlace rfl rfl (Nat.le_of_ble_eq_true rfl) (Nat.le_of_ble_eq_true rfl) (Nat.le_of_ble_eq_true rfl) ?_
  refine x_istore dX1_lay_57 (Nat.le_of_ble_eq_true rfl) rfl ?_
  refine x_iconst (0 : Int32) dX1_lay_59 (by decide) ?_
  refine x_istore dX1_lay_60 (Nat.le_of_ble_eq_true rfl) rfl ?_
  exact x_le (v_X1_lay_62 hC aF (l1) ql1 l3 s0 r3_ (0 : Int32) S3) (And.intro rfl (And.intro rfl (And.intro rfl (And.intro rfl (And.intro rfl (And.intro rfl trivial))))))
def f_X1_lay (p1 : Nat) (p2 : Nat) (p3 : Int32) (S : aSt) : Option (Unit × aSt) := (aLt (aUl S (29) 7 (0 : Int64)) (fun S1 => (aLt (aUi S1 (29) 6 (-5 : Int32)) (fun S2 => (if (S2.1 (29) 4) = (2 : Int32) then (f_X1_lay_44 (p1) (p2) p3 (0 : Int32) S2) else (if (S2.1 (29) 4) = (4 : Int32) then (f_X1_lay_44 (p1) (p2) p3 ((S2.1 (p2) 4) - (1 : Int32)) S2) else (f_X1_lay_44 (p1) (p2) p3 (S2.1 (p2) 4) S2)))))))
set_option maxRecDepth 20000 in
set_option maxHeartbeats 4000000 in
theorem m_X1_lay {G : aG} (hC : aCo G) (p1 : Nat) (q1 : aGr G p1) (p2 : Nat) (q2 : aTr G p2) (p3 : Int32) (S : aSt) : aMet G yX1_lay uX1_lay 4 mk_v (f_X1_lay p1 p2 p3 S) [.ref (29), .ref (p1), .ref (p2), .int p3] S := by
  refine x_met (cc := cX1_lay) (nL := 7) (ret := none) (L := [some (.ref (29)), some (.ref (p1)), some (.ref (p2)), some (.int p3), none, none, none]) (by decide +kernel) rfl (And.intro rfl (And.intro rfl (And.intro rfl (And.intro rfl trivial)))) (Nat.le_of_ble_eq_true rfl) ?_
  unfold f_X1_lay
  refine x_aload_n dX1_lay_0 rfl rfl ?_
  refine x_lconst (0 : Int64) dX1_lay_1 (by decide) ?_
  refine x_putJ (k := 29) (j := 7) dX1_lay_2 hC rfl rfl (Nat.le_of_ble_eq_true rfl) (fun w h => List.mem_cons_of_mem _ (inlX1 w h)) w_X1_lay_f120 tyX1 tyX1_ok nmX1 rfl (by decide +kernel) ?_
  refine x_ltS (fun S1 => ?_)
  refine x_aload_n dX1_lay_5 rfl rfl ?_
  refine x_bipush (-5 : Int32) dX1_lay_6 (by decide) ?_
  refine x_putI (k := 29) (j := 6) dX1_lay_8 hC rfl rfl (Nat.le_of_ble_eq_true rfl) (fun w h => List.mem_cons_of_mem _ (inlX1 w h)) w_X1_lay_f124 tyX1 tyX1_ok nmX1 rfl (by decide +kernel) ?_
  refine x_ltS (fun S2 => ?_)
  refine x_aload_n dX1_lay_11 rfl rfl ?_
  refine x_getI (k := 29) (j := 4) dX1_lay_12 hC rfl rfl (Nat.le_of_ble_eq_true rfl) (fun w h => List.mem_cons_of_mem _ (inlX1 w h)) w_X1_lay_f107 ?_
  refine x_iconst (2 : Int32) dX1_lay_15 (by decide) ?_
  refine x_icmp_ne (tgt := 23) dX1_lay_16 (by decide) ?_ ?_
  · refine x_aload_n dX1_lay_23 rfl rfl ?_
    refine x_getI (k := 29) (j := 4) dX1_lay_24 hC rfl rfl (Nat.le_of_ble_eq_true rfl) (fun w h => List.mem_cons_of_mem _ (inlX1 w h)) w_X1_lay_f107 ?_
    refine x_iconst (4 : Int32) dX1_lay_27 (by decide) ?_
    refine x_icmp_ne (tgt := 40) dX1_lay_28 (by decide) ?_ ?_
    · refine x_aload_n dX1_lay_40 rfl rfl ?_
      refine x_getI (k := p2) (j := 4) dX1_lay_41 q2.1 rfl rfl (Nat.le_of_ble_eq_true rfl) (fun w h => List.mem_cons_of_mem _ (inlX4 w h)) w_X1_lay_f127 ?_
      exact x_le (v_X1_lay_44 hC (p1) q1 (p2) q2 p3 (S2.1 (p2) 4) S2) (And.intro rfl (And.intro rfl (And.intro rfl (And.intro rfl trivial))))
    · refine x_aload_n dX1_lay_31 rfl rfl ?_
      refine x_getI (k := p2) (j := 4) dX1_lay_32 q2.1 rfl rfl (Nat.le_of_ble_eq_true rfl) (fun w h => List.mem_cons_of_mem _ (inlX4 w h)) w_X1_lay_f127 ?_
      refine x_iconst (1 : Int32) dX1_lay_35 (by decide) ?_
      refine x_isub dX1_lay_36 ?_
      refine x_goto (tgt := 44) dX1_lay_37 (by decide) ?_
      exact x_le (v_X1_lay_44 hC (p1) q1 (p2) q2 p3 ((S2.1 (p2) 4) - (1 : Int32)) S2) (And.intro rfl (And.intro rfl (And.intro rfl (And.intro rfl trivial))))
  · refine x_iconst (0 : Int32) dX1_lay_19 (by decide) ?_
    refine x_goto (tgt := 44) dX1_lay_20 (by decide) ?_
    exact x_le (v_X1_lay_44 hC (p1) q1 (p2) q2 p3 (0 : Int32) S2) (And.intro rfl (And.intro rfl (And.intro rfl (And.intro rfl trivial))))
theorem dd_X1_decide : yX1_decide.cls = RX1 ∧ yX1_decide.cls ≠ "java/lang/invoke/MethodHandle" ∧ yX1_decide.cls ≠ "java/lang/invoke/VarHandle" ∧ (parseMethodDescriptor yX1_decide.desc).map (fun d => d.parameters.length) = some 3 := by decide +kernel
theorem dd_X2_standingTrees : yX2_standingTrees.cls = RX2 ∧ yX2_standingTrees.cls ≠ "java/lang/invoke/MethodHandle" ∧ yX2_standingTrees.cls ≠ "java/lang/invoke/VarHandle" ∧ (parseMethodDescriptor yX2_standingTrees.desc).map (fun d => d.parameters.length) = some 0 := by decide +kernel
theorem dd_X1_lay : yX1_lay.cls = RX1 ∧ yX1_lay.cls ≠ "java/lang/invoke/MethodHandle" ∧ yX1_lay.cls ≠ "java/lang/invoke/VarHandle" ∧ (parseMethodDescriptor yX1_lay.desc).map (fun d => d.parameters.length) = some 3 := by decide +kernel
theorem w_X1_run_f9 : Cond.fieldLink yX1_run.cls 9 (TX2 8).1 (TX2 8).2.1 (TX2 8).2.2.1 ∈ uX1_run := List.mem_cons_of_mem _ (wU_r20 _ (List.mem_of_getElem? (i := 22) rfl))
theorem g_X1_run_15 : GoodIn uX1_run (wsV yX1_run.cls 15 RX1 yX1_decide uX1_decide) := gU_V (wU_r20 _ (List.mem_of_getElem? (i := 23) rfl)) (wU_r21 _ (List.mem_of_getElem? (i := 0) rfl)) (wU_r21 _ (List.mem_of_getElem? (i := 1) rfl)) (wU_r1 _ (List.mem_of_getElem? (i := 23) rfl)) (wU_r21 _ (List.mem_of_getElem? (i := 2) rfl))
theorem g_X1_run_21 : GoodIn uX1_run (wsV yX1_run.cls 21 RX2 yX2_standingTrees uX2_standingTrees) := gU_V (wU_r23 _ (List.mem_of_getElem? (i := 22) rfl)) (wU_r23 _ (List.mem_of_getElem? (i := 23) rfl)) (wU_r24 _ (List.mem_of_getElem? (i := 0) rfl)) (wU_r1 _ (List.mem_of_getElem? (i := 15) rfl)) (wU_r24 _ (List.mem_of_getElem? (i := 1) rfl))
theorem g_X1_run_25 : GoodIn uX1_run (wsV yX1_run.cls 25 RX1 yX1_lay uX1_lay) := gU_V (wU_r24 _ (List.mem_of_getElem? (i := 5) rfl)) (wU_r24 _ (List.mem_of_getElem? (i := 6) rfl)) (wU_r24 _ (List.mem_of_getElem? (i := 7) rfl)) (wU_r1 _ (List.mem_of_getElem? (i := 23) rfl)) (wU_r24 _ (List.mem_of_getElem? (i := 8) rfl))
def f_X1_run (p1 : Nat) (p2 : Nat) (p3 : Int32) (S : aSt) : Option (Unit × aSt) := (aB (f_X1_decide (p1 + 3) (p2) p3 S) (fun r1_ S1 => (aB (f_X2_standingTrees (p1) S1) (fun r2_ S2 => (aB (f_X1_lay (p1) (p2) r2_ S2) (fun r3_ S3 => (some ((), S3))))))))
set_option maxRecDepth 20000 in
set_option maxHeartbeats 4000000 in
theorem m_X1_run {G : aG} (hC : aCo G) (p1 : Nat) (q1 : aGr G p1) (p2 : Nat) (q2 : aTr G p2) (p3 : Int32) (S : aSt) : aMet G yX1_run uX1_run 7 mk_v (f_X1_run p1 p2 p3 S) [.ref (29), .ref (p1), .ref (p2), .int p3] S := by
  refine x_met (cc := cX1_run) (nL := 4) (ret := none) (L := [some (.ref (29)), some (.ref (p1)), some (.ref (p2)), some (.int p3)]) (by decide +kernel) rfl (And.intro rfl (And.intro rfl (And.intro rfl (And.intro rfl trivial)))) (Nat.le_of_ble_eq_true rfl) ?_
  unfold f_X1_run
  refine x_aload_n dX1_run_0 rfl rfl ?_
  refine x_aload_n dX1_run_1 rfl rfl ?_
  refine x_getR (r := p1 + 3) (k := p1) (j := 8) dX1_run_2 q1.1 rfl rfl (Nat.le_of_ble_eq_true rfl) (fun w h => List.mem_cons_of_mem _ (inlX2 w h)) w_X1_run_f9 ?_
  refine x_aload_n dX1_run_5 rfl rfl ?_
  refine x_iload_n dX1_run_6 rfl rfl ?_
  refine x_b (fun r1_ S1 e1 => ?_)
  refine x_callVv (As := [.ref (p1 + 3), .ref (p2), .int p3]) dX1_run_7 (aMet_of e1 (m_X1_decide hC (p1 + 3) q1.2.2.2.1 (p2) q2 p3 S)) g_X1_run_15 rfl hC rfl dd_X1_decide rfl rfl (Nat.le_of_ble_eq_true rfl) (Nat.le_of_ble_eq_true rfl) (Nat.le_of_ble_eq_true rfl) ?_
  refine x_aload_n dX1_run_10 rfl rfl ?_
  refine x_aload_n dX1_run_11 rfl rfl ?_
  refine x_aload_n dX1_run_12 rfl rfl ?_
  refine x_aload_n dX1_run_13 rfl rfl ?_
  refine x_b (fun r2_ S2 e2 => ?_)
  refine x_callVi (As := []) dX1_run_14 (aMet_of e2 (m_X2_standingTrees (p1) q1 S1)) g_X1_run_21 rfl q1.1 rfl dd_X2_standingTrees rfl rfl (Nat.le_of_ble_eq_true rfl) (Nat.le_of_ble_eq_true rfl) (Nat.le_of_ble_eq_true rfl) ?_
  refine x_b (fun r3_ S3 e3 => ?_)
  refine x_callVv (As := [.ref (p1), .ref (p2), .int r2_]) dX1_run_17 (aMet_of e3 (m_X1_lay hC (p1) q1 (p2) q2 r2_ S2)) g_X1_run_25 rfl hC rfl dd_X1_lay rfl rfl (Nat.le_of_ble_eq_true rfl) (Nat.le_of_ble_eq_true rfl) (Nat.le_of_ble_eq_true rfl) ?_
  exact x_vret dX1_run_20 rfl
theorem w_X0_begin_f15 : Cond.fieldLink yX0_begin.cls 15 (TX0 1).1 (TX0 1).2.1 (TX0 1).2.2.1 ∈ uX0_begin := List.mem_cons_of_mem _ (wU_r36 _ (List.mem_of_getElem? (i := 8) rfl))
theorem w_X0_begin_f9 : Cond.fieldLink yX0_begin.cls 9 (TX0 0).1 (TX0 0).2.1 (TX0 0).2.2.1 ∈ uX0_begin := List.mem_cons_of_mem _ (wU_r4 _ (List.mem_of_getElem? (i := 9) rfl))
def f_X0_begin_19   (S : aSt) : Option (Unit × aSt) := (aLt (aUi S (30) 1 ((S.1 (30) 1) + (1 : Int32))) (fun S2 => (some ((), S2))))
set_option maxRecDepth 20000 in
set_option maxHeartbeats 4000000 in
theorem v_X0_begin_19 {G : aG} (hB : aBo G)  (S : aSt) : aX G yX0_begin cX0_begin 2 none uX0_begin 2 mk_v (f_X0_begin_19 S) 19 [some (.ref (30)), none] [] S := by
  unfold f_X0_begin_19
  refine x_aload_n dX0_begin_19 rfl rfl ?_
  refine x_dup dX0_begin_20 rfl ?_
  refine x_getI (k := 30) (j := 1) dX0_begin_21 hB.1 rfl rfl (Nat.le_of_ble_eq_true rfl) (fun w h => List.mem_cons_of_mem _ (inlX0 w h)) w_X0_begin_f15 ?_
  refine x_iconst (1 : Int32) dX0_begin_24 (by decide) ?_
  refine x_iadd dX0_begin_25 ?_
  refine x_putI (k := 30) (j := 1) dX0_begin_26 hB.1 rfl rfl (Nat.le_of_ble_eq_true rfl) (fun w h => List.mem_cons_of_mem _ (inlX0 w h)) w_X0_begin_f15 tyX0 tyX0_ok nmX0 rfl (by decide +kernel) ?_
  refine x_ltS (fun S2 => ?_)
  exact x_vret dX0_begin_29 rfl
def f_X0_begin (p1 : Int32) (S : aSt) : Option (Unit × aSt) := (if (20 : Int32) ≤ (S.1 (30) 1) then (f_X0_begin_19 S) else (if (S.1 (30) 1) < 0 ∨ 20 ≤ ((S.1 (30) 1)).toNatClampNeg then none else (aLt (aUi S (31) ((S.1 (30) 1)).toNatClampNeg p1) (fun S1 => (f_X0_begin_19 S1)))))
set_option maxRecDepth 20000 in
set_option maxHeartbeats 4000000 in
theorem m_X0_begin {G : aG} (hB : aBo G) (p1 : Int32) (S : aSt) : aMet G yX0_begin uX0_begin 2 mk_v (f_X0_begin p1 S) [.ref (30), .int p1] S := by
  refine x_met (cc := cX0_begin) (nL := 2) (ret := none) (L := [some (.ref (30)), some (.int p1)]) (by decide +kernel) rfl (And.intro rfl (And.intro rfl trivial)) (Nat.le_of_ble_eq_true rfl) ?_
  unfold f_X0_begin
  refine x_aload_n dX0_begin_0 rfl rfl ?_
  refine x_getI (k := 30) (j := 1) dX0_begin_1 hB.1 rfl rfl (Nat.le_of_ble_eq_true rfl) (fun w h => List.mem_cons_of_mem _ (inlX0 w h)) w_X0_begin_f15 ?_
  refine x_bipush (20 : Int32) dX0_begin_4 (by decide) ?_
  refine x_icmp_ge (tgt := 19) dX0_begin_6 (by decide) ?_ ?_
  · exact x_le (v_X0_begin_19 hB S) (And.intro rfl trivial)
  · refine x_aload_n dX0_begin_9 rfl rfl ?_
    refine x_getR (r := 31) (k := 30) (j := 0) dX0_begin_10 hB.1 rfl rfl (Nat.le_of_ble_eq_true rfl) (fun w h => List.mem_cons_of_mem _ (inlX0 w h)) w_X0_begin_f9 ?_
    refine x_aload_n dX0_begin_13 rfl rfl ?_
    refine x_getI (k := 30) (j := 1) dX0_begin_14 hB.1 rfl rfl (Nat.le_of_ble_eq_true rfl) (fun w h => List.mem_cons_of_mem _ (inlX0 w h)) w_X0_begin_f15 ?_
    refine x_iload_n dX0_begin_17 rfl rfl ?_
    refine x_iast dX0_begin_18 hB.2 ?_
    refine x_ltS (fun S1 => ?_)
    exact x_le (v_X0_begin_19 hB S1) (And.intro rfl trivial)
theorem dd_X0_begin : yX0_begin.cls = RX0 ∧ yX0_begin.cls ≠ "java/lang/invoke/MethodHandle" ∧ yX0_begin.cls ≠ "java/lang/invoke/VarHandle" ∧ (parseMethodDescriptor yX0_begin.desc).map (fun d => d.parameters.length) = some 1 := by decide +kernel
theorem dd_X0_leans : yX0_leans.cls = RX0 ∧ yX0_leans.cls ≠ "java/lang/invoke/MethodHandle" ∧ yX0_leans.cls ≠ "java/lang/invoke/VarHandle" ∧ (parseMethodDescriptor yX0_leans.desc).map (fun d => d.parameters.length) = some 3 := by decide +kernel
theorem g_X0_leans_34 : GoodIn uX0_leans (wsV yX0_leans.cls 34 RX0 yX0_begin uX0_begin) := gU_V (wU_r36 _ (List.mem_of_getElem? (i := 4) rfl)) (wU_r36 _ (List.mem_of_getElem? (i := 5) rfl)) (wU_r36 _ (List.mem_of_getElem? (i := 6) rfl)) (wU_r2 _ (List.mem_of_getElem? (i := 3) rfl)) (wU_r36 _ (List.mem_of_getElem? (i := 7) rfl))
theorem g_X0_leans_24 : GoodIn uX0_leans (wsV yX0_leans.cls 24 RX0 yX0_leans uX0_leans) := gU_V (wU_r35 _ (List.mem_of_getElem? (i := 23) rfl)) (wU_r36 _ (List.mem_of_getElem? (i := 0) rfl)) (wU_r36 _ (List.mem_of_getElem? (i := 1) rfl)) (wU_r2 _ (List.mem_of_getElem? (i := 3) rfl)) (wU_r36 _ (List.mem_of_getElem? (i := 2) rfl))
theorem w_X0_leans_f38 : Cond.fieldLink yX0_leans.cls 38 (TX4 0).1 (TX4 0).2.1 (TX4 0).2.2.1 ∈ uX0_leans := List.mem_cons_of_mem _ (wU_r36 _ (List.mem_of_getElem? (i := 3) rfl))
def f_X0_leans_71 (c_X0_leans : Nat → Int32 → Int32 → aSt → Option (Int32 × aSt))  (l1 : Nat) (l3 : Int32) (S : aSt) : Option (Int32 × aSt) := (aB (f_X0_begin (1 : Int32) S) (fun r3_ S3 => (some ((l3 + (S3.1 (l1) 0)), S3))))
set_option maxRecDepth 20000 in
set_option maxHeartbeats 4000000 in
theorem v_X0_leans_71 {G : aG} (hB : aBo G) {d dc : Nat} (hdc : dc + 1 ≤ d) (hd0 : 3 ≤ d) (c_X0_leans : Nat → Int32 → Int32 → aSt → Option (Int32 × aSt)) (hc_X0_leans : ∀ (z1 : Nat) (y1 : aTr G z1) (z2 : Int32) (z3 : Int32) (S : aSt), aMet G yX0_leans uX0_leans dc mk_i (c_X0_leans z1 z2 z3 S) [.ref (30), .ref (z1), .int z2, .int z3] S) (l1 : Nat) (ql1 : aTr G l1) (l3 : Int32) (S : aSt) : aX G yX0_leans cX0_leans 4 (some .int) uX0_leans d mk_i (f_X0_leans_71 c_X0_leans l1 l3 S) 71 [some (.ref (30)), some (.ref (l1)), none, some (.int l3)] [] S := by
  unfold f_X0_leans_71
  refine x_aload_n dX0_leans_71 rfl rfl ?_
  refine x_iconst (1 : Int32) dX0_leans_72 (by decide) ?_
  refine x_b (fun r3_ S3 e3 => ?_)
  refine x_callVv (As := [.int (1 : Int32)]) dX0_leans_73 (aMet_of e3 (m_X0_begin hB (1 : Int32) S)) g_X0_leans_34 rfl hB.1 rfl dd_X0_begin rfl rfl (Nat.le_of_ble_eq_true rfl) (Nat.le_trans (Nat.le_of_ble_eq_true rfl : 3 ≤ 3) hd0) (Nat.le_of_ble_eq_true rfl) ?_
  refine x_iload_n dX0_leans_76 rfl rfl ?_
  refine x_aload_n dX0_leans_77 rfl rfl ?_
  refine x_getI (k := l1) (j := 0) dX0_leans_78 ql1.1 rfl rfl (Nat.le_of_ble_eq_true rfl) (fun w h => List.mem_cons_of_mem _ (inlX4 w h)) w_X0_leans_f38 ?_
  refine x_iadd dX0_leans_81 ?_
  exact x_iret dX0_leans_82 rfl
def f_X0_leans_36 (c_X0_leans : Nat → Int32 → Int32 → aSt → Option (Int32 × aSt))  (l1 : Nat) (l3 : Int32) (S : aSt) : Option (Int32 × aSt) := (aB (f_X0_begin (11 : Int32) S) (fun r4_ S4 => (aB (c_X0_leans (l1) (0 : Int32) (l3 * (3 : Int32)) S4) (fun r5_ S5 => (some (r5_, S5))))))
set_option maxRecDepth 20000 in
set_option maxHeartbeats 4000000 in
theorem v_X0_leans_36 {G : aG} (hB : aBo G) {d dc : Nat} (hdc : dc + 1 ≤ d) (hd0 : 3 ≤ d) (c_X0_leans : Nat → Int32 → Int32 → aSt → Option (Int32 × aSt)) (hc_X0_leans : ∀ (z1 : Nat) (y1 : aTr G z1) (z2 : Int32) (z3 : Int32) (S : aSt), aMet G yX0_leans uX0_leans dc mk_i (c_X0_leans z1 z2 z3 S) [.ref (30), .ref (z1), .int z2, .int z3] S) (l1 : Nat) (ql1 : aTr G l1) (l3 : Int32) (S : aSt) : aX G yX0_leans cX0_leans 4 (some .int) uX0_leans d mk_i (f_X0_leans_36 c_X0_leans l1 l3 S) 36 [some (.ref (30)), some (.ref (l1)), none, some (.int l3)] [] S := by
  unfold f_X0_leans_36
  refine x_aload_n dX0_leans_36 rfl rfl ?_
  refine x_bipush (11 : Int32) dX0_leans_37 (by decide) ?_
  refine x_b (fun r4_ S4 e4 => ?_)
  refine x_callVv (As := [.int (11 : Int32)]) dX0_leans_39 (aMet_of e4 (m_X0_begin hB (11 : Int32) S)) g_X0_leans_34 rfl hB.1 rfl dd_X0_begin rfl rfl (Nat.le_of_ble_eq_true rfl) (Nat.le_trans (Nat.le_of_ble_eq_true rfl : 3 ≤ 3) hd0) (Nat.le_of_ble_eq_true rfl) ?_
  refine x_aload_n dX0_leans_42 rfl rfl ?_
  refine x_aload_n dX0_leans_43 rfl rfl ?_
  refine x_iconst (0 : Int32) dX0_leans_44 (by decide) ?_
  refine x_iload_n dX0_leans_45 rfl rfl ?_
  refine x_iconst (3 : Int32) dX0_leans_46 (by decide) ?_
  refine x_imul dX0_leans_47 ?_
  refine x_b (fun r5_ S5 e5 => ?_)
  refine x_callVi (As := [.ref (l1), .int (0 : Int32), .int (l3 * (3 : Int32))]) dX0_leans_48 (aMet_of e5 (hc_X0_leans (l1) ql1 (0 : Int32) (l3 * (3 : Int32)) S4)) g_X0_leans_24 rfl hB.1 rfl dd_X0_leans rfl rfl (Nat.le_of_ble_eq_true rfl) hdc (Nat.le_of_ble_eq_true rfl) ?_
  exact x_iret dX0_leans_51 rfl
def f_X0_leans (c_X0_leans : Nat → Int32 → Int32 → aSt → Option (Int32 × aSt)) (p1 : Nat) (p2 : Int32) (p3 : Int32) (S : aSt) : Option (Int32 × aSt) := (if p2 = (1 : Int32) then (f_X0_leans_36 c_X0_leans (p1) p3 S) else (if p2 = (2 : Int32) then (f_X0_leans_71 c_X0_leans (p1) p3 S) else (if p2 = (3 : Int32) then (f_X0_leans_71 c_X0_leans (p1) p3 S) else (if p2 = (4 : Int32) then (f_X0_leans_36 c_X0_leans (p1) p3 S) else (if p2 = (5 : Int32) then (aB (f_X0_begin (51 : Int32) S) (fun r1_ S1 => (aB (c_X0_leans (p1) (2 : Int32) p3 S1) (fun r2_ S2 => (some ((r2_ ^^^ (S2.1 (p1) 0)), S2)))))) else (f_X0_leans_71 c_X0_leans (p1) p3 S))))))
set_option maxRecDepth 20000 in
set_option maxHeartbeats 4000000 in
theorem m_X0_leans {G : aG} (hB : aBo G) {d dc : Nat} (hdc : dc + 1 ≤ d) (hd0 : 3 ≤ d) (c_X0_leans : Nat → Int32 → Int32 → aSt → Option (Int32 × aSt)) (hc_X0_leans : ∀ (z1 : Nat) (y1 : aTr G z1) (z2 : Int32) (z3 : Int32) (S : aSt), aMet G yX0_leans uX0_leans dc mk_i (c_X0_leans z1 z2 z3 S) [.ref (30), .ref (z1), .int z2, .int z3] S) (p1 : Nat) (q1 : aTr G p1) (p2 : Int32) (p3 : Int32) (S : aSt) : aMet G yX0_leans uX0_leans d mk_i (f_X0_leans c_X0_leans p1 p2 p3 S) [.ref (30), .ref (p1), .int p2, .int p3] S := by
  refine x_met (cc := cX0_leans) (nL := 4) (ret := (some .int)) (L := [some (.ref (30)), some (.ref (p1)), some (.int p2), some (.int p3)]) (by decide +kernel) rfl (And.intro rfl (And.intro rfl (And.intro rfl (And.intro rfl trivial)))) (Nat.le_of_ble_eq_true rfl) ?_
  unfold f_X0_leans
  refine x_iload_n dX0_leans_0 rfl rfl ?_
  refine x_sw (1 : Int32) ?_ (fun hv0 => ?_)
  · refine x_tabIn (off := 35) (tgt := 36) dX0_leans_1 (by decide) (by decide) (by decide) (by decide) ?_
    exact x_le (v_X0_leans_36 hB hdc hd0 c_X0_leans hc_X0_leans (p1) q1 p3 S) (And.intro rfl (And.intro rfl (And.intro rfl trivial)))
  · refine x_sw (2 : Int32) ?_ (fun hv1 => ?_)
    · refine x_tabIn (off := 70) (tgt := 71) dX0_leans_1 (by decide) (by decide) (by decide) (by decide) ?_
      exact x_le (v_X0_leans_71 hB hdc hd0 c_X0_leans hc_X0_leans (p1) q1 p3 S) (And.intro rfl (And.intro rfl (And.intro rfl trivial)))
    · refine x_sw (3 : Int32) ?_ (fun hv2 => ?_)
      · refine x_tabIn (off := 70) (tgt := 71) dX0_leans_1 (by decide) (by decide) (by decide) (by decide) ?_
        exact x_le (v_X0_leans_71 hB hdc hd0 c_X0_leans hc_X0_leans (p1) q1 p3 S) (And.intro rfl (And.intro rfl (And.intro rfl trivial)))
      · refine x_sw (4 : Int32) ?_ (fun hv3 => ?_)
        · refine x_tabIn (off := 35) (tgt := 36) dX0_leans_1 (by decide) (by decide) (by decide) (by decide) ?_
          exact x_le (v_X0_leans_36 hB hdc hd0 c_X0_leans hc_X0_leans (p1) q1 p3 S) (And.intro rfl (And.intro rfl (And.intro rfl trivial)))
        · refine x_sw (5 : Int32) ?_ (fun hv4 => ?_)
          · refine x_tabIn (off := 51) (tgt := 52) dX0_leans_1 (by decide) (by decide) (by decide) (by decide) ?_
            refine x_aload_n dX0_leans_52 rfl rfl ?_
            refine x_bipush (51 : Int32) dX0_leans_53 (by decide) ?_
            refine x_b (fun r1_ S1 e1 => ?_)
            refine x_callVv (As := [.int (51 : Int32)]) dX0_leans_55 (aMet_of e1 (m_X0_begin hB (51 : Int32) S)) g_X0_leans_34 rfl hB.1 rfl dd_X0_begin rfl rfl (Nat.le_of_ble_eq_true rfl) (Nat.le_trans (Nat.le_of_ble_eq_true rfl : 3 ≤ 3) hd0) (Nat.le_of_ble_eq_true rfl) ?_
            refine x_aload_n dX0_leans_58 rfl rfl ?_
            refine x_aload_n dX0_leans_59 rfl rfl ?_
            refine x_iconst (2 : Int32) dX0_leans_60 (by decide) ?_
            refine x_iload_n dX0_leans_61 rfl rfl ?_
            refine x_b (fun r2_ S2 e2 => ?_)
            refine x_callVi (As := [.ref (p1), .int (2 : Int32), .int p3]) dX0_leans_62 (aMet_of e2 (hc_X0_leans (p1) q1 (2 : Int32) p3 S1)) g_X0_leans_24 rfl hB.1 rfl dd_X0_leans rfl rfl (Nat.le_of_ble_eq_true rfl) hdc (Nat.le_of_ble_eq_true rfl) ?_
            refine x_aload_n dX0_leans_65 rfl rfl ?_
            refine x_getI (k := p1) (j := 0) dX0_leans_66 q1.1 rfl rfl (Nat.le_of_ble_eq_true rfl) (fun w h => List.mem_cons_of_mem _ (inlX4 w h)) w_X0_leans_f38 ?_
            refine x_ixor dX0_leans_69 ?_
            exact x_iret dX0_leans_70 rfl
          · refine x_tabOut (tgt := 71) dX0_leans_1 (a_out 5 [(1 : Int32), (2 : Int32), (3 : Int32), (4 : Int32), (5 : Int32)] (by decide) (by decide +kernel) (List.forall_mem_cons.mpr ⟨hv0, (List.forall_mem_cons.mpr ⟨hv1, (List.forall_mem_cons.mpr ⟨hv2, (List.forall_mem_cons.mpr ⟨hv3, (List.forall_mem_cons.mpr ⟨hv4, (fun _ h => absurd h List.not_mem_nil)⟩)⟩)⟩)⟩)⟩)) (by decide) ?_
            exact x_le (v_X0_leans_71 hB hdc hd0 c_X0_leans hc_X0_leans (p1) q1 p3 S) (And.intro rfl (And.intro rfl (And.intro rfl trivial)))
def g_X0_leans : Nat → Nat → Nat → Int32 → Int32 → aSt → Option (Int32 × aSt)
  | 0, _, _, _, _, _ => none
  | n + 1, _, z0, z1, z2, S => f_X0_leans (fun z0 z1 z2 S => g_X0_leans n 0 z0 z1 z2 S) z0 z1 z2 S
theorem gm_X0_leans {G : aG} (hB : aBo G) : ∀ n : Nat, (∀ (z1 : Nat) (y1 : aTr G z1) (z2 : Int32) (z3 : Int32) (S : aSt), aMet G yX0_leans uX0_leans (3 + n) mk_i (g_X0_leans n 0 z1 z2 z3 S) [.ref (30), .ref (z1), .int z2, .int z3] S) := by
  intro n
  induction n with
  | zero => exact fun _ _ _ _ _ => aMet_none
  | succ n ih => exact fun z1 y1 z2 z3 S => m_X0_leans hB (d := 3 + (n + 1)) (dc := 3 + n) (Nat.le_refl _) (by omega) _ ih z1 y1 z2 z3 S
def f_X0_leans_k : Nat → Int32 → Int32 → aSt → Option (Int32 × aSt) := g_X0_leans 3 0
theorem m_X0_leans_k {G : aG} (hB : aBo G) : ∀ (z1 : Nat) (y1 : aTr G z1) (z2 : Int32) (z3 : Int32) (S : aSt), aMet G yX0_leans uX0_leans 6 mk_i (f_X0_leans_k z1 z2 z3 S) [.ref (30), .ref (z1), .int z2, .int z3] S := (gm_X0_leans hB 3)
theorem dd_X0_holds : yX0_holds.cls = RX0 ∧ yX0_holds.cls ≠ "java/lang/invoke/MethodHandle" ∧ yX0_holds.cls ≠ "java/lang/invoke/VarHandle" ∧ (parseMethodDescriptor yX0_holds.desc).map (fun d => d.parameters.length) = some 3 := by decide +kernel
theorem g_X0_holds_34 : GoodIn uX0_holds (wsV yX0_holds.cls 34 RX0 yX0_begin uX0_begin) := gU_V (wU_r36 _ (List.mem_of_getElem? (i := 4) rfl)) (wU_r36 _ (List.mem_of_getElem? (i := 5) rfl)) (wU_r36 _ (List.mem_of_getElem? (i := 6) rfl)) (wU_r2 _ (List.mem_of_getElem? (i := 3) rfl)) (wU_r36 _ (List.mem_of_getElem? (i := 7) rfl))
theorem g_X0_holds_28 : GoodIn uX0_holds (wsV yX0_holds.cls 28 RX0 yX0_holds uX0_holds) := gU_V (wU_r36 _ (List.mem_of_getElem? (i := 9) rfl)) (wU_r36 _ (List.mem_of_getElem? (i := 10) rfl)) (wU_r36 _ (List.mem_of_getElem? (i := 11) rfl)) (wU_r2 _ (List.mem_of_getElem? (i := 3) rfl)) (wU_r36 _ (List.mem_of_getElem? (i := 12) rfl))
theorem w_X0_holds_f41 : Cond.fieldLink yX0_holds.cls 41 (TX4 2).1 (TX4 2).2.1 (TX4 2).2.2.1 ∈ uX0_holds := List.mem_cons_of_mem _ (wU_r36 _ (List.mem_of_getElem? (i := 13) rfl))
theorem w_X0_holds_f19 : Cond.fieldLink yX0_holds.cls 19 (TX4 1).1 (TX4 1).2.1 (TX4 1).2.2.1 ∈ uX0_holds := List.mem_cons_of_mem _ (wU_r35 _ (List.mem_of_getElem? (i := 22) rfl))
theorem g_X0_holds_24 : GoodIn uX0_holds (wsV yX0_holds.cls 24 RX0 yX0_leans uX0_leans) := gU_V (wU_r35 _ (List.mem_of_getElem? (i := 23) rfl)) (wU_r36 _ (List.mem_of_getElem? (i := 0) rfl)) (wU_r36 _ (List.mem_of_getElem? (i := 1) rfl)) (wU_r2 _ (List.mem_of_getElem? (i := 3) rfl)) (wU_r36 _ (List.mem_of_getElem? (i := 2) rfl))
def f_X0_holds_70 (c_X0_holds : Nat → Int32 → Int32 → aSt → Option (Int32 × aSt))  (l1 : Nat) (l3 : Int32) (S : aSt) : Option (Int32 × aSt) := (aB (f_X0_begin (2 : Int32) S) (fun r3_ S3 => (aB (f_X0_leans_k (l1) (S3.1 (l1) 1) l3 S3) (fun r4_ S4 => (some ((r4_ - (S4.1 (l1) 2)), S4))))))
set_option maxRecDepth 20000 in
set_option maxHeartbeats 4000000 in
theorem v_X0_holds_70 {G : aG} (hB : aBo G) {d dc : Nat} (hdc : dc + 1 ≤ d) (hd0 : 7 ≤ d) (c_X0_holds : Nat → Int32 → Int32 → aSt → Option (Int32 × aSt)) (hc_X0_holds : ∀ (z1 : Nat) (y1 : aTr G z1) (z2 : Int32) (z3 : Int32) (S : aSt), aMet G yX0_holds uX0_holds dc mk_i (c_X0_holds z1 z2 z3 S) [.ref (30), .ref (z1), .int z2, .int z3] S) (l1 : Nat) (ql1 : aTr G l1) (l3 : Int32) (S : aSt) : aX G yX0_holds cX0_holds 4 (some .int) uX0_holds d mk_i (f_X0_holds_70 c_X0_holds l1 l3 S) 70 [some (.ref (30)), some (.ref (l1)), none, some (.int l3)] [] S := by
  unfold f_X0_holds_70
  refine x_aload_n dX0_holds_70 rfl rfl ?_
  refine x_iconst (2 : Int32) dX0_holds_71 (by decide) ?_
  refine x_b (fun r3_ S3 e3 => ?_)
  refine x_callVv (As := [.int (2 : Int32)]) dX0_holds_72 (aMet_of e3 (m_X0_begin hB (2 : Int32) S)) g_X0_holds_34 rfl hB.1 rfl dd_X0_begin rfl rfl (Nat.le_of_ble_eq_true rfl) (Nat.le_trans (Nat.le_of_ble_eq_true rfl : 3 ≤ 7) hd0) (Nat.le_of_ble_eq_true rfl) ?_
  refine x_aload_n dX0_holds_75 rfl rfl ?_
  refine x_aload_n dX0_holds_76 rfl rfl ?_
  refine x_aload_n dX0_holds_77 rfl rfl ?_
  refine x_getI (k := l1) (j := 1) dX0_holds_78 ql1.1 rfl rfl (Nat.le_of_ble_eq_true rfl) (fun w h => List.mem_cons_of_mem _ (inlX4 w h)) w_X0_holds_f19 ?_
  refine x_iload_n dX0_holds_81 rfl rfl ?_
  refine x_b (fun r4_ S4 e4 => ?_)
  refine x_callVi (As := [.ref (l1), .int (S3.1 (l1) 1), .int l3]) dX0_holds_82 (aMet_of e4 (m_X0_leans_k hB (l1) ql1 (S3.1 (l1) 1) l3 S3)) g_X0_holds_24 rfl hB.1 rfl dd_X0_leans rfl rfl (Nat.le_of_ble_eq_true rfl) (Nat.le_trans (Nat.le_of_ble_eq_true rfl : 7 ≤ 7) hd0) (Nat.le_of_ble_eq_true rfl) ?_
  refine x_aload_n dX0_holds_85 rfl rfl ?_
  refine x_getI (k := l1) (j := 2) dX0_holds_86 ql1.1 rfl rfl (Nat.le_of_ble_eq_true rfl) (fun w h => List.mem_cons_of_mem _ (inlX4 w h)) w_X0_holds_f41 ?_
  refine x_isub dX0_holds_89 ?_
  exact x_iret dX0_holds_90 rfl
def f_X0_holds_36 (c_X0_holds : Nat → Int32 → Int32 → aSt → Option (Int32 × aSt))  (l1 : Nat) (l3 : Int32) (S : aSt) : Option (Int32 × aSt) := (aB (f_X0_begin (21 : Int32) S) (fun r5_ S5 => (aB (c_X0_holds (l1) (0 : Int32) l3 S5) (fun r6_ S6 => (some ((-r6_), S6))))))
set_option maxRecDepth 20000 in
set_option maxHeartbeats 4000000 in
theorem v_X0_holds_36 {G : aG} (hB : aBo G) {d dc : Nat} (hdc : dc + 1 ≤ d) (hd0 : 7 ≤ d) (c_X0_holds : Nat → Int32 → Int32 → aSt → Option (Int32 × aSt)) (hc_X0_holds : ∀ (z1 : Nat) (y1 : aTr G z1) (z2 : Int32) (z3 : Int32) (S : aSt), aMet G yX0_holds uX0_holds dc mk_i (c_X0_holds z1 z2 z3 S) [.ref (30), .ref (z1), .int z2, .int z3] S) (l1 : Nat) (ql1 : aTr G l1) (l3 : Int32) (S : aSt) : aX G yX0_holds cX0_holds 4 (some .int) uX0_holds d mk_i (f_X0_holds_36 c_X0_holds l1 l3 S) 36 [some (.ref (30)), some (.ref (l1)), none, some (.int l3)] [] S := by
  unfold f_X0_holds_36
  refine x_aload_n dX0_holds_36 rfl rfl ?_
  refine x_bipush (21 : Int32) dX0_holds_37 (by decide) ?_
  refine x_b (fun r5_ S5 e5 => ?_)
  refine x_callVv (As := [.int (21 : Int32)]) dX0_holds_39 (aMet_of e5 (m_X0_begin hB (21 : Int32) S)) g_X0_holds_34 rfl hB.1 rfl dd_X0_begin rfl rfl (Nat.le_of_ble_eq_true rfl) (Nat.le_trans (Nat.le_of_ble_eq_true rfl : 3 ≤ 7) hd0) (Nat.le_of_ble_eq_true rfl) ?_
  refine x_aload_n dX0_holds_42 rfl rfl ?_
  refine x_aload_n dX0_holds_43 rfl rfl ?_
  refine x_iconst (0 : Int32) dX0_holds_44 (by decide) ?_
  refine x_iload_n dX0_holds_45 rfl rfl ?_
  refine x_b (fun r6_ S6 e6 => ?_)
  refine x_callVi (As := [.ref (l1), .int (0 : Int32), .int l3]) dX0_holds_46 (aMet_of e6 (hc_X0_holds (l1) ql1 (0 : Int32) l3 S5)) g_X0_holds_28 rfl hB.1 rfl dd_X0_holds rfl rfl (Nat.le_of_ble_eq_true rfl) hdc (Nat.le_of_ble_eq_true rfl) ?_
  refine x_ineg dX0_holds_49 ?_
  exact x_iret dX0_holds_50 rfl
def f_X0_holds (c_X0_holds : Nat → Int32 → Int32 → aSt → Option (Int32 × aSt)) (p1 : Nat) (p2 : Int32) (p3 : Int32) (S : aSt) : Option (Int32 × aSt) := (if p2 = (2 : Int32) then (f_X0_holds_36 c_X0_holds (p1) p3 S) else (if p2 = (3 : Int32) then (f_X0_holds_70 c_X0_holds (p1) p3 S) else (if p2 = (4 : Int32) then (f_X0_holds_70 c_X0_holds (p1) p3 S) else (if p2 = (5 : Int32) then (f_X0_holds_36 c_X0_holds (p1) p3 S) else (if p2 = (6 : Int32) then (aB (f_X0_begin (61 : Int32) S) (fun r1_ S1 => (aB (c_X0_holds (p1) (3 : Int32) p3 S1) (fun r2_ S2 => (some ((r2_ + (S2.1 (p1) 2)), S2)))))) else (f_X0_holds_70 c_X0_holds (p1) p3 S))))))
set_option maxRecDepth 20000 in
set_option maxHeartbeats 4000000 in
theorem m_X0_holds {G : aG} (hB : aBo G) {d dc : Nat} (hdc : dc + 1 ≤ d) (hd0 : 7 ≤ d) (c_X0_holds : Nat → Int32 → Int32 → aSt → Option (Int32 × aSt)) (hc_X0_holds : ∀ (z1 : Nat) (y1 : aTr G z1) (z2 : Int32) (z3 : Int32) (S : aSt), aMet G yX0_holds uX0_holds dc mk_i (c_X0_holds z1 z2 z3 S) [.ref (30), .ref (z1), .int z2, .int z3] S) (p1 : Nat) (q1 : aTr G p1) (p2 : Int32) (p3 : Int32) (S : aSt) : aMet G yX0_holds uX0_holds d mk_i (f_X0_holds c_X0_holds p1 p2 p3 S) [.ref (30), .ref (p1), .int p2, .int p3] S := by
  refine x_met (cc := cX0_holds) (nL := 4) (ret := (some .int)) (L := [some (.ref (30)), some (.ref (p1)), some (.int p2), some (.int p3)]) (by decide +kernel) rfl (And.intro rfl (And.intro rfl (And.intro rfl (And.intro rfl trivial)))) (Nat.le_of_ble_eq_true rfl) ?_
  unfold f_X0_holds
  refine x_iload_n dX0_holds_0 rfl rfl ?_
  refine x_sw (2 : Int32) ?_ (fun hv0 => ?_)
  · refine x_tabIn (off := 35) (tgt := 36) dX0_holds_1 (by decide) (by decide) (by decide) (by decide) ?_
    exact x_le (v_X0_holds_36 hB hdc hd0 c_X0_holds hc_X0_holds (p1) q1 p3 S) (And.intro rfl (And.intro rfl (And.intro rfl trivial)))
  · refine x_sw (3 : Int32) ?_ (fun hv1 => ?_)
    · refine x_tabIn (off := 69) (tgt := 70) dX0_holds_1 (by decide) (by decide) (by decide) (by decide) ?_
      exact x_le (v_X0_holds_70 hB hdc hd0 c_X0_holds hc_X0_holds (p1) q1 p3 S) (And.intro rfl (And.intro rfl (And.intro rfl trivial)))
    · refine x_sw (4 : Int32) ?_ (fun hv2 => ?_)
      · refine x_tabIn (off := 69) (tgt := 70) dX0_holds_1 (by decide) (by decide) (by decide) (by decide) ?_
        exact x_le (v_X0_holds_70 hB hdc hd0 c_X0_holds hc_X0_holds (p1) q1 p3 S) (And.intro rfl (And.intro rfl (And.intro rfl trivial)))
      · refine x_sw (5 : Int32) ?_ (fun hv3 => ?_)
        · refine x_tabIn (off := 35) (tgt := 36) dX0_holds_1 (by decide) (by decide) (by decide) (by decide) ?_
          exact x_le (v_X0_holds_36 hB hdc hd0 c_X0_holds hc_X0_holds (p1) q1 p3 S) (And.intro rfl (And.intro rfl (And.intro rfl trivial)))
        · refine x_sw (6 : Int32) ?_ (fun hv4 => ?_)
          · refine x_tabIn (off := 50) (tgt := 51) dX0_holds_1 (by decide) (by decide) (by decide) (by decide) ?_
            refine x_aload_n dX0_holds_51 rfl rfl ?_
            refine x_bipush (61 : Int32) dX0_holds_52 (by decide) ?_
            refine x_b (fun r1_ S1 e1 => ?_)
            refine x_callVv (As := [.int (61 : Int32)]) dX0_holds_54 (aMet_of e1 (m_X0_begin hB (61 : Int32) S)) g_X0_holds_34 rfl hB.1 rfl dd_X0_begin rfl rfl (Nat.le_of_ble_eq_true rfl) (Nat.le_trans (Nat.le_of_ble_eq_true rfl : 3 ≤ 7) hd0) (Nat.le_of_ble_eq_true rfl) ?_
            refine x_aload_n dX0_holds_57 rfl rfl ?_
            refine x_aload_n dX0_holds_58 rfl rfl ?_
            refine x_iconst (3 : Int32) dX0_holds_59 (by decide) ?_
            refine x_iload_n dX0_holds_60 rfl rfl ?_
            refine x_b (fun r2_ S2 e2 => ?_)
            refine x_callVi (As := [.ref (p1), .int (3 : Int32), .int p3]) dX0_holds_61 (aMet_of e2 (hc_X0_holds (p1) q1 (3 : Int32) p3 S1)) g_X0_holds_28 rfl hB.1 rfl dd_X0_holds rfl rfl (Nat.le_of_ble_eq_true rfl) hdc (Nat.le_of_ble_eq_true rfl) ?_
            refine x_aload_n dX0_holds_64 rfl rfl ?_
            refine x_getI (k := p1) (j := 2) dX0_holds_65 q1.1 rfl rfl (Nat.le_of_ble_eq_true rfl) (fun w h => List.mem_cons_of_mem _ (inlX4 w h)) w_X0_holds_f41 ?_
            refine x_iadd dX0_holds_68 ?_
            exact x_iret dX0_holds_69 rfl
          · refine x_tabOut (tgt := 70) dX0_holds_1 (a_out 5 [(2 : Int32), (3 : Int32), (4 : Int32), (5 : Int32), (6 : Int32)] (by decide) (by decide +kernel) (List.forall_mem_cons.mpr ⟨hv0, (List.forall_mem_cons.mpr ⟨hv1, (List.forall_mem_cons.mpr ⟨hv2, (List.forall_mem_cons.mpr ⟨hv3, (List.forall_mem_cons.mpr ⟨hv4, (fun _ h => absurd h List.not_mem_nil)⟩)⟩)⟩)⟩)⟩)) (by decide) ?_
            exact x_le (v_X0_holds_70 hB hdc hd0 c_X0_holds hc_X0_holds (p1) q1 p3 S) (And.intro rfl (And.intro rfl (And.intro rfl trivial)))
def g_X0_holds : Nat → Nat → Nat → Int32 → Int32 → aSt → Option (Int32 × aSt)
  | 0, _, _, _, _, _ => none
  | n + 1, _, z0, z1, z2, S => f_X0_holds (fun z0 z1 z2 S => g_X0_holds n 0 z0 z1 z2 S) z0 z1 z2 S
theorem gm_X0_holds {G : aG} (hB : aBo G) : ∀ n : Nat, (∀ (z1 : Nat) (y1 : aTr G z1) (z2 : Int32) (z3 : Int32) (S : aSt), aMet G yX0_holds uX0_holds (7 + n) mk_i (g_X0_holds n 0 z1 z2 z3 S) [.ref (30), .ref (z1), .int z2, .int z3] S) := by
  intro n
  induction n with
  | zero => exact fun _ _ _ _ _ => aMet_none
  | succ n ih => exact fun z1 y1 z2 z3 S => m_X0_holds hB (d := 7 + (n + 1)) (dc := 7 + n) (Nat.le_refl _) (by omega) _ ih z1 y1 z2 z3 S
def f_X0_holds_k : Nat → Int32 → Int32 → aSt → Option (Int32 × aSt) := g_X0_holds 3 0
theorem m_X0_holds_k {G : aG} (hB : aBo G) : ∀ (z1 : Nat) (y1 : aTr G z1) (z2 : Int32) (z3 : Int32) (S : aSt), aMet G yX0_holds uX0_holds 10 mk_i (f_X0_holds_k z1 z2 z3 S) [.ref (30), .ref (z1), .int z2, .int z3] S := (gm_X0_holds hB 3)
theorem dd_X0_tells : yX0_tells.cls = RX0 ∧ yX0_tells.cls ≠ "java/lang/invoke/MethodHandle" ∧ yX0_tells.cls ≠ "java/lang/invoke/VarHandle" ∧ (parseMethodDescriptor yX0_tells.desc).map (fun d => d.parameters.length) = some 3 := by decide +kernel
theorem g_X0_tells_34 : GoodIn uX0_tells (wsV yX0_tells.cls 34 RX0 yX0_begin uX0_begin) := gU_V (wU_r36 _ (List.mem_of_getElem? (i := 4) rfl)) (wU_r36 _ (List.mem_of_getElem? (i := 5) rfl)) (wU_r36 _ (List.mem_of_getElem? (i := 6) rfl)) (wU_r2 _ (List.mem_of_getElem? (i := 3) rfl)) (wU_r36 _ (List.mem_of_getElem? (i := 7) rfl))
theorem g_X0_tells_31 : GoodIn uX0_tells (wsV yX0_tells.cls 31 RX0 yX0_tells uX0_tells) := gU_V (wU_r36 _ (List.mem_of_getElem? (i := 14) rfl)) (wU_r36 _ (List.mem_of_getElem? (i := 15) rfl)) (wU_r36 _ (List.mem_of_getElem? (i := 16) rfl)) (wU_r2 _ (List.mem_of_getElem? (i := 3) rfl)) (wU_r36 _ (List.mem_of_getElem? (i := 17) rfl))
theorem w_X0_tells_f19 : Cond.fieldLink yX0_tells.cls 19 (TX4 1).1 (TX4 1).2.1 (TX4 1).2.2.1 ∈ uX0_tells := List.mem_cons_of_mem _ (wU_r35 _ (List.mem_of_getElem? (i := 22) rfl))
theorem g_X0_tells_24 : GoodIn uX0_tells (wsV yX0_tells.cls 24 RX0 yX0_leans uX0_leans) := gU_V (wU_r35 _ (List.mem_of_getElem? (i := 23) rfl)) (wU_r36 _ (List.mem_of_getElem? (i := 0) rfl)) (wU_r36 _ (List.mem_of_getElem? (i := 1) rfl)) (wU_r2 _ (List.mem_of_getElem? (i := 3) rfl)) (wU_r36 _ (List.mem_of_getElem? (i := 2) rfl))
theorem g_X0_tells_28 : GoodIn uX0_tells (wsV yX0_tells.cls 28 RX0 yX0_holds uX0_holds) := gU_V (wU_r36 _ (List.mem_of_getElem? (i := 9) rfl)) (wU_r36 _ (List.mem_of_getElem? (i := 10) rfl)) (wU_r36 _ (List.mem_of_getElem? (i := 11) rfl)) (wU_r2 _ (List.mem_of_getElem? (i := 3) rfl)) (wU_r36 _ (List.mem_of_getElem? (i := 12) rfl))
def f_X0_tells_80 (c_X0_tells : Nat → Int32 → Int32 → aSt → Option (Int32 × aSt))  (l1 : Nat) (l3 : Int32) (S : aSt) : Option (Int32 × aSt) := (aB (f_X0_begin (3 : Int32) S) (fun r4_ S4 => (aB (f_X0_holds_k (l1) (S4.1 (l1) 1) l3 S4) (fun r5_ S5 => (some ((r5_ * (2 : Int32)), S5))))))
set_option maxRecDepth 20000 in
set_option maxHeartbeats 4000000 in
theorem v_X0_tells_80 {G : aG} (hB : aBo G) {d dc : Nat} (hdc : dc + 1 ≤ d) (hd0 : 11 ≤ d) (c_X0_tells : Nat → Int32 → Int32 → aSt → Option (Int32 × aSt)) (hc_X0_tells : ∀ (z1 : Nat) (y1 : aTr G z1) (z2 : Int32) (z3 : Int32) (S : aSt), aMet G yX0_tells uX0_tells dc mk_i (c_X0_tells z1 z2 z3 S) [.ref (30), .ref (z1), .int z2, .int z3] S) (l1 : Nat) (ql1 : aTr G l1) (l3 : Int32) (S : aSt) : aX G yX0_tells cX0_tells 5 (some .int) uX0_tells d mk_i (f_X0_tells_80 c_X0_tells l1 l3 S) 80 [some (.ref (30)), some (.ref (l1)), none, some (.int l3), none] [] S := by
  unfold f_X0_tells_80
  refine x_aload_n dX0_tells_80 rfl rfl ?_
  refine x_iconst (3 : Int32) dX0_tells_81 (by decide) ?_
  refine x_b (fun r4_ S4 e4 => ?_)
  refine x_callVv (As := [.int (3 : Int32)]) dX0_tells_82 (aMet_of e4 (m_X0_begin hB (3 : Int32) S)) g_X0_tells_34 rfl hB.1 rfl dd_X0_begin rfl rfl (Nat.le_of_ble_eq_true rfl) (Nat.le_trans (Nat.le_of_ble_eq_true rfl : 3 ≤ 11) hd0) (Nat.le_of_ble_eq_true rfl) ?_
  refine x_aload_n dX0_tells_85 rfl rfl ?_
  refine x_aload_n dX0_tells_86 rfl rfl ?_
  refine x_aload_n dX0_tells_87 rfl rfl ?_
  refine x_getI (k := l1) (j := 1) dX0_tells_88 ql1.1 rfl rfl (Nat.le_of_ble_eq_true rfl) (fun w h => List.mem_cons_of_mem _ (inlX4 w h)) w_X0_tells_f19 ?_
  refine x_iload_n dX0_tells_91 rfl rfl ?_
  refine x_b (fun r5_ S5 e5 => ?_)
  refine x_callVi (As := [.ref (l1), .int (S4.1 (l1) 1), .int l3]) dX0_tells_92 (aMet_of e5 (m_X0_holds_k hB (l1) ql1 (S4.1 (l1) 1) l3 S4)) g_X0_tells_28 rfl hB.1 rfl dd_X0_holds rfl rfl (Nat.le_of_ble_eq_true rfl) (Nat.le_trans (Nat.le_of_ble_eq_true rfl : 11 ≤ 11) hd0) (Nat.le_of_ble_eq_true rfl) ?_
  refine x_iconst (2 : Int32) dX0_tells_95 (by decide) ?_
  refine x_imul dX0_tells_96 ?_
  exact x_iret dX0_tells_97 rfl
def f_X0_tells_32 (c_X0_tells : Nat → Int32 → Int32 → aSt → Option (Int32 × aSt))  (l1 : Nat) (l3 : Int32) (S : aSt) : Option (Int32 × aSt) := (aB (f_X0_begin (31 : Int32) S) (fun r6_ S6 => (aB (c_X0_tells (l1) (0 : Int32) l3 S6) (fun r7_ S7 => (some ((r7_ ^^^ (7 : Int32)), S7))))))
set_option maxRecDepth 20000 in
set_option maxHeartbeats 4000000 in
theorem v_X0_tells_32 {G : aG} (hB : aBo G) {d dc : Nat} (hdc : dc + 1 ≤ d) (hd0 : 11 ≤ d) (c_X0_tells : Nat → Int32 → Int32 → aSt → Option (Int32 × aSt)) (hc_X0_tells : ∀ (z1 : Nat) (y1 : aTr G z1) (z2 : Int32) (z3 : Int32) (S : aSt), aMet G yX0_tells uX0_tells dc mk_i (c_X0_tells z1 z2 z3 S) [.ref (30), .ref (z1), .int z2, .int z3] S) (l1 : Nat) (ql1 : aTr G l1) (l3 : Int32) (S : aSt) : aX G yX0_tells cX0_tells 5 (some .int) uX0_tells d mk_i (f_X0_tells_32 c_X0_tells l1 l3 S) 32 [some (.ref (30)), some (.ref (l1)), none, some (.int l3), none] [] S := by
  unfold f_X0_tells_32
  refine x_aload_n dX0_tells_32 rfl rfl ?_
  refine x_bipush (31 : Int32) dX0_tells_33 (by decide) ?_
  refine x_b (fun r6_ S6 e6 => ?_)
  refine x_callVv (As := [.int (31 : Int32)]) dX0_tells_35 (aMet_of e6 (m_X0_begin hB (31 : Int32) S)) g_X0_tells_34 rfl hB.1 rfl dd_X0_begin rfl rfl (Nat.le_of_ble_eq_true rfl) (Nat.le_trans (Nat.le_of_ble_eq_true rfl : 3 ≤ 11) hd0) (Nat.le_of_ble_eq_true rfl) ?_
  refine x_aload_n dX0_tells_38 rfl rfl ?_
  refine x_aload_n dX0_tells_39 rfl rfl ?_
  refine x_iconst (0 : Int32) dX0_tells_40 (by decide) ?_
  refine x_iload_n dX0_tells_41 rfl rfl ?_
  refine x_b (fun r7_ S7 e7 => ?_)
  refine x_callVi (As := [.ref (l1), .int (0 : Int32), .int l3]) dX0_tells_42 (aMet_of e7 (hc_X0_tells (l1) ql1 (0 : Int32) l3 S6)) g_X0_tells_31 rfl hB.1 rfl dd_X0_tells rfl rfl (Nat.le_of_ble_eq_true rfl) hdc (Nat.le_of_ble_eq_true rfl) ?_
  refine x_bipush (7 : Int32) dX0_tells_45 (by decide) ?_
  refine x_ixor dX0_tells_47 ?_
  exact x_iret dX0_tells_48 rfl
def f_X0_tells (c_X0_tells : Nat → Int32 → Int32 → aSt → Option (Int32 × aSt)) (p1 : Nat) (p2 : Int32) (p3 : Int32) (S : aSt) : Option (Int32 × aSt) := (if p2 = (3 : Int32) then (f_X0_tells_32 c_X0_tells (p1) p3 S) else (if p2 = (4 : Int32) then (aB (f_X0_begin (41 : Int32) S) (fun r1_ S1 => (aB (c_X0_tells (p1) (1 : Int32) (p3 - (1 : Int32)) S1) (fun r2_ S2 => (aB (f_X0_leans_k (p1) (S2.1 (p1) 1) (2 : Int32) S2) (fun r3_ S3 => (some ((r2_ + r3_), S3)))))))) else (if p2 = (5 : Int32) then (f_X0_tells_80 c_X0_tells (p1) p3 S) else (if p2 = (6 : Int32) then (f_X0_tells_32 c_X0_tells (p1) p3 S) else (f_X0_tells_80 c_X0_tells (p1) p3 S)))))
set_option maxRecDepth 20000 in
set_option maxHeartbeats 4000000 in
theorem m_X0_tells {G : aG} (hB : aBo G) {d dc : Nat} (hdc : dc + 1 ≤ d) (hd0 : 11 ≤ d) (c_X0_tells : Nat → Int32 → Int32 → aSt → Option (Int32 × aSt)) (hc_X0_tells : ∀ (z1 : Nat) (y1 : aTr G z1) (z2 : Int32) (z3 : Int32) (S : aSt), aMet G yX0_tells uX0_tells dc mk_i (c_X0_tells z1 z2 z3 S) [.ref (30), .ref (z1), .int z2, .int z3] S) (p1 : Nat) (q1 : aTr G p1) (p2 : Int32) (p3 : Int32) (S : aSt) : aMet G yX0_tells uX0_tells d mk_i (f_X0_tells c_X0_tells p1 p2 p3 S) [.ref (30), .ref (p1), .int p2, .int p3] S := by
  refine x_met (cc := cX0_tells) (nL := 5) (ret := (some .int)) (L := [some (.ref (30)), some (.ref (p1)), some (.int p2), some (.int p3), none]) (by decide +kernel) rfl (And.intro rfl (And.intro rfl (And.intro rfl (And.intro rfl trivial)))) (Nat.le_of_ble_eq_true rfl) ?_
  unfold f_X0_tells
  refine x_iload_n dX0_tells_0 rfl rfl ?_
  refine x_sw (3 : Int32) ?_ (fun hv0 => ?_)
  · refine x_tabIn (off := 31) (tgt := 32) dX0_tells_1 (by decide) (by decide) (by decide) (by decide) ?_
    exact x_le (v_X0_tells_32 hB hdc hd0 c_X0_tells hc_X0_tells (p1) q1 p3 S) (And.intro rfl (And.intro rfl (And.intro rfl trivial)))
  · refine x_sw (4 : Int32) ?_ (fun hv1 => ?_)
    · refine x_tabIn (off := 48) (tgt := 49) dX0_tells_1 (by decide) (by decide) (by decide) (by decide) ?_
      refine x_aload_n dX0_tells_49 rfl rfl ?_
      refine x_bipush (41 : Int32) dX0_tells_50 (by decide) ?_
      refine x_b (fun r1_ S1 e1 => ?_)
      refine x_callVv (As := [.int (41 : Int32)]) dX0_tells_52 (aMet_of e1 (m_X0_begin hB (41 : Int32) S)) g_X0_tells_34 rfl hB.1 rfl dd_X0_begin rfl rfl (Nat.le_of_ble_eq_true rfl) (Nat.le_trans (Nat.le_of_ble_eq_true rfl : 3 ≤ 11) hd0) (Nat.le_of_ble_eq_true rfl) ?_
      refine x_aload_n dX0_tells_55 rfl rfl ?_
      refine x_aload_n dX0_tells_56 rfl rfl ?_
      refine x_iconst (1 : Int32) dX0_tells_57 (by decide) ?_
      refine x_iload_n dX0_tells_58 rfl rfl ?_
      refine x_iconst (1 : Int32) dX0_tells_59 (by decide) ?_
      refine x_isub dX0_tells_60 ?_
      refine x_b (fun r2_ S2 e2 => ?_)
      refine x_callVi (As := [.ref (p1), .int (1 : Int32), .int (p3 - (1 : Int32))]) dX0_tells_61 (aMet_of e2 (hc_X0_tells (p1) q1 (1 : Int32) (p3 - (1 : Int32)) S1)) g_X0_tells_31 rfl hB.1 rfl dd_X0_tells rfl rfl (Nat.le_of_ble_eq_true rfl) hdc (Nat.le_of_ble_eq_true rfl) ?_
      refine x_istore dX0_tells_64 (Nat.le_of_ble_eq_true rfl) rfl ?_
      refine x_iload dX0_tells_66 rfl ?_
      refine x_aload_n dX0_tells_68 rfl rfl ?_
      refine x_aload_n dX0_tells_69 rfl rfl ?_
      refine x_aload_n dX0_tells_70 rfl rfl ?_
      refine x_getI (k := p1) (j := 1) dX0_tells_71 q1.1 rfl rfl (Nat.le_of_ble_eq_true rfl) (fun w h => List.mem_cons_of_mem _ (inlX4 w h)) w_X0_tells_f19 ?_
      refine x_iconst (2 : Int32) dX0_tells_74 (by decide) ?_
      refine x_b (fun r3_ S3 e3 => ?_)
      refine x_callVi (As := [.ref (p1), .int (S2.1 (p1) 1), .int (2 : Int32)]) dX0_tells_75 (aMet_of e3 (m_X0_leans_k hB (p1) q1 (S2.1 (p1) 1) (2 : Int32) S2)) g_X0_tells_24 rfl hB.1 rfl dd_X0_leans rfl rfl (Nat.le_of_ble_eq_true rfl) (Nat.le_trans (Nat.le_of_ble_eq_true rfl : 7 ≤ 11) hd0) (Nat.le_of_ble_eq_true rfl) ?_
      refine x_iadd dX0_tells_78 ?_
      exact x_iret dX0_tells_79 rfl
    · refine x_sw (5 : Int32) ?_ (fun hv2 => ?_)
      · refine x_tabIn (off := 79) (tgt := 80) dX0_tells_1 (by decide) (by decide) (by decide) (by decide) ?_
        exact x_le (v_X0_tells_80 hB hdc hd0 c_X0_tells hc_X0_tells (p1) q1 p3 S) (And.intro rfl (And.intro rfl (And.intro rfl trivial)))
      · refine x_sw (6 : Int32) ?_ (fun hv3 => ?_)
        · refine x_tabIn (off := 31) (tgt := 32) dX0_tells_1 (by decide) (by decide) (by decide) (by decide) ?_
          exact x_le (v_X0_tells_32 hB hdc hd0 c_X0_tells hc_X0_tells (p1) q1 p3 S) (And.intro rfl (And.intro rfl (And.intro rfl trivial)))
        · refine x_tabOut (tgt := 80) dX0_tells_1 (a_out 4 [(3 : Int32), (4 : Int32), (5 : Int32), (6 : Int32)] (by decide) (by decide +kernel) (List.forall_mem_cons.mpr ⟨hv0, (List.forall_mem_cons.mpr ⟨hv1, (List.forall_mem_cons.mpr ⟨hv2, (List.forall_mem_cons.mpr ⟨hv3, (fun _ h => absurd h List.not_mem_nil)⟩)⟩)⟩)⟩)) (by decide) ?_
          exact x_le (v_X0_tells_80 hB hdc hd0 c_X0_tells hc_X0_tells (p1) q1 p3 S) (And.intro rfl (And.intro rfl (And.intro rfl trivial)))
def g_X0_tells : Nat → Nat → Nat → Int32 → Int32 → aSt → Option (Int32 × aSt)
  | 0, _, _, _, _, _ => none
  | n + 1, _, z0, z1, z2, S => f_X0_tells (fun z0 z1 z2 S => g_X0_tells n 0 z0 z1 z2 S) z0 z1 z2 S
theorem gm_X0_tells {G : aG} (hB : aBo G) : ∀ n : Nat, (∀ (z1 : Nat) (y1 : aTr G z1) (z2 : Int32) (z3 : Int32) (S : aSt), aMet G yX0_tells uX0_tells (11 + n) mk_i (g_X0_tells n 0 z1 z2 z3 S) [.ref (30), .ref (z1), .int z2, .int z3] S) := by
  intro n
  induction n with
  | zero => exact fun _ _ _ _ _ => aMet_none
  | succ n ih => exact fun z1 y1 z2 z3 S => m_X0_tells hB (d := 11 + (n + 1)) (dc := 11 + n) (Nat.le_refl _) (by omega) _ ih z1 y1 z2 z3 S
def f_X0_tells_k : Nat → Int32 → Int32 → aSt → Option (Int32 × aSt) := g_X0_tells 3 0
theorem m_X0_tells_k {G : aG} (hB : aBo G) : ∀ (z1 : Nat) (y1 : aTr G z1) (z2 : Int32) (z3 : Int32) (S : aSt), aMet G yX0_tells uX0_tells 14 mk_i (f_X0_tells_k z1 z2 z3 S) [.ref (30), .ref (z1), .int z2, .int z3] S := (gm_X0_tells hB 3)
theorem w_X0_run_f19 : Cond.fieldLink yX0_run.cls 19 (TX4 1).1 (TX4 1).2.1 (TX4 1).2.2.1 ∈ uX0_run := List.mem_cons_of_mem _ (wU_r35 _ (List.mem_of_getElem? (i := 22) rfl))
theorem g_X0_run_31 : GoodIn uX0_run (wsV yX0_run.cls 31 RX0 yX0_tells uX0_tells) := gU_V (wU_r36 _ (List.mem_of_getElem? (i := 14) rfl)) (wU_r36 _ (List.mem_of_getElem? (i := 15) rfl)) (wU_r36 _ (List.mem_of_getElem? (i := 16) rfl)) (wU_r2 _ (List.mem_of_getElem? (i := 3) rfl)) (wU_r36 _ (List.mem_of_getElem? (i := 17) rfl))
theorem g_X0_run_28 : GoodIn uX0_run (wsV yX0_run.cls 28 RX0 yX0_holds uX0_holds) := gU_V (wU_r36 _ (List.mem_of_getElem? (i := 9) rfl)) (wU_r36 _ (List.mem_of_getElem? (i := 10) rfl)) (wU_r36 _ (List.mem_of_getElem? (i := 11) rfl)) (wU_r2 _ (List.mem_of_getElem? (i := 3) rfl)) (wU_r36 _ (List.mem_of_getElem? (i := 12) rfl))
theorem g_X0_run_24 : GoodIn uX0_run (wsV yX0_run.cls 24 RX0 yX0_leans uX0_leans) := gU_V (wU_r35 _ (List.mem_of_getElem? (i := 23) rfl)) (wU_r36 _ (List.mem_of_getElem? (i := 0) rfl)) (wU_r36 _ (List.mem_of_getElem? (i := 1) rfl)) (wU_r2 _ (List.mem_of_getElem? (i := 3) rfl)) (wU_r36 _ (List.mem_of_getElem? (i := 2) rfl))
def f_X0_run (p1 : Nat) (p2 : Int32) (p3 : Int32) (S : aSt) : Option (Int32 × aSt) := (if p2 = (0 : Int32) then (aB (f_X0_leans_k (p1) (S.1 (p1) 1) p3 S) (fun r3_ S3 => (some (r3_, S3)))) else (if p2 = (1 : Int32) then (aB (f_X0_holds_k (p1) (S.1 (p1) 1) p3 S) (fun r2_ S2 => (some (r2_, S2)))) else (if p2 = (2 : Int32) then (aB (f_X0_tells_k (p1) (S.1 (p1) 1) p3 S) (fun r1_ S1 => (some (r1_, S1)))) else (some ((0 : Int32), S)))))
set_option maxRecDepth 20000 in
set_option maxHeartbeats 4000000 in
theorem m_X0_run {G : aG} (hB : aBo G) (p1 : Nat) (q1 : aTr G p1) (p2 : Int32) (p3 : Int32) (S : aSt) : aMet G yX0_run uX0_run 15 mk_i (f_X0_run p1 p2 p3 S) [.ref (30), .ref (p1), .int p2, .int p3] S := by
  refine x_met (cc := cX0_run) (nL := 4) (ret := (some .int)) (L := [some (.ref (30)), some (.ref (p1)), some (.int p2), some (.int p3)]) (by decide +kernel) rfl (And.intro rfl (And.intro rfl (And.intro rfl (And.intro rfl trivial)))) (Nat.le_of_ble_eq_true rfl) ?_
  unfold f_X0_run
  refine x_iload_n dX0_run_0 rfl rfl ?_
  refine x_sw (0 : Int32) ?_ (fun hv0 => ?_)
  · refine x_tabIn (off := 27) (tgt := 28) dX0_run_1 (by decide) (by decide) (by decide) (by decide) ?_
    refine x_aload_n dX0_run_28 rfl rfl ?_
    refine x_aload_n dX0_run_29 rfl rfl ?_
    refine x_aload_n dX0_run_30 rfl rfl ?_
    refine x_getI (k := p1) (j := 1) dX0_run_31 q1.1 rfl rfl (Nat.le_of_ble_eq_true rfl) (fun w h => List.mem_cons_of_mem _ (inlX4 w h)) w_X0_run_f19 ?_
    refine x_iload_n dX0_run_34 rfl rfl ?_
    refine x_b (fun r3_ S3 e3 => ?_)
    refine x_callVi (As := [.ref (p1), .int (S.1 (p1) 1), .int p3]) dX0_run_35 (aMet_of e3 (m_X0_leans_k hB (p1) q1 (S.1 (p1) 1) p3 S)) g_X0_run_24 rfl hB.1 rfl dd_X0_leans rfl rfl (Nat.le_of_ble_eq_true rfl) (Nat.le_of_ble_eq_true rfl) (Nat.le_of_ble_eq_true rfl) ?_
    exact x_iret dX0_run_38 rfl
  · refine x_sw (1 : Int32) ?_ (fun hv1 => ?_)
    · refine x_tabIn (off := 38) (tgt := 39) dX0_run_1 (by decide) (by decide) (by decide) (by decide) ?_
      refine x_aload_n dX0_run_39 rfl rfl ?_
      refine x_aload_n dX0_run_40 rfl rfl ?_
      refine x_aload_n dX0_run_41 rfl rfl ?_
      refine x_getI (k := p1) (j := 1) dX0_run_42 q1.1 rfl rfl (Nat.le_of_ble_eq_true rfl) (fun w h => List.mem_cons_of_mem _ (inlX4 w h)) w_X0_run_f19 ?_
      refine x_iload_n dX0_run_45 rfl rfl ?_
      refine x_b (fun r2_ S2 e2 => ?_)
      refine x_callVi (As := [.ref (p1), .int (S.1 (p1) 1), .int p3]) dX0_run_46 (aMet_of e2 (m_X0_holds_k hB (p1) q1 (S.1 (p1) 1) p3 S)) g_X0_run_28 rfl hB.1 rfl dd_X0_holds rfl rfl (Nat.le_of_ble_eq_true rfl) (Nat.le_of_ble_eq_true rfl) (Nat.le_of_ble_eq_true rfl) ?_
      exact x_iret dX0_run_49 rfl
    · refine x_sw (2 : Int32) ?_ (fun hv2 => ?_)
      · refine x_tabIn (off := 49) (tgt := 50) dX0_run_1 (by decide) (by decide) (by decide) (by decide) ?_
        refine x_aload_n dX0_run_50 rfl rfl ?_
        refine x_aload_n dX0_run_51 rfl rfl ?_
        refine x_aload_n dX0_run_52 rfl rfl ?_
        refine x_getI (k := p1) (j := 1) dX0_run_53 q1.1 rfl rfl (Nat.le_of_ble_eq_true rfl) (fun w h => List.mem_cons_of_mem _ (inlX4 w h)) w_X0_run_f19 ?_
        refine x_iload_n dX0_run_56 rfl rfl ?_
        refine x_b (fun r1_ S1 e1 => ?_)
        refine x_callVi (As := [.ref (p1), .int (S.1 (p1) 1), .int p3]) dX0_run_57 (aMet_of e1 (m_X0_tells_k hB (p1) q1 (S.1 (p1) 1) p3 S)) g_X0_run_31 rfl hB.1 rfl dd_X0_tells rfl rfl (Nat.le_of_ble_eq_true rfl) (Nat.le_of_ble_eq_true rfl) (Nat.le_of_ble_eq_true rfl) ?_
        exact x_iret dX0_run_60 rfl
      · refine x_tabOut (tgt := 61) dX0_run_1 (a_out 3 [(0 : Int32), (1 : Int32), (2 : Int32)] (by decide) (by decide +kernel) (List.forall_mem_cons.mpr ⟨hv0, (List.forall_mem_cons.mpr ⟨hv1, (List.forall_mem_cons.mpr ⟨hv2, (fun _ h => absurd h List.not_mem_nil)⟩)⟩)⟩)) (by decide) ?_
        refine x_iconst (0 : Int32) dX0_run_61 (by decide) ?_
        exact x_iret dX0_run_62 rfl

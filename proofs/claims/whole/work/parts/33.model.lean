/-! written by program: what the bytecode does, and the walk -/
theorem dd_X7_rowsFrom : yX7_rowsFrom.cls = RX7 ∧ yX7_rowsFrom.cls ≠ "java/lang/invoke/MethodHandle" ∧ yX7_rowsFrom.cls ≠ "java/lang/invoke/VarHandle" ∧ (parseMethodDescriptor yX7_rowsFrom.desc).map (fun d => d.parameters.length) = some 2 := by decide +kernel
theorem w_X7_rowsFrom_f9 : Cond.fieldLink yX7_rowsFrom.cls 9 (TX7 1).1 (TX7 1).2.1 (TX7 1).2.2.1 ∈ uX7_rowsFrom := List.mem_cons_of_mem _ (wU_r4 _ (List.mem_of_getElem? (i := 14) rfl))
theorem g_X7_rowsFrom_183 : GoodIn uX7_rowsFrom (wsV yX7_rowsFrom.cls 183 RX7 yX7_isStanding uX7_isStanding) := gU_V (wU_r25 _ (List.mem_of_getElem? (i := 9) rfl)) (wU_r25 _ (List.mem_of_getElem? (i := 10) rfl)) (wU_r25 _ (List.mem_of_getElem? (i := 11) rfl)) (wU_r1 _ (List.mem_of_getElem? (i := 5) rfl)) (wU_r25 _ (List.mem_of_getElem? (i := 12) rfl))
theorem g_X7_rowsFrom_208 : GoodIn uX7_rowsFrom (wsV yX7_rowsFrom.cls 208 RX7 yX7_goesNow uX7_goesNow) := gU_V (wU_r25 _ (List.mem_of_getElem? (i := 13) rfl)) (wU_r25 _ (List.mem_of_getElem? (i := 14) rfl)) (wU_r25 _ (List.mem_of_getElem? (i := 15) rfl)) (wU_r1 _ (List.mem_of_getElem? (i := 5) rfl)) (wU_r25 _ (List.mem_of_getElem? (i := 16) rfl))
theorem w_X7_rowsFrom_f177 : Cond.fieldLink yX7_rowsFrom.cls 177 (TX7 18).1 (TX7 18).2.1 (TX7 18).2.2.1 ∈ uX7_rowsFrom := List.mem_cons_of_mem _ (wU_r25 _ (List.mem_of_getElem? (i := 5) rfl))
theorem w_X7_rowsFrom_f193 : Cond.fieldLink yX7_rowsFrom.cls 193 (TX7 22).1 (TX7 22).2.1 (TX7 22).2.2.1 ∈ uX7_rowsFrom := List.mem_cons_of_mem _ (wU_r25 _ (List.mem_of_getElem? (i := 8) rfl))
theorem w_X7_rowsFrom_f28 : Cond.fieldLink yX7_rowsFrom.cls 28 (TX7 24).1 (TX7 24).2.1 (TX7 24).2.2.1 ∈ uX7_rowsFrom := List.mem_cons_of_mem _ (wU_r4 _ (List.mem_of_getElem? (i := 20) rfl))
theorem g_X7_rowsFrom_233 : GoodIn uX7_rowsFrom (wsV yX7_rowsFrom.cls 233 RX7 yX7_rowsFrom uX7_rowsFrom) := gU_V (wU_r33 _ (List.mem_of_getElem? (i := 7) rfl)) (wU_r33 _ (List.mem_of_getElem? (i := 8) rfl)) (wU_r33 _ (List.mem_of_getElem? (i := 9) rfl)) (wU_r1 _ (List.mem_of_getElem? (i := 5) rfl)) (wU_r33 _ (List.mem_of_getElem? (i := 10) rfl))
def f_X7_rowsFrom_96 (c_X7_rowsFrom : Int32 → Int32 → aSt → Option (Int32 × aSt)) (r9 : Int32 → Int32 → Int32 → aSt → Option (Int32 × aSt)) (l1 : Int32) (l2 : Int32) (l3 : Int32) (S : aSt) : Option (Int32 × aSt) := (aLt (l3 + (1 : Int32)) (fun x7 => (r9 l1 l2 x7 S)))
set_option maxRecDepth 20000 in
set_option maxHeartbeats 4000000 in
theorem v_X7_rowsFrom_96 {G : aG} (hM : aMo G) {d dc : Nat} (hdc : dc + 1 ≤ d) (hd0 : 6 ≤ d) (c_X7_rowsFrom : Int32 → Int32 → aSt → Option (Int32 × aSt)) (hc_X7_rowsFrom : ∀ (z1 : Int32) (z2 : Int32) (S : aSt), aMet G yX7_rowsFrom uX7_rowsFrom dc mk_i (c_X7_rowsFrom z1 z2 S) [.ref (0), .int z1, .int z2] S) (r9 : Int32 → Int32 → Int32 → aSt → Option (Int32 × aSt)) (hr9 : ∀ (l1 : Int32) (l2 : Int32) (l3 : Int32) (S : aSt), aX G yX7_rowsFrom cX7_rowsFrom 5 (some .boolean) uX7_rowsFrom d mk_i (r9 l1 l2 l3 S) 9 [some (.ref (0)), some (.int l1), some (.int l2), some (.int l3), none] [] S) (l1 : Int32) (l2 : Int32) (l3 : Int32) (S : aSt) : aX G yX7_rowsFrom cX7_rowsFrom 5 (some .boolean) uX7_rowsFrom d mk_i (f_X7_rowsFrom_96 c_X7_rowsFrom r9 l1 l2 l3 S) 96 [some (.ref (0)), some (.int l1), some (.int l2), some (.int l3), none] [] S := by
  unfold f_X7_rowsFrom_96
  refine x_iincL (w := (1 : Int32)) dX7_rowsFrom_96 rfl (by decide) (Nat.le_of_ble_eq_true rfl) rfl (fun x7 => ?_)
  refine x_goto (tgt := 9) dX7_rowsFrom_99 (by decide) ?_
  exact x_le (hr9 l1 l2 x7 S) (And.intro rfl (And.intro rfl (And.intro rfl (And.intro rfl trivial))))
def f_X7_rowsFrom_9 (c_X7_rowsFrom : Int32 → Int32 → aSt → Option (Int32 × aSt))  : Nat → Int32 → Int32 → Int32 → aSt → Option (Int32 × aSt)
  | 0, _, _, _, _ => none
  | n + 1, l1, l2, l3, S => (if (S.1 (1) 0) ≤ l3 then (some ((0 : Int32), S)) else (aB (f_X7_isStanding l3 S) (fun r1_ S1 => (if r1_ = 0 then (f_X7_rowsFrom_96 c_X7_rowsFrom (fun l1 l2 l3 S => (f_X7_rowsFrom_9 c_X7_rowsFrom n l1 l2 l3 S)) l1 l2 l3 S1) else (aB (f_X7_goesNow l3 (-1 : Int32) S1) (fun r2_ S2 => (if (S2.1 (0) 18) = (2 : Int32) then (f_X7_rowsFrom_96 c_X7_rowsFrom (fun l1 l2 l3 S => (f_X7_rowsFrom_9 c_X7_rowsFrom n l1 l2 l3 S)) l1 l2 l3 S2) else (if (S2.1 (0) 22) = (-5 : Int32) then (if l1 < 0 ∨ 6 ≤ (l1).toNatClampNeg then none else (aLt (aUi S2 (6) (l1).toNatClampNeg l3) (fun S3 => (if ((152 : Int32) + l3) < 0 ∨ 979 ≤ (((152 : Int32) + l3)).toNatClampNeg then none else (aLt (aUi S3 (1) (((152 : Int32) + l3)).toNatClampNeg (0 : Int32)) (fun S4 => (aB (c_X7_rowsFrom (l1 + (1 : Int32)) l2 S4) (fun r5_ S5 => (if ((152 : Int32) + l3) < 0 ∨ 979 ≤ (((152 : Int32) + l3)).toNatClampNeg then none else (aLt (aUi S5 (1) (((152 : Int32) + l3)).toNatClampNeg (1 : Int32)) (fun S6 => (if r5_ = 0 then (f_X7_rowsFrom_96 c_X7_rowsFrom (fun l1 l2 l3 S => (f_X7_rowsFrom_9 c_X7_rowsFrom n l1 l2 l3 S)) l1 l2 l3 S6) else (some ((1 : Int32), S6)))))))))))))) else (f_X7_rowsFrom_96 c_X7_rowsFrom (fun l1 l2 l3 S => (f_X7_rowsFrom_9 c_X7_rowsFrom n l1 l2 l3 S)) l1 l2 l3 S2)))))))))
set_option maxRecDepth 20000 in
set_option maxHeartbeats 4000000 in
theorem v_X7_rowsFrom_9 {G : aG} (hM : aMo G) {d dc : Nat} (hdc : dc + 1 ≤ d) (hd0 : 6 ≤ d) (c_X7_rowsFrom : Int32 → Int32 → aSt → Option (Int32 × aSt)) (hc_X7_rowsFrom : ∀ (z1 : Int32) (z2 : Int32) (S : aSt), aMet G yX7_rowsFrom uX7_rowsFrom dc mk_i (c_X7_rowsFrom z1 z2 S) [.ref (0), .int z1, .int z2] S) : ∀ (n : Nat) (l1 : Int32) (l2 : Int32) (l3 : Int32) (S : aSt), aX G yX7_rowsFrom cX7_rowsFrom 5 (some .boolean) uX7_rowsFrom d mk_i (f_X7_rowsFrom_9 c_X7_rowsFrom n l1 l2 l3 S) 9 [some (.ref (0)), some (.int l1), some (.int l2), some (.int l3), none] [] S := by
  intro n
  induction n with
  | zero => intro l1 l2 l3 S; exact x_none
  | succ n ih =>
    intro l1 l2 l3 S
    unfold f_X7_rowsFrom_9
    refine x_iload_n dX7_rowsFrom_9 rfl rfl ?_
    refine x_aload_n dX7_rowsFrom_10 rfl rfl ?_
    refine x_getR (r := 1) (k := 0) (j := 1) dX7_rowsFrom_11 hM.1 rfl rfl (Nat.le_of_ble_eq_true rfl) (fun w h => List.mem_cons_of_mem _ (inlX7 w h)) w_X7_rowsFrom_f9 ?_
    refine x_iconst (0 : Int32) dX7_rowsFrom_14 (by decide) ?_
    refine x_ialdc (j := 0) dX7_rowsFrom_15 hM.2.1 (by unfold vp_in; decide) (by decide) ?_
    refine x_icmp_ge (tgt := 102) dX7_rowsFrom_16 (by decide) ?_ ?_
    · refine x_iconst (0 : Int32) dX7_rowsFrom_102 (by decide) ?_
      exact x_zret dX7_rowsFrom_103 rfl rfl
    · refine x_aload_n dX7_rowsFrom_19 rfl rfl ?_
      refine x_iload_n dX7_rowsFrom_20 rfl rfl ?_
      refine x_b (fun r1_ S1 e1 => ?_)
      refine x_callVi (As := [.int l3]) dX7_rowsFrom_21 (aMet_of e1 (m_X7_isStanding hM l3 S)) g_X7_rowsFrom_183 rfl hM.1 rfl dd_X7_isStanding rfl rfl (Nat.le_of_ble_eq_true rfl) (Nat.le_trans (Nat.le_of_ble_eq_true rfl : 3 ≤ 6) hd0) (Nat.le_of_ble_eq_true rfl) ?_
      refine x_if_eq (tgt := 96) dX7_rowsFrom_24 (by decide) ?_ ?_
      · exact x_le (v_X7_rowsFrom_96 hM hdc hd0 c_X7_rowsFrom hc_X7_rowsFrom (fun l1 l2 l3 S => (f_X7_rowsFrom_9 c_X7_rowsFrom n l1 l2 l3 S)) ih l1 l2 l3 S1) (And.intro rfl (And.intro rfl (And.intro rfl (And.intro rfl trivial))))
      · refine x_aload_n dX7_rowsFrom_27 rfl rfl ?_
        refine x_iload_n dX7_rowsFrom_28 rfl rfl ?_
        refine x_iconst (-1 : Int32) dX7_rowsFrom_29 (by decide) ?_
        refine x_b (fun r2_ S2 e2 => ?_)
        refine x_callVv (As := [.int l3, .int (-1 : Int32)]) dX7_rowsFrom_30 (aMet_of e2 (m_X7_goesNow hM l3 (-1 : Int32) S1)) g_X7_rowsFrom_208 rfl hM.1 rfl dd_X7_goesNow rfl rfl (Nat.le_of_ble_eq_true rfl) (Nat.le_trans (Nat.le_of_ble_eq_true rfl : 6 ≤ 6) hd0) (Nat.le_of_ble_eq_true rfl) ?_
        refine x_aload_n dX7_rowsFrom_33 rfl rfl ?_
        refine x_getI (k := 0) (j := 18) dX7_rowsFrom_34 hM.1 rfl rfl (Nat.le_of_ble_eq_true rfl) (fun w h => List.mem_cons_of_mem _ (inlX7 w h)) w_X7_rowsFrom_f177 ?_
        refine x_iconst (2 : Int32) dX7_rowsFrom_37 (by decide) ?_
        refine x_icmp_eq (tgt := 96) dX7_rowsFrom_38 (by decide) ?_ ?_
        · exact x_le (v_X7_rowsFrom_96 hM hdc hd0 c_X7_rowsFrom hc_X7_rowsFrom (fun l1 l2 l3 S => (f_X7_rowsFrom_9 c_X7_rowsFrom n l1 l2 l3 S)) ih l1 l2 l3 S2) (And.intro rfl (And.intro rfl (And.intro rfl (And.intro rfl trivial))))
        · refine x_aload_n dX7_rowsFrom_41 rfl rfl ?_
          refine x_getI (k := 0) (j := 22) dX7_rowsFrom_42 hM.1 rfl rfl (Nat.le_of_ble_eq_true rfl) (fun w h => List.mem_cons_of_mem _ (inlX7 w h)) w_X7_rowsFrom_f193 ?_
          refine x_bipush (-5 : Int32) dX7_rowsFrom_45 (by decide) ?_
          refine x_icmp_ne (tgt := 96) dX7_rowsFrom_47 (by decide) ?_ ?_
          · exact x_le (v_X7_rowsFrom_96 hM hdc hd0 c_X7_rowsFrom hc_X7_rowsFrom (fun l1 l2 l3 S => (f_X7_rowsFrom_9 c_X7_rowsFrom n l1 l2 l3 S)) ih l1 l2 l3 S2) (And.intro rfl (And.intro rfl (And.intro rfl (And.intro rfl trivial))))
          · refine x_aload_n dX7_rowsFrom_50 rfl rfl ?_
            refine x_getR (r := 6) (k := 0) (j := 24) dX7_rowsFrom_51 hM.1 rfl rfl (Nat.le_of_ble_eq_true rfl) (fun w h => List.mem_cons_of_mem _ (inlX7 w h)) w_X7_rowsFrom_f28 ?_
            refine x_iload_n dX7_rowsFrom_54 rfl rfl ?_
            refine x_iload_n dX7_rowsFrom_55 rfl rfl ?_
            refine x_iast dX7_rowsFrom_56 hM.2.2.2.2.2.2.1 ?_
            refine x_ltS (fun S3 => ?_)
            refine x_aload_n dX7_rowsFrom_57 rfl rfl ?_
            refine x_getR (r := 1) (k := 0) (j := 1) dX7_rowsFrom_58 hM.1 rfl rfl (Nat.le_of_ble_eq_true rfl) (fun w h => List.mem_cons_of_mem _ (inlX7 w h)) w_X7_rowsFrom_f9 ?_
            refine x_sipush (152 : Int32) dX7_rowsFrom_61 (by decide) ?_
            refine x_iload_n dX7_rowsFrom_64 rfl rfl ?_
            refine x_iadd dX7_rowsFrom_65 ?_
            refine x_iconst (0 : Int32) dX7_rowsFrom_66 (by decide) ?_
            refine x_iast dX7_rowsFrom_67 hM.2.1 ?_
            refine x_ltS (fun S4 => ?_)
            refine x_aload_n dX7_rowsFrom_68 rfl rfl ?_
            refine x_iload_n dX7_rowsFrom_69 rfl rfl ?_
            refine x_iconst (1 : Int32) dX7_rowsFrom_70 (by decide) ?_
            refine x_iadd dX7_rowsFrom_71 ?_
            refine x_iload_n dX7_rowsFrom_72 rfl rfl ?_
            refine x_b (fun r5_ S5 e5 => ?_)
            refine x_callVi (As := [.int (l1 + (1 : Int32)), .int l2]) dX7_rowsFrom_73 (aMet_of e5 (hc_X7_rowsFrom (l1 + (1 : Int32)) l2 S4)) g_X7_rowsFrom_233 rfl hM.1 rfl dd_X7_rowsFrom rfl rfl (Nat.le_of_ble_eq_true rfl) hdc (Nat.le_of_ble_eq_true rfl) ?_
            refine x_istore dX7_rowsFrom_76 (Nat.le_of_ble_eq_true rfl) rfl ?_
            refine x_aload_n dX7_rowsFrom_78 rfl rfl ?_
            refine x_getR (r := 1) (k := 0) (j := 1) dX7_rowsFrom_79 hM.1 rfl rfl (Nat.le_of_ble_eq_true rfl) (fun w h => List.mem_cons_of_mem _ (inlX7 w h)) w_X7_rowsFrom_f9 ?_
            refine x_sipush (152 : Int32) dX7_rowsFrom_82 (by decide) ?_
            refine x_iload_n dX7_rowsFrom_85 rfl rfl ?_
            refine x_iadd dX7_rowsFrom_86 ?_
            refine x_iconst (1 : Int32) dX7_rowsFrom_87 (by decide) ?_
            refine x_iast dX7_rowsFrom_88 hM.2.1 ?_
            refine x_ltS (fun S6 => ?_)
            refine x_iload dX7_rowsFrom_89 rfl ?_
            refine x_if_eq (tgt := 96) dX7_rowsFrom_91 (by decide) ?_ ?_
            · exact x_le (v_X7_rowsFrom_96 hM hdc hd0 c_X7_rowsFrom hc_X7_rowsFrom (fun l1 l2 l3 S => (f_X7_rowsFrom_9 c_X7_rowsFrom n l1 l2 l3 S)) ih l1 l2 l3 S6) (And.intro rfl (And.intro rfl (And.intro rfl (And.intro rfl trivial))))
            · refine x_iconst (1 : Int32) dX7_rowsFrom_94 (by decide) ?_
              exact x_zret dX7_rowsFrom_95 rfl rfl
def f_X7_rowsFrom (c_X7_rowsFrom : Int32 → Int32 → aSt → Option (Int32 × aSt)) (p1 : Int32) (p2 : Int32) (S : aSt) : Option (Int32 × aSt) := (if p1 = p2 then (some ((1 : Int32), S)) else (f_X7_rowsFrom_9 c_X7_rowsFrom aF p1 p2 (0 : Int32) S))
set_option maxRecDepth 20000 in
set_option maxHeartbeats 4000000 in
theorem m_X7_rowsFrom {G : aG} (hM : aMo G) {d dc : Nat} (hdc : dc + 1 ≤ d) (hd0 : 6 ≤ d) (c_X7_rowsFrom : Int32 → Int32 → aSt → Option (Int32 × aSt)) (hc_X7_rowsFrom : ∀ (z1 : Int32) (z2 : Int32) (S : aSt), aMet G yX7_rowsFrom uX7_rowsFrom dc mk_i (c_X7_rowsFrom z1 z2 S) [.ref (0), .int z1, .int z2] S) (p1 : Int32) (p2 : Int32) (S : aSt) : aMet G yX7_rowsFrom uX7_rowsFrom d mk_i (f_X7_rowsFrom c_X7_rowsFrom p1 p2 S) [.ref (0), .int p1, .int p2] S := by
  refine x_met (cc := cX7_rowsFrom) (nL := 5) (ret := (some .boolean)) (L := [some (.ref (0)), some (.int p1), some (.int p2), none, none]) (by decide +kernel) rfl (And.intro rfl (And.intro rfl (And.intro rfl trivial))) (Nat.le_of_ble_eq_true rfl) ?_
  unfold f_X7_rowsFrom
  refine x_iload_n dX7_rowsFrom_0 rfl rfl ?_
  refine x_iload_n dX7_rowsFrom_1 rfl rfl ?_
  refine x_icmp_ne (tgt := 7) dX7_rowsFrom_2 (by decide) ?_ ?_
  · refine x_iconst (0 : Int32) dX7_rowsFrom_7 (by decide) ?_
    refine x_istore_n dX7_rowsFrom_8 rfl (Nat.le_of_ble_eq_true rfl) rfl ?_
    exact x_le (v_X7_rowsFrom_9 hM hdc hd0 c_X7_rowsFrom hc_X7_rowsFrom aF p1 p2 (0 : Int32) S) (And.intro rfl (And.intro rfl (And.intro rfl (And.intro rfl trivial))))
  · refine x_iconst (1 : Int32) dX7_rowsFrom_5 (by decide) ?_
    exact x_zret dX7_rowsFrom_6 rfl rfl
def g_X7_rowsFrom : Nat → Nat → Int32 → Int32 → aSt → Option (Int32 × aSt)
  | 0, _, _, _, _ => none
  | n + 1, _, z0, z1, S => f_X7_rowsFrom (fun z0 z1 S => g_X7_rowsFrom n 0 z0 z1 S) z0 z1 S
theorem gm_X7_rowsFrom {G : aG} (hM : aMo G) : ∀ n : Nat, (∀ (z1 : Int32) (z2 : Int32) (S : aSt), aMet G yX7_rowsFrom uX7_rowsFrom (6 + n) mk_i (g_X7_rowsFrom n 0 z1 z2 S) [.ref (0), .int z1, .int z2] S) := by
  intro n
  induction n with
  | zero => exact fun _ _ _ => aMet_none
  | succ n ih => exact fun z1 z2 S => m_X7_rowsFrom hM (d := 6 + (n + 1)) (dc := 6 + n) (Nat.le_refl _) (by omega) _ ih z1 z2 S
def f_X7_rowsFrom_k : Int32 → Int32 → aSt → Option (Int32 × aSt) := g_X7_rowsFrom 8 0
theorem m_X7_rowsFrom_k {G : aG} (hM : aMo G) : ∀ (z1 : Int32) (z2 : Int32) (S : aSt), aMet G yX7_rowsFrom uX7_rowsFrom 14 mk_i (f_X7_rowsFrom_k z1 z2 S) [.ref (0), .int z1, .int z2] S := (gm_X7_rowsFrom hM 8)
theorem dd_X7_standingMany : yX7_standingMany.cls = RX7 ∧ yX7_standingMany.cls ≠ "java/lang/invoke/MethodHandle" ∧ yX7_standingMany.cls ≠ "java/lang/invoke/VarHandle" ∧ (parseMethodDescriptor yX7_standingMany.desc).map (fun d => d.parameters.length) = some 0 := by decide +kernel
theorem g_X7_order_41 : GoodIn uX7_order (va_wsS yX7_order.cls 41 yX7_in uX7_in) := gU_S (wU_r6 _ (List.mem_of_getElem? (i := 4) rfl)) (wU_r6 _ (List.mem_of_getElem? (i := 5) rfl)) (wU_r1 _ (List.mem_of_getElem? (i := 5) rfl)) (wU_r6 _ (List.mem_of_getElem? (i := 6) rfl))
theorem g_X7_order_237 : GoodIn uX7_order (wsV yX7_order.cls 237 RX7 yX7_standingMany uX7_standingMany) := gU_V (wU_r33 _ (List.mem_of_getElem? (i := 3) rfl)) (wU_r33 _ (List.mem_of_getElem? (i := 4) rfl)) (wU_r33 _ (List.mem_of_getElem? (i := 5) rfl)) (wU_r1 _ (List.mem_of_getElem? (i := 5) rfl)) (wU_r33 _ (List.mem_of_getElem? (i := 6) rfl))
theorem g_X7_order_233 : GoodIn uX7_order (wsV yX7_order.cls 233 RX7 yX7_rowsFrom uX7_rowsFrom) := gU_V (wU_r33 _ (List.mem_of_getElem? (i := 7) rfl)) (wU_r33 _ (List.mem_of_getElem? (i := 8) rfl)) (wU_r33 _ (List.mem_of_getElem? (i := 9) rfl)) (wU_r1 _ (List.mem_of_getElem? (i := 5) rfl)) (wU_r33 _ (List.mem_of_getElem? (i := 10) rfl))
theorem w_X7_order_f28 : Cond.fieldLink yX7_order.cls 28 (TX7 24).1 (TX7 24).2.1 (TX7 24).2.2.1 ∈ uX7_order := List.mem_cons_of_mem _ (wU_r4 _ (List.mem_of_getElem? (i := 20) rfl))
def f_X7_order (p1 : Int32) (S : aSt) : Option (Int32 × aSt) := (aB (f_X7_in p1 (0 : Int32) (4 : Int32) S) (fun r1_ S1 => (if r1_ = 0 then (some ((-1 : Int32), S1)) else (aB (f_X7_standingMany S1) (fun r2_ S2 => (if r2_ ≤ (5 : Int32) then (aB (f_X7_rowsFrom_k (0 : Int32) r2_ S2) (fun r3_ S3 => (if r3_ = 0 then (some ((-5 : Int32), S3)) else (if r2_ ≤ p1 then (some ((-5 : Int32), S3)) else (if p1 < 0 ∨ 6 ≤ (p1).toNatClampNeg then none else (some ((S3.1 (6) (p1).toNatClampNeg), S3))))))) else (some ((-9 : Int32), S2))))))))
set_option maxRecDepth 20000 in
set_option maxHeartbeats 4000000 in
theorem m_X7_order {G : aG} (hM : aMo G) (p1 : Int32) (S : aSt) : aMet G yX7_order uX7_order 15 mk_i (f_X7_order p1 S) [.ref (0), .int p1] S := by
  refine x_met (cc := cX7_order) (nL := 3) (ret := (some .int)) (L := [some (.ref (0)), some (.int p1), none]) (by decide +kernel) rfl (And.intro rfl (And.intro rfl trivial)) (Nat.le_of_ble_eq_true rfl) ?_
  unfold f_X7_order
  refine x_iload_n dX7_order_0 rfl rfl ?_
  refine x_iconst (0 : Int32) dX7_order_1 (by decide) ?_
  refine x_iconst (4 : Int32) dX7_order_2 (by decide) ?_
  refine x_b (fun r1_ S1 e1 => ?_)
  refine x_callSi (As := [.int p1, .int (0 : Int32), .int (4 : Int32)]) dX7_order_3 (aMet_of e1 (m_X7_in p1 (0 : Int32) (4 : Int32) S)) g_X7_order_41 rfl dd_X7_in rfl rfl (Nat.le_of_ble_eq_true rfl) (Nat.le_of_ble_eq_true rfl) (Nat.le_of_ble_eq_true rfl) ?_
  refine x_if_ne (tgt := 11) dX7_order_6 (by decide) ?_ ?_
  · refine x_aload_n dX7_order_11 rfl rfl ?_
    refine x_b (fun r2_ S2 e2 => ?_)
    refine x_callVi (As := []) dX7_order_12 (aMet_of e2 (m_X7_standingMany hM S1)) g_X7_order_237 rfl hM.1 rfl dd_X7_standingMany rfl rfl (Nat.le_of_ble_eq_true rfl) (Nat.le_of_ble_eq_true rfl) (Nat.le_of_ble_eq_true rfl) ?_
    refine x_istore_n dX7_order_15 rfl (Nat.le_of_ble_eq_true rfl) rfl ?_
    refine x_iload_n dX7_order_16 rfl rfl ?_
    refine x_iconst (5 : Int32) dX7_order_17 (by decide) ?_
    refine x_icmp_le (tgt := 24) dX7_order_18 (by decide) ?_ ?_
    · refine x_aload_n dX7_order_24 rfl rfl ?_
      refine x_iconst (0 : Int32) dX7_order_25 (by decide) ?_
      refine x_iload_n dX7_order_26 rfl rfl ?_
      refine x_b (fun r3_ S3 e3 => ?_)
      refine x_callVi (As := [.int (0 : Int32), .int r2_]) dX7_order_27 (aMet_of e3 (m_X7_rowsFrom_k hM (0 : Int32) r2_ S2)) g_X7_order_233 rfl hM.1 rfl dd_X7_rowsFrom rfl rfl (Nat.le_of_ble_eq_true rfl) (Nat.le_of_ble_eq_true rfl) (Nat.le_of_ble_eq_true rfl) ?_
      refine x_if_eq (tgt := 47) dX7_order_30 (by decide) ?_ ?_
      · refine x_bipush (-5 : Int32) dX7_order_47 (by decide) ?_
        exact x_iret dX7_order_49 rfl
      · refine x_iload_n dX7_order_33 rfl rfl ?_
        refine x_iload_n dX7_order_34 rfl rfl ?_
        refine x_icmp_ge (tgt := 47) dX7_order_35 (by decide) ?_ ?_
        · refine x_bipush (-5 : Int32) dX7_order_47 (by decide) ?_
          exact x_iret dX7_order_49 rfl
        · refine x_aload_n dX7_order_38 rfl rfl ?_
          refine x_getR (r := 6) (k := 0) (j := 24) dX7_order_39 hM.1 rfl rfl (Nat.le_of_ble_eq_true rfl) (fun w h => List.mem_cons_of_mem _ (inlX7 w h)) w_X7_order_f28 ?_
          refine x_iload_n dX7_order_42 rfl rfl ?_
          refine x_iald dX7_order_43 hM.2.2.2.2.2.2.1 ?_
          refine x_goto (tgt := 49) dX7_order_44 (by decide) ?_
          exact x_iret dX7_order_49 rfl
    · refine x_bipush (-9 : Int32) dX7_order_21 (by decide) ?_
      exact x_iret dX7_order_23 rfl
  · refine x_iconst (-1 : Int32) dX7_order_9 (by decide) ?_
    exact x_iret dX7_order_10 rfl
theorem w_X7_hung_f9 : Cond.fieldLink yX7_hung.cls 9 (TX7 1).1 (TX7 1).2.1 (TX7 1).2.2.1 ∈ uX7_hung := List.mem_cons_of_mem _ (wU_r4 _ (List.mem_of_getElem? (i := 14) rfl))
theorem g_X7_hung_183 : GoodIn uX7_hung (wsV yX7_hung.cls 183 RX7 yX7_isStanding uX7_isStanding) := gU_V (wU_r25 _ (List.mem_of_getElem? (i := 9) rfl)) (wU_r25 _ (List.mem_of_getElem? (i := 10) rfl)) (wU_r25 _ (List.mem_of_getElem? (i := 11) rfl)) (wU_r1 _ (List.mem_of_getElem? (i := 5) rfl)) (wU_r25 _ (List.mem_of_getElem? (i := 12) rfl))
theorem g_X7_hung_208 : GoodIn uX7_hung (wsV yX7_hung.cls 208 RX7 yX7_goesNow uX7_goesNow) := gU_V (wU_r25 _ (List.mem_of_getElem? (i := 13) rfl)) (wU_r25 _ (List.mem_of_getElem? (i := 14) rfl)) (wU_r25 _ (List.mem_of_getElem? (i := 15) rfl)) (wU_r1 _ (List.mem_of_getElem? (i := 5) rfl)) (wU_r25 _ (List.mem_of_getElem? (i := 16) rfl))
theorem w_X7_hung_f193 : Cond.fieldLink yX7_hung.cls 193 (TX7 22).1 (TX7 22).2.1 (TX7 22).2.2.1 ∈ uX7_hung := List.mem_cons_of_mem _ (wU_r25 _ (List.mem_of_getElem? (i := 8) rfl))
def f_X7_hung_45 (r4 : Int32 → Int32 → aSt → Option (Int32 × aSt)) (l1 : Int32) (l2 : Int32) (S : aSt) : Option (Int32 × aSt) := (aLt (l2 + (1 : Int32)) (fun x3 => (r4 l1 x3 S)))
set_option maxRecDepth 20000 in
set_option maxHeartbeats 4000000 in
theorem v_X7_hung_45 {G : aG} (hM : aMo G) (r4 : Int32 → Int32 → aSt → Option (Int32 × aSt)) (hr4 : ∀ (l1 : Int32) (l2 : Int32) (S : aSt), aX G yX7_hung cX7_hung 3 (some .int) uX7_hung 6 mk_i (r4 l1 l2 S) 4 [some (.ref (0)), some (.int l1), some (.int l2)] [] S) (l1 : Int32) (l2 : Int32) (S : aSt) : aX G yX7_hung cX7_hung 3 (some .int) uX7_hung 6 mk_i (f_X7_hung_45 r4 l1 l2 S) 45 [some (.ref (0)), some (.int l1), some (.int l2)] [] S := by
  unfold f_X7_hung_45
  refine x_iincL (w := (1 : Int32)) dX7_hung_45 rfl (by decide) (Nat.le_of_ble_eq_true rfl) rfl (fun x3 => ?_)
  refine x_goto (tgt := 4) dX7_hung_48 (by decide) ?_
  exact x_le (hr4 l1 x3 S) (And.intro rfl (And.intro rfl (And.intro rfl trivial)))
def f_X7_hung_43 (r4 : Int32 → Int32 → aSt → Option (Int32 × aSt)) (l2 : Int32) (s0 : Int32) (s1 : Int32) (S : aSt) : Option (Int32 × aSt) := (aLt (s1 + s0) (fun x4 => (f_X7_hung_45 r4 x4 l2 S)))
set_option maxRecDepth 20000 in
set_option maxHeartbeats 4000000 in
theorem v_X7_hung_43 {G : aG} (hM : aMo G) (r4 : Int32 → Int32 → aSt → Option (Int32 × aSt)) (hr4 : ∀ (l1 : Int32) (l2 : Int32) (S : aSt), aX G yX7_hung cX7_hung 3 (some .int) uX7_hung 6 mk_i (r4 l1 l2 S) 4 [some (.ref (0)), some (.int l1), some (.int l2)] [] S) (l2 : Int32) (s0 : Int32) (s1 : Int32) (S : aSt) : aX G yX7_hung cX7_hung 3 (some .int) uX7_hung 6 mk_i (f_X7_hung_43 r4 l2 s0 s1 S) 43 [some (.ref (0)), none, some (.int l2)] [.int s0, .int s1] S := by
  unfold f_X7_hung_43
  refine x_iadd dX7_hung_43 ?_
  refine x_lti (fun x4 => ?_)
  refine x_istore_n dX7_hung_44 rfl (Nat.le_of_ble_eq_true rfl) rfl ?_
  exact x_le (v_X7_hung_45 hM r4 hr4 x4 l2 S) (And.intro rfl (And.intro rfl (And.intro rfl trivial)))
def f_X7_hung_4  : Nat → Int32 → Int32 → aSt → Option (Int32 × aSt)
  | 0, _, _, _ => none
  | n + 1, l1, l2, S => (if (S.1 (1) 0) ≤ l2 then (some (l1, S)) else (aB (f_X7_isStanding l2 S) (fun r1_ S1 => (if r1_ = 0 then (f_X7_hung_45 (fun l1 l2 S => (f_X7_hung_4 n l1 l2 S)) l1 l2 S1) else (aB (f_X7_goesNow l2 (-1 : Int32) S1) (fun r2_ S2 => (if (S2.1 (0) 22) = (-5 : Int32) then (f_X7_hung_43 (fun l1 l2 S => (f_X7_hung_4 n l1 l2 S)) l2 (0 : Int32) l1 S2) else (f_X7_hung_43 (fun l1 l2 S => (f_X7_hung_4 n l1 l2 S)) l2 (1 : Int32) l1 S2))))))))
set_option maxRecDepth 20000 in
set_option maxHeartbeats 4000000 in
theorem v_X7_hung_4 {G : aG} (hM : aMo G) : ∀ (n : Nat) (l1 : Int32) (l2 : Int32) (S : aSt), aX G yX7_hung cX7_hung 3 (some .int) uX7_hung 6 mk_i (f_X7_hung_4 n l1 l2 S) 4 [some (.ref (0)), some (.int l1), some (.int l2)] [] S := by
  intro n
  induction n with
  | zero => intro l1 l2 S; exact x_none
  | succ n ih =>
    intro l1 l2 S
    unfold f_X7_hung_4
    refine x_iload_n dX7_hung_4 rfl rfl ?_
    refine x_aload_n dX7_hung_5 rfl rfl ?_
    refine x_getR (r := 1) (k := 0) (j := 1) dX7_hung_6 hM.1 rfl rfl (Nat.le_of_ble_eq_true rfl) (fun w h => List.mem_cons_of_mem _ (inlX7 w h)) w_X7_hung_f9 ?_
    refine x_iconst (0 : Int32) dX7_hung_9 (by decide) ?_
    refine x_ialdc (j := 0) dX7_hung_10 hM.2.1 (by unfold vp_in; decide) (by decide) ?_
    refine x_icmp_ge (tgt := 51) dX7_hung_11 (by decide) ?_ ?_
    · refine x_iload_n dX7_hung_51 rfl rfl ?_
      exact x_iret dX7_hung_52 rfl
    · refine x_aload_n dX7_hung_14 rfl rfl ?_
      refine x_iload_n dX7_hung_15 rfl rfl ?_
      refine x_b (fun r1_ S1 e1 => ?_)
      refine x_callVi (As := [.int l2]) dX7_hung_16 (aMet_of e1 (m_X7_isStanding hM l2 S)) g_X7_hung_183 rfl hM.1 rfl dd_X7_isStanding rfl rfl (Nat.le_of_ble_eq_true rfl) (Nat.le_of_ble_eq_true rfl) (Nat.le_of_ble_eq_true rfl) ?_
      refine x_if_eq (tgt := 45) dX7_hung_19 (by decide) ?_ ?_
      · exact x_le (v_X7_hung_45 hM (fun l1 l2 S => (f_X7_hung_4 n l1 l2 S)) ih l1 l2 S1) (And.intro rfl (And.intro rfl (And.intro rfl trivial)))
      · refine x_aload_n dX7_hung_22 rfl rfl ?_
        refine x_iload_n dX7_hung_23 rfl rfl ?_
        refine x_iconst (-1 : Int32) dX7_hung_24 (by decide) ?_
        refine x_b (fun r2_ S2 e2 => ?_)
        refine x_callVv (As := [.int l2, .int (-1 : Int32)]) dX7_hung_25 (aMet_of e2 (m_X7_goesNow hM l2 (-1 : Int32) S1)) g_X7_hung_208 rfl hM.1 rfl dd_X7_goesNow rfl rfl (Nat.le_of_ble_eq_true rfl) (Nat.le_of_ble_eq_true rfl) (Nat.le_of_ble_eq_true rfl) ?_
        refine x_iload_n dX7_hung_28 rfl rfl ?_
        refine x_aload_n dX7_hung_29 rfl rfl ?_
        refine x_getI (k := 0) (j := 22) dX7_hung_30 hM.1 rfl rfl (Nat.le_of_ble_eq_true rfl) (fun w h => List.mem_cons_of_mem _ (inlX7 w h)) w_X7_hung_f193 ?_
        refine x_bipush (-5 : Int32) dX7_hung_33 (by decide) ?_
        refine x_icmp_ne (tgt := 42) dX7_hung_35 (by decide) ?_ ?_
        · refine x_iconst (1 : Int32) dX7_hung_42 (by decide) ?_
          exact x_le (v_X7_hung_43 hM (fun l1 l2 S => (f_X7_hung_4 n l1 l2 S)) ih l2 (1 : Int32) l1 S2) (And.intro rfl (And.intro rfl trivial))
        · refine x_iconst (0 : Int32) dX7_hung_38 (by decide) ?_
          refine x_goto (tgt := 43) dX7_hung_39 (by decide) ?_
          exact x_le (v_X7_hung_43 hM (fun l1 l2 S => (f_X7_hung_4 n l1 l2 S)) ih l2 (0 : Int32) l1 S2) (And.intro rfl (And.intro rfl trivial))
def f_X7_hung  (S : aSt) : Option (Int32 × aSt) := (f_X7_hung_4 aF (0 : Int32) (0 : Int32) S)
set_option maxRecDepth 20000 in
set_option maxHeartbeats 4000000 in
theorem m_X7_hung {G : aG} (hM : aMo G)  (S : aSt) : aMet G yX7_hung uX7_hung 6 mk_i (f_X7_hung S) [.ref (0)] S := by
  refine x_met (cc := cX7_hung) (nL := 3) (ret := (some .int)) (L := [some (.ref (0)), none, none]) (by decide +kernel) rfl (And.intro rfl trivial) (Nat.le_of_ble_eq_true rfl) ?_
  unfold f_X7_hung
  refine x_iconst (0 : Int32) dX7_hung_0 (by decide) ?_
  refine x_istore_n dX7_hung_1 rfl (Nat.le_of_ble_eq_true rfl) rfl ?_
  refine x_iconst (0 : Int32) dX7_hung_2 (by decide) ?_
  refine x_istore_n dX7_hung_3 rfl (Nat.le_of_ble_eq_true rfl) rfl ?_
  exact x_le (v_X7_hung_4 hM aF (0 : Int32) (0 : Int32) S) (And.intro rfl (And.intro rfl (And.intro rfl trivial)))
theorem g_X7_blame_138 : GoodIn uX7_blame (wsV yX7_blame.cls 138 RX7 yX7_isTree uX7_isTree) := gU_V (wU_r19 _ (List.mem_of_getElem? (i := 1) rfl)) (wU_r19 _ (List.mem_of_getElem? (i := 2) rfl)) (wU_r19 _ (List.mem_of_getElem? (i := 3) rfl)) (wU_r1 _ (List.mem_of_getElem? (i := 5) rfl)) (wU_r19 _ (List.mem_of_getElem? (i := 4) rfl))
theorem g_X7_blame_142 : GoodIn uX7_blame (va_wsS yX7_blame.cls 142 yX7_isWay uX7_isWay) := gU_S (wU_r19 _ (List.mem_of_getElem? (i := 5) rfl)) (wU_r19 _ (List.mem_of_getElem? (i := 6) rfl)) (wU_r1 _ (List.mem_of_getElem? (i := 5) rfl)) (wU_r19 _ (List.mem_of_getElem? (i := 7) rfl))
theorem g_X7_blame_183 : GoodIn uX7_blame (wsV yX7_blame.cls 183 RX7 yX7_isStanding uX7_isStanding) := gU_V (wU_r25 _ (List.mem_of_getElem? (i := 9) rfl)) (wU_r25 _ (List.mem_of_getElem? (i := 10) rfl)) (wU_r25 _ (List.mem_of_getElem? (i := 11) rfl)) (wU_r1 _ (List.mem_of_getElem? (i := 5) rfl)) (wU_r25 _ (List.mem_of_getElem? (i := 12) rfl))
theorem g_X7_blame_202 : GoodIn uX7_blame (wsV yX7_blame.cls 202 RX7 yX7_goesIn uX7_goesIn) := gU_V (wU_r25 _ (List.mem_of_getElem? (i := 17) rfl)) (wU_r25 _ (List.mem_of_getElem? (i := 18) rfl)) (wU_r25 _ (List.mem_of_getElem? (i := 19) rfl)) (wU_r1 _ (List.mem_of_getElem? (i := 5) rfl)) (wU_r25 _ (List.mem_of_getElem? (i := 20) rfl))
theorem w_X7_blame_f180 : Cond.fieldLink yX7_blame.cls 180 (TX7 19).1 (TX7 19).2.1 (TX7 19).2.2.1 ∈ uX7_blame := List.mem_cons_of_mem _ (wU_r25 _ (List.mem_of_getElem? (i := 6) rfl))
theorem g_X7_blame_227 : GoodIn uX7_blame (wsV yX7_blame.cls 227 RX7 yX7_oftenOf uX7_oftenOf) := gU_V (wU_r31 _ (List.mem_of_getElem? (i := 6) rfl)) (wU_r31 _ (List.mem_of_getElem? (i := 7) rfl)) (wU_r31 _ (List.mem_of_getElem? (i := 8) rfl)) (wU_r1 _ (List.mem_of_getElem? (i := 5) rfl)) (wU_r31 _ (List.mem_of_getElem? (i := 9) rfl))
theorem w_X7_blame_f177 : Cond.fieldLink yX7_blame.cls 177 (TX7 18).1 (TX7 18).2.1 (TX7 18).2.2.1 ∈ uX7_blame := List.mem_cons_of_mem _ (wU_r25 _ (List.mem_of_getElem? (i := 5) rfl))
def f_X7_blame_75 (r33 : Int32 → Int32 → Int32 → Int32 → aSt → Option (Int32 × aSt)) (l1 : Int32) (l2 : Int32) (l4 : Int32) (s0 : Int32) (s1 : Int32) (S : aSt) : Option (Int32 × aSt) := (aLt (s1 ||| s0) (fun x6 => (aLt (l4 + (1 : Int32)) (fun x7 => (r33 l1 l2 x6 x7 S)))))
set_option maxRecDepth 20000 in
set_option maxHeartbeats 4000000 in
theorem v_X7_blame_75 {G : aG} (hM : aMo G) (r33 : Int32 → Int32 → Int32 → Int32 → aSt → Option (Int32 × aSt)) (hr33 : ∀ (l1 : Int32) (l2 : Int32) (l3 : Int32) (l4 : Int32) (S : aSt), aX G yX7_blame cX7_blame 5 (some .int) uX7_blame 5 mk_i (r33 l1 l2 l3 l4 S) 33 [some (.ref (0)), some (.int l1), some (.int l2), some (.int l3), some (.int l4)] [] S) (l1 : Int32) (l2 : Int32) (l4 : Int32) (s0 : Int32) (s1 : Int32) (S : aSt) : aX G yX7_blame cX7_blame 5 (some .int) uX7_blame 5 mk_i (f_X7_blame_75 r33 l1 l2 l4 s0 s1 S) 75 [some (.ref (0)), some (.int l1), some (.int l2), none, some (.int l4)] [.int s0, .int s1] S := by
  unfold f_X7_blame_75
  refine x_ior dX7_blame_75 ?_
  refine x_lti (fun x6 => ?_)
  refine x_istore_n dX7_blame_76 rfl (Nat.le_of_ble_eq_true rfl) rfl ?_
  refine x_iincL (w := (1 : Int32)) dX7_blame_77 rfl (by decide) (Nat.le_of_ble_eq_true rfl) rfl (fun x7 => ?_)
  refine x_goto (tgt := 33) dX7_blame_80 (by decide) ?_
  exact x_le (hr33 l1 l2 x6 x7 S) (And.intro rfl (And.intro rfl (And.intro rfl (And.intro rfl (And.intro rfl trivial)))))
def f_X7_blame_74 (r33 : Int32 → Int32 → Int32 → Int32 → aSt → Option (Int32 × aSt)) (l1 : Int32) (l2 : Int32) (l4 : Int32) (s0 : Int32) (S : aSt) : Option (Int32 × aSt) := (f_X7_blame_75 r33 l1 l2 l4 (0 : Int32) s0 S)
set_option maxRecDepth 20000 in
set_option maxHeartbeats 4000000 in
theorem v_X7_blame_74 {G : aG} (hM : aMo G) (r33 : Int32 → Int32 → Int32 → Int32 → aSt → Option (Int32 × aSt)) (hr33 : ∀ (l1 : Int32) (l2 : Int32) (l3 : Int32) (l4 : Int32) (S : aSt), aX G yX7_blame cX7_blame 5 (some .int) uX7_blame 5 mk_i (r33 l1 l2 l3 l4 S) 33 [some (.ref (0)), some (.int l1), some (.int l2), some (.int l3), some (.int l4)] [] S) (l1 : Int32) (l2 : Int32) (l4 : Int32) (s0 : Int32) (S : aSt) : aX G yX7_blame cX7_blame 5 (some .int) uX7_blame 5 mk_i (f_X7_blame_74 r33 l1 l2 l4 s0 S) 74 [some (.ref (0)), some (.int l1), some (.int l2), none, some (.int l4)] [.int s0] S := by
  unfold f_X7_blame_74
  refine x_iconst (0 : Int32) dX7_blame_74 (by decide) ?_
  exact x_le (v_X7_blame_75 hM r33 hr33 l1 l2 l4 (0 : Int32) s0 S) (And.intro rfl (And.intro rfl (And.intro rfl (And.intro rfl trivial))))
def f_X7_blame_33  : Nat → Int32 → Int32 → Int32 → Int32 → aSt → Option (Int32 × aSt)
  | 0, _, _, _, _, _ => none
  | n + 1, l1, l2, l3, l4, S => (if (8 : Int32) ≤ l4 then (some (l3, S)) else (aB (f_X7_goesIn l1 l4 S) (fun r4_ S4 => (if (S4.1 (0) 19) = l2 then (aB (f_X7_oftenOf l4 S4) (fun r5_ S5 => (if r5_ ≤ 0 then (f_X7_blame_74 (fun l1 l2 l3 l4 S => (f_X7_blame_33 n l1 l2 l3 l4 S)) l1 l2 l4 l3 S5) else (f_X7_blame_75 (fun l1 l2 l3 l4 S => (f_X7_blame_33 n l1 l2 l3 l4 S)) l1 l2 l4 ((1 : Int32) <<< ((S5.1 (0) 18) &&& 31)) l3 S5)))) else (f_X7_blame_74 (fun l1 l2 l3 l4 S => (f_X7_blame_33 n l1 l2 l3 l4 S)) l1 l2 l4 l3 S4)))))
set_option maxRecDepth 20000 in
set_option maxHeartbeats 4000000 in
theorem v_X7_blame_33 {G : aG} (hM : aMo G) : ∀ (n : Nat) (l1 : Int32) (l2 : Int32) (l3 : Int32) (l4 : Int32) (S : aSt), aX G yX7_blame cX7_blame 5 (some .int) uX7_blame 5 mk_i (f_X7_blame_33 n l1 l2 l3 l4 S) 33 [some (.ref (0)), some (.int l1), some (.int l2), some (.int l3), some (.int l4)] [] S := by
  intro n
  induction n with
  | zero => intro l1 l2 l3 l4 S; exact x_none
  | succ n ih =>
    intro l1 l2 l3 l4 S
    unfold f_X7_blame_33
    refine x_iload dX7_blame_33 rfl ?_
    refine x_bipush (8 : Int32) dX7_blame_35 (by decide) ?_
    refine x_icmp_ge (tgt := 83) dX7_blame_37 (by decide) ?_ ?_
    · refine x_iload_n dX7_blame_83 rfl rfl ?_
      exact x_iret dX7_blame_84 rfl
    · refine x_aload_n dX7_blame_40 rfl rfl ?_
      refine x_iload_n dX7_blame_41 rfl rfl ?_
      refine x_iload dX7_blame_42 rfl ?_
      refine x_b (fun r4_ S4 e4 => ?_)
      refine x_callVv (As := [.int l1, .int l4]) dX7_blame_44 (aMet_of e4 (m_X7_goesIn hM l1 l4 S)) g_X7_blame_202 rfl hM.1 rfl dd_X7_goesIn rfl rfl (Nat.le_of_ble_eq_true rfl) (Nat.le_of_ble_eq_true rfl) (Nat.le_of_ble_eq_true rfl) ?_
      refine x_iload_n dX7_blame_47 rfl rfl ?_
      refine x_aload_n dX7_blame_48 rfl rfl ?_
      refine x_getI (k := 0) (j := 19) dX7_blame_49 hM.1 rfl rfl (Nat.le_of_ble_eq_true rfl) (fun w h => List.mem_cons_of_mem _ (inlX7 w h)) w_X7_blame_f180 ?_
      refine x_iload_n dX7_blame_52 rfl rfl ?_
      refine x_icmp_ne (tgt := 74) dX7_blame_53 (by decide) ?_ ?_
      · exact x_le (v_X7_blame_74 hM (fun l1 l2 l3 l4 S => (f_X7_blame_33 n l1 l2 l3 l4 S)) ih l1 l2 l4 l3 S4) (And.intro rfl (And.intro rfl (And.intro rfl (And.intro rfl trivial))))
      · refine x_aload_n dX7_blame_56 rfl rfl ?_
        refine x_iload dX7_blame_57 rfl ?_
        refine x_b (fun r5_ S5 e5 => ?_)
        refine x_callVi (As := [.int l4]) dX7_blame_59 (aMet_of e5 (m_X7_oftenOf hM l4 S4)) g_X7_blame_227 rfl hM.1 rfl dd_X7_oftenOf rfl rfl (Nat.le_of_ble_eq_true rfl) (Nat.le_of_ble_eq_true rfl) (Nat.le_of_ble_eq_true rfl) ?_
        refine x_if_le (tgt := 74) dX7_blame_62 (by decide) ?_ ?_
        · exact x_le (v_X7_blame_74 hM (fun l1 l2 l3 l4 S => (f_X7_blame_33 n l1 l2 l3 l4 S)) ih l1 l2 l4 l3 S5) (And.intro rfl (And.intro rfl (And.intro rfl (And.intro rfl trivial))))
        · refine x_iconst (1 : Int32) dX7_blame_65 (by decide) ?_
          refine x_aload_n dX7_blame_66 rfl rfl ?_
          refine x_getI (k := 0) (j := 18) dX7_blame_67 hM.1 rfl rfl (Nat.le_of_ble_eq_true rfl) (fun w h => List.mem_cons_of_mem _ (inlX7 w h)) w_X7_blame_f177 ?_
          refine x_ishl dX7_blame_70 ?_
          refine x_goto (tgt := 75) dX7_blame_71 (by decide) ?_
          exact x_le (v_X7_blame_75 hM (fun l1 l2 l3 l4 S => (f_X7_blame_33 n l1 l2 l3 l4 S)) ih l1 l2 l4 ((1 : Int32) <<< ((S5.1 (0) 18) &&& 31)) l3 S5) (And.intro rfl (And.intro rfl (And.intro rfl (And.intro rfl trivial))))
def f_X7_blame (p1 : Int32) (p2 : Int32) (S : aSt) : Option (Int32 × aSt) := (aB (f_X7_isTree p1 S) (fun r1_ S1 => (if r1_ = 0 then (some ((-1 : Int32), S1)) else (aB (f_X7_isWay p2 S1) (fun r2_ S2 => (if r2_ = 0 then (some ((-1 : Int32), S2)) else (aB (f_X7_isStanding p1 S2) (fun r3_ S3 => (if r3_ = 0 then (some ((-3 : Int32), S3)) else (f_X7_blame_33 aF p1 p2 (0 : Int32) (-1 : Int32) S3))))))))))
set_option maxRecDepth 20000 in
set_option maxHeartbeats 4000000 in
theorem m_X7_blame {G : aG} (hM : aMo G) (p1 : Int32) (p2 : Int32) (S : aSt) : aMet G yX7_blame uX7_blame 5 mk_i (f_X7_blame p1 p2 S) [.ref (0), .int p1, .int p2] S := by
  refine x_met (cc := cX7_blame) (nL := 5) (ret := (some .int)) (L := [some (.ref (0)), some (.int p1), some (.int p2), none, none]) (by decide +kernel) rfl (And.intro rfl (And.intro rfl (And.intro rfl trivial))) (Nat.le_of_ble_eq_true rfl) ?_
  unfold f_X7_blame
  refine x_aload_n dX7_blame_0 rfl rfl ?_
  refine x_iload_n dX7_blame_1 rfl rfl ?_
  refine x_b (fun r1_ S1 e1 => ?_)
  refine x_callVi (As := [.int p1]) dX7_blame_2 (aMet_of e1 (m_X7_isTree hM p1 S)) g_X7_blame_138 rfl hM.1 rfl dd_X7_isTree rfl rfl (Nat.le_of_ble_eq_true rfl) (Nat.le_of_ble_eq_true rfl) (Nat.le_of_ble_eq_true rfl) ?_
  refine x_if_eq (tgt := 15) dX7_blame_5 (by decide) ?_ ?_
  · refine x_iconst (-1 : Int32) dX7_blame_15 (by decide) ?_
    exact x_iret dX7_blame_16 rfl
  · refine x_iload_n dX7_blame_8 rfl rfl ?_
    refine x_b (fun r2_ S2 e2 => ?_)
    refine x_callSi (As := [.int p2]) dX7_blame_9 (aMet_of e2 (m_X7_isWay p2 S1)) g_X7_blame_142 rfl dd_X7_isWay rfl rfl (Nat.le_of_ble_eq_true rfl) (Nat.le_of_ble_eq_true rfl) (Nat.le_of_ble_eq_true rfl) ?_
    refine x_if_ne (tgt := 17) dX7_blame_12 (by decide) ?_ ?_
    · refine x_aload_n dX7_blame_17 rfl rfl ?_
      refine x_iload_n dX7_blame_18 rfl rfl ?_
      refine x_b (fun r3_ S3 e3 => ?_)
      refine x_callVi (As := [.int p1]) dX7_blame_19 (aMet_of e3 (m_X7_isStanding hM p1 S2)) g_X7_blame_183 rfl hM.1 rfl dd_X7_isStanding rfl rfl (Nat.le_of_ble_eq_true rfl) (Nat.le_of_ble_eq_true rfl) (Nat.le_of_ble_eq_true rfl) ?_
      refine x_if_ne (tgt := 28) dX7_blame_22 (by decide) ?_ ?_
      · refine x_iconst (0 : Int32) dX7_blame_28 (by decide) ?_
        refine x_istore_n dX7_blame_29 rfl (Nat.le_of_ble_eq_true rfl) rfl ?_
        refine x_iconst (-1 : Int32) dX7_blame_30 (by decide) ?_
        refine x_istore dX7_blame_31 (Nat.le_of_ble_eq_true rfl) rfl ?_
        exact x_le (v_X7_blame_33 hM aF p1 p2 (0 : Int32) (-1 : Int32) S3) (And.intro rfl (And.intro rfl (And.intro rfl (And.intro rfl (And.intro rfl trivial)))))
      · refine x_bipush (-3 : Int32) dX7_blame_25 (by decide) ?_
        exact x_iret dX7_blame_27 rfl
    · refine x_iconst (-1 : Int32) dX7_blame_15 (by decide) ?_
      exact x_iret dX7_blame_16 rfl
theorem g_X7_knock_138 : GoodIn uX7_knock (wsV yX7_knock.cls 138 RX7 yX7_isTree uX7_isTree) := gU_V (wU_r19 _ (List.mem_of_getElem? (i := 1) rfl)) (wU_r19 _ (List.mem_of_getElem? (i := 2) rfl)) (wU_r19 _ (List.mem_of_getElem? (i := 3) rfl)) (wU_r1 _ (List.mem_of_getElem? (i := 5) rfl)) (wU_r19 _ (List.mem_of_getElem? (i := 4) rfl))
theorem g_X7_knock_41 : GoodIn uX7_knock (va_wsS yX7_knock.cls 41 yX7_in uX7_in) := gU_S (wU_r6 _ (List.mem_of_getElem? (i := 4) rfl)) (wU_r6 _ (List.mem_of_getElem? (i := 5) rfl)) (wU_r1 _ (List.mem_of_getElem? (i := 5) rfl)) (wU_r6 _ (List.mem_of_getElem? (i := 6) rfl))
theorem g_X7_knock_183 : GoodIn uX7_knock (wsV yX7_knock.cls 183 RX7 yX7_isStanding uX7_isStanding) := gU_V (wU_r25 _ (List.mem_of_getElem? (i := 9) rfl)) (wU_r25 _ (List.mem_of_getElem? (i := 10) rfl)) (wU_r25 _ (List.mem_of_getElem? (i := 11) rfl)) (wU_r1 _ (List.mem_of_getElem? (i := 5) rfl)) (wU_r25 _ (List.mem_of_getElem? (i := 12) rfl))
theorem w_X7_knock_f9 : Cond.fieldLink yX7_knock.cls 9 (TX7 1).1 (TX7 1).2.1 (TX7 1).2.2.1 ∈ uX7_knock := List.mem_cons_of_mem _ (wU_r4 _ (List.mem_of_getElem? (i := 14) rfl))
theorem g_X7_knock_202 : GoodIn uX7_knock (wsV yX7_knock.cls 202 RX7 yX7_goesIn uX7_goesIn) := gU_V (wU_r25 _ (List.mem_of_getElem? (i := 17) rfl)) (wU_r25 _ (List.mem_of_getElem? (i := 18) rfl)) (wU_r25 _ (List.mem_of_getElem? (i := 19) rfl)) (wU_r1 _ (List.mem_of_getElem? (i := 5) rfl)) (wU_r25 _ (List.mem_of_getElem? (i := 20) rfl))
theorem w_X7_knock_f177 : Cond.fieldLink yX7_knock.cls 177 (TX7 18).1 (TX7 18).2.1 (TX7 18).2.2.1 ∈ uX7_knock := List.mem_cons_of_mem _ (wU_r25 _ (List.mem_of_getElem? (i := 5) rfl))
def f_X7_knock_90 (r47 : Int32 → Int32 → Int32 → Int32 → Int32 → aSt → Option (Int32 × aSt)) (l1 : Int32) (l2 : Int32) (l3 : Int32) (l5 : Int32) (s0 : Int32) (s1 : Int32) (S : aSt) : Option (Int32 × aSt) := (aLt (s1 ||| s0) (fun x8 => (aLt (l5 + (1 : Int32)) (fun x9 => (r47 l1 l2 l3 x8 x9 S)))))
set_option maxRecDepth 20000 in
set_option maxHeartbeats 4000000 in
theorem v_X7_knock_90 {G : aG} (hM : aMo G) (r47 : Int32 → Int32 → Int32 → Int32 → Int32 → aSt → Option (Int32 × aSt)) (hr47 : ∀ (l1 : Int32) (l2 : Int32) (l3 : Int32) (l4 : Int32) (l5 : Int32) (S : aSt), aX G yX7_knock cX7_knock 6 (some .int) uX7_knock 5 mk_i (r47 l1 l2 l3 l4 l5 S) 47 [some (.ref (0)), some (.int l1), some (.int l2), some (.int l3), some (.int l4), some (.int l5)] [] S) (l1 : Int32) (l2 : Int32) (l3 : Int32) (l5 : Int32) (s0 : Int32) (s1 : Int32) (S : aSt) : aX G yX7_knock cX7_knock 6 (some .int) uX7_knock 5 mk_i (f_X7_knock_90 r47 l1 l2 l3 l5 s0 s1 S) 90 [some (.ref (0)), some (.int l1), some (.int l2), some (.int l3), none, some (.int l5)] [.int s0, .int s1] S := by
  unfold f_X7_knock_90
  refine x_ior dX7_knock_90 ?_
  refine x_lti (fun x8 => ?_)
  refine x_istore dX7_knock_91 (Nat.le_of_ble_eq_true rfl) rfl ?_
  refine x_iincL (w := (1 : Int32)) dX7_knock_93 rfl (by decide) (Nat.le_of_ble_eq_true rfl) rfl (fun x9 => ?_)
  refine x_goto (tgt := 47) dX7_knock_96 (by decide) ?_
  exact x_le (hr47 l1 l2 l3 x8 x9 S) (And.intro rfl (And.intro rfl (And.intro rfl (And.intro rfl (And.intro rfl (And.intro rfl trivial))))))
def f_X7_knock_47  : Nat → Int32 → Int32 → Int32 → Int32 → Int32 → aSt → Option (Int32 × aSt)
  | 0, _, _, _, _, _, _ => none
  | n + 1, l1, l2, l3, l4, l5, S => (if (10 : Int32) ≤ l5 then (if ((146 : Int32) + l1) < 0 ∨ 979 ≤ (((146 : Int32) + l1)).toNatClampNeg then none else (aLt (aUi S (1) (((146 : Int32) + l1)).toNatClampNeg l3) (fun S5 => (some (l4, S5))))) else (if ((146 : Int32) + l1) < 0 ∨ 979 ≤ (((146 : Int32) + l1)).toNatClampNeg then none else (aLt (aUi S (1) (((146 : Int32) + l1)).toNatClampNeg l5) (fun S6 => (aB (f_X7_goesIn l1 (-1 : Int32) S6) (fun r7_ S7 => (if (S7.1 (0) 18) = l2 then (f_X7_knock_90 (fun l1 l2 l3 l4 l5 S => (f_X7_knock_47 n l1 l2 l3 l4 l5 S)) l1 l2 l3 l5 ((1 : Int32) <<< (l5 &&& 31)) l4 S7) else (f_X7_knock_90 (fun l1 l2 l3 l4 l5 S => (f_X7_knock_47 n l1 l2 l3 l4 l5 S)) l1 l2 l3 l5 (0 : Int32) l4 S7))))))))
set_option maxRecDepth 20000 in
set_option maxHeartbeats 4000000 in
theorem v_X7_knock_47 {G : aG} (hM : aMo G) : ∀ (n : Nat) (l1 : Int32) (l2 : Int32) (l3 : Int32) (l4 : Int32) (l5 : Int32) (S : aSt), aX G yX7_knock cX7_knock 6 (some .int) uX7_knock 5 mk_i (f_X7_knock_47 n l1 l2 l3 l4 l5 S) 47 [some (.ref (0)), some (.int l1), some (.int l2), some (.int l3), some (.int l4), some (.int l5)] [] S := by
  intro n
  induction n with
  | zero => intro l1 l2 l3 l4 l5 S; exact x_none
  | succ n ih =>
    intro l1 l2 l3 l4 l5 S
    unfold f_X7_knock_47
    refine x_iload dX7_knock_47 rfl ?_
    refine x_bipush (10 : Int32) dX7_knock_49 (by decide) ?_
    refine x_icmp_ge (tgt := 99) dX7_knock_51 (by decide) ?_ ?_
    · refine x_aload_n dX7_knock_99 rfl rfl ?_
      refine x_getR (r := 1) (k := 0) (j := 1) dX7_knock_100 hM.1 rfl rfl (Nat.le_of_ble_eq_true rfl) (fun w h => List.mem_cons_of_mem _ (inlX7 w h)) w_X7_knock_f9 ?_
      refine x_sipush (146 : Int32) dX7_knock_103 (by decide) ?_
      refine x_iload_n dX7_knock_106 rfl rfl ?_
      refine x_iadd dX7_knock_107 ?_
      refine x_iload_n dX7_knock_108 rfl rfl ?_
      refine x_iast dX7_knock_109 hM.2.1 ?_
      refine x_ltS (fun S5 => ?_)
      refine x_iload dX7_knock_110 rfl ?_
      exact x_iret dX7_knock_112 rfl
    · refine x_aload_n dX7_knock_54 rfl rfl ?_
      refine x_getR (r := 1) (k := 0) (j := 1) dX7_knock_55 hM.1 rfl rfl (Nat.le_of_ble_eq_true rfl) (fun w h => List.mem_cons_of_mem _ (inlX7 w h)) w_X7_knock_f9 ?_
      refine x_sipush (146 : Int32) dX7_knock_58 (by decide) ?_
      refine x_iload_n dX7_knock_61 rfl rfl ?_
      refine x_iadd dX7_knock_62 ?_
      refine x_iload dX7_knock_63 rfl ?_
      refine x_iast dX7_knock_65 hM.2.1 ?_
      refine x_ltS (fun S6 => ?_)
      refine x_aload_n dX7_knock_66 rfl rfl ?_
      refine x_iload_n dX7_knock_67 rfl rfl ?_
      refine x_iconst (-1 : Int32) dX7_knock_68 (by decide) ?_
      refine x_b (fun r7_ S7 e7 => ?_)
      refine x_callVv (As := [.int l1, .int (-1 : Int32)]) dX7_knock_69 (aMet_of e7 (m_X7_goesIn hM l1 (-1 : Int32) S6)) g_X7_knock_202 rfl hM.1 rfl dd_X7_goesIn rfl rfl (Nat.le_of_ble_eq_true rfl) (Nat.le_of_ble_eq_true rfl) (Nat.le_of_ble_eq_true rfl) ?_
      refine x_iload dX7_knock_72 rfl ?_
      refine x_aload_n dX7_knock_74 rfl rfl ?_
      refine x_getI (k := 0) (j := 18) dX7_knock_75 hM.1 rfl rfl (Nat.le_of_ble_eq_true rfl) (fun w h => List.mem_cons_of_mem _ (inlX7 w h)) w_X7_knock_f177 ?_
      refine x_iload_n dX7_knock_78 rfl rfl ?_
      refine x_icmp_ne (tgt := 89) dX7_knock_79 (by decide) ?_ ?_
      · refine x_iconst (0 : Int32) dX7_knock_89 (by decide) ?_
        exact x_le (v_X7_knock_90 hM (fun l1 l2 l3 l4 l5 S => (f_X7_knock_47 n l1 l2 l3 l4 l5 S)) ih l1 l2 l3 l5 (0 : Int32) l4 S7) (And.intro rfl (And.intro rfl (And.intro rfl (And.intro rfl (And.intro rfl trivial)))))
      · refine x_iconst (1 : Int32) dX7_knock_82 (by decide) ?_
        refine x_iload dX7_knock_83 rfl ?_
        refine x_ishl dX7_knock_85 ?_
        refine x_goto (tgt := 90) dX7_knock_86 (by decide) ?_
        exact x_le (v_X7_knock_90 hM (fun l1 l2 l3 l4 l5 S => (f_X7_knock_47 n l1 l2 l3 l4 l5 S)) ih l1 l2 l3 l5 ((1 : Int32) <<< (l5 &&& 31)) l4 S7) (And.intro rfl (And.intro rfl (And.intro rfl (And.intro rfl (And.intro rfl trivial)))))
def f_X7_knock (p1 : Int32) (p2 : Int32) (S : aSt) : Option (Int32 × aSt) := (aB (f_X7_isTree p1 S) (fun r1_ S1 => (if r1_ = 0 then (some ((-1 : Int32), S1)) else (aB (f_X7_in p2 (0 : Int32) (4 : Int32) S1) (fun r2_ S2 => (if r2_ = 0 then (some ((-1 : Int32), S2)) else (aB (f_X7_isStanding p1 S2) (fun r3_ S3 => (if r3_ = 0 then (some ((-3 : Int32), S3)) else (if ((146 : Int32) + p1) < 0 ∨ 979 ≤ (((146 : Int32) + p1)).toNatClampNeg then none else (aLt (S3.1 (1) (((146 : Int32) + p1)).toNatClampNeg) (fun x4 => (f_X7_knock_47 aF p1 p2 x4 (0 : Int32) (0 : Int32) S3)))))))))))))
set_option maxRecDepth 20000 in
set_option maxHeartbeats 4000000 in
theorem m_X7_knock {G : aG} (hM : aMo G) (p1 : Int32) (p2 : Int32) (S : aSt) : aMet G yX7_knock uX7_knock 5 mk_i (f_X7_knock p1 p2 S) [.ref (0), .int p1, .int p2] S := by
  refine x_met (cc := cX7_knock) (nL := 6) (ret := (some .int)) (L := [some (.ref (0)), some (.int p1), some (.int p2), none, none, none]) (by decide +kernel) rfl (And.intro rfl (And.intro rfl (And.intro rfl trivial))) (Nat.le_of_ble_eq_true rfl) ?_
  unfold f_X7_knock
  refine x_aload_n dX7_knock_0 rfl rfl ?_
  refine x_iload_n dX7_knock_1 rfl rfl ?_
  refine x_b (fun r1_ S1 e1 => ?_)
  refine x_callVi (As := [.int p1]) dX7_knock_2 (aMet_of e1 (m_X7_isTree hM p1 S)) g_X7_knock_138 rfl hM.1 rfl dd_X7_isTree rfl rfl (Nat.le_of_ble_eq_true rfl) (Nat.le_of_ble_eq_true rfl) (Nat.le_of_ble_eq_true rfl) ?_
  refine x_if_eq (tgt := 17) dX7_knock_5 (by decide) ?_ ?_
  · refine x_iconst (-1 : Int32) dX7_knock_17 (by decide) ?_
    exact x_iret dX7_knock_18 rfl
  · refine x_iload_n dX7_knock_8 rfl rfl ?_
    refine x_iconst (0 : Int32) dX7_knock_9 (by decide) ?_
    refine x_iconst (4 : Int32) dX7_knock_10 (by decide) ?_
    refine x_b (fun r2_ S2 e2 => ?_)
    refine x_callSi (As := [.int p2, .int (0 : Int32), .int (4 : Int32)]) dX7_knock_11 (aMet_of e2 (m_X7_in p2 (0 : Int32) (4 : Int32) S1)) g_X7_knock_41 rfl dd_X7_in rfl rfl (Nat.le_of_ble_eq_true rfl) (Nat.le_of_ble_eq_true rfl) (Nat.le_of_ble_eq_true rfl) ?_
    refine x_if_ne (tgt := 19) dX7_knock_14 (by decide) ?_ ?_
    · refine x_aload_n dX7_knock_19 rfl rfl ?_
      refine x_iload_n dX7_knock_20 rfl rfl ?_
      refine x_b (fun r3_ S3 e3 => ?_)
      refine x_callVi (As := [.int p1]) dX7_knock_21 (aMet_of e3 (m_X7_isStanding hM p1 S2)) g_X7_knock_183 rfl hM.1 rfl dd_X7_isStanding rfl rfl (Nat.le_of_ble_eq_true rfl) (Nat.le_of_ble_eq_true rfl) (Nat.le_of_ble_eq_true rfl) ?_
      refine x_if_ne (tgt := 30) dX7_knock_24 (by decide) ?_ ?_
      · refine x_aload_n dX7_knock_30 rfl rfl ?_
        refine x_getR (r := 1) (k := 0) (j := 1) dX7_knock_31 hM.1 rfl rfl (Nat.le_of_ble_eq_true rfl) (fun w h => List.mem_cons_of_mem _ (inlX7 w h)) w_X7_knock_f9 ?_
        refine x_sipush (146 : Int32) dX7_knock_34 (by decide) ?_
        refine x_iload_n dX7_knock_37 rfl rfl ?_
        refine x_iadd dX7_knock_38 ?_
        refine x_iald dX7_knock_39 hM.2.1 ?_
        refine x_lti (fun x4 => ?_)
        refine x_istore_n dX7_knock_40 rfl (Nat.le_of_ble_eq_true rfl) rfl ?_
        refine x_iconst (0 : Int32) dX7_knock_41 (by decide) ?_
        refine x_istore dX7_knock_42 (Nat.le_of_ble_eq_true rfl) rfl ?_
        refine x_iconst (0 : Int32) dX7_knock_44 (by decide) ?_
        refine x_istore dX7_knock_45 (Nat.le_of_ble_eq_true rfl) rfl ?_
        exact x_le (v_X7_knock_47 hM aF p1 p2 x4 (0 : Int32) (0 : Int32) S3) (And.intro rfl (And.intro rfl (And.intro rfl (And.intro rfl (And.intro rfl (And.intro rfl trivial))))))
      · refine x_bipush (-3 : Int32) dX7_knock_27 (by decide) ?_
        exact x_iret dX7_knock_29 rfl
    · refine x_iconst (-1 : Int32) dX7_knock_17 (by decide) ?_
      exact x_iret dX7_knock_18 rfl
theorem g_X7_limbs_138 : GoodIn uX7_limbs (wsV yX7_limbs.cls 138 RX7 yX7_isTree uX7_isTree) := gU_V (wU_r19 _ (List.mem_of_getElem? (i := 1) rfl)) (wU_r19 _ (List.mem_of_getElem? (i := 2) rfl)) (wU_r19 _ (List.mem_of_getElem? (i := 3) rfl)) (wU_r1 _ (List.mem_of_getElem? (i := 5) rfl)) (wU_r19 _ (List.mem_of_getElem? (i := 4) rfl))
theorem g_X7_limbs_183 : GoodIn uX7_limbs (wsV yX7_limbs.cls 183 RX7 yX7_isStanding uX7_isStanding) := gU_V (wU_r25 _ (List.mem_of_getElem? (i := 9) rfl)) (wU_r25 _ (List.mem_of_getElem? (i := 10) rfl)) (wU_r25 _ (List.mem_of_getElem? (i := 11) rfl)) (wU_r1 _ (List.mem_of_getElem? (i := 5) rfl)) (wU_r25 _ (List.mem_of_getElem? (i := 12) rfl))
theorem w_X7_limbs_f9 : Cond.fieldLink yX7_limbs.cls 9 (TX7 1).1 (TX7 1).2.1 (TX7 1).2.2.1 ∈ uX7_limbs := List.mem_cons_of_mem _ (wU_r4 _ (List.mem_of_getElem? (i := 14) rfl))
theorem g_X7_limbs_202 : GoodIn uX7_limbs (wsV yX7_limbs.cls 202 RX7 yX7_goesIn uX7_goesIn) := gU_V (wU_r25 _ (List.mem_of_getElem? (i := 17) rfl)) (wU_r25 _ (List.mem_of_getElem? (i := 18) rfl)) (wU_r25 _ (List.mem_of_getElem? (i := 19) rfl)) (wU_r1 _ (List.mem_of_getElem? (i := 5) rfl)) (wU_r25 _ (List.mem_of_getElem? (i := 20) rfl))
theorem w_X7_limbs_f177 : Cond.fieldLink yX7_limbs.cls 177 (TX7 18).1 (TX7 18).2.1 (TX7 18).2.2.1 ∈ uX7_limbs := List.mem_cons_of_mem _ (wU_r25 _ (List.mem_of_getElem? (i := 5) rfl))
def f_X7_limbs_90  (l1 : Int32) (l2 : Int32) (l3 : Int32) (S : aSt) : Option (Int32 × aSt) := (if ((134 : Int32) + l1) < 0 ∨ 979 ≤ (((134 : Int32) + l1)).toNatClampNeg then none else (aLt (aUi S (1) (((134 : Int32) + l1)).toNatClampNeg l2) (fun S6 => (some (l3, S6)))))
set_option maxRecDepth 20000 in
set_option maxHeartbeats 4000000 in
theorem v_X7_limbs_90 {G : aG} (hM : aMo G) (l1 : Int32) (l2 : Int32) (l3 : Int32) (S : aSt) : aX G yX7_limbs cX7_limbs 5 (some .int) uX7_limbs 5 mk_i (f_X7_limbs_90 l1 l2 l3 S) 90 [some (.ref (0)), some (.int l1), some (.int l2), some (.int l3), none] [] S := by
  unfold f_X7_limbs_90
  refine x_aload_n dX7_limbs_90 rfl rfl ?_
  refine x_getR (r := 1) (k := 0) (j := 1) dX7_limbs_91 hM.1 rfl rfl (Nat.le_of_ble_eq_true rfl) (fun w h => List.mem_cons_of_mem _ (inlX7 w h)) w_X7_limbs_f9 ?_
  refine x_sipush (134 : Int32) dX7_limbs_94 (by decide) ?_
  refine x_iload_n dX7_limbs_97 rfl rfl ?_
  refine x_iadd dX7_limbs_98 ?_
  refine x_iload_n dX7_limbs_99 rfl rfl ?_
  refine x_iast dX7_limbs_100 hM.2.1 ?_
  refine x_ltS (fun S6 => ?_)
  refine x_iload_n dX7_limbs_101 rfl rfl ?_
  exact x_iret dX7_limbs_102 rfl
def f_X7_limbs_83 (r38 : Int32 → Int32 → Int32 → Int32 → aSt → Option (Int32 × aSt)) (l1 : Int32) (l2 : Int32) (l4 : Int32) (s0 : Int32) (S : aSt) : Option (Int32 × aSt) := (aLt (l4 + (1 : Int32)) (fun x7 => (r38 l1 l2 s0 x7 S)))
set_option maxRecDepth 20000 in
set_option maxHeartbeats 4000000 in
theorem v_X7_limbs_83 {G : aG} (hM : aMo G) (r38 : Int32 → Int32 → Int32 → Int32 → aSt → Option (Int32 × aSt)) (hr38 : ∀ (l1 : Int32) (l2 : Int32) (l3 : Int32) (l4 : Int32) (S : aSt), aX G yX7_limbs cX7_limbs 5 (some .int) uX7_limbs 5 mk_i (r38 l1 l2 l3 l4 S) 38 [some (.ref (0)), some (.int l1), some (.int l2), some (.int l3), some (.int l4)] [] S) (l1 : Int32) (l2 : Int32) (l4 : Int32) (s0 : Int32) (S : aSt) : aX G yX7_limbs cX7_limbs 5 (some .int) uX7_limbs 5 mk_i (f_X7_limbs_83 r38 l1 l2 l4 s0 S) 83 [some (.ref (0)), some (.int l1), some (.int l2), none, some (.int l4)] [.int s0] S := by
  unfold f_X7_limbs_83
  refine x_istore_n dX7_limbs_83 rfl (Nat.le_of_ble_eq_true rfl) rfl ?_
  refine x_iincL (w := (1 : Int32)) dX7_limbs_84 rfl (by decide) (Nat.le_of_ble_eq_true rfl) rfl (fun x7 => ?_)
  refine x_goto (tgt := 38) dX7_limbs_87 (by decide) ?_
  exact x_le (hr38 l1 l2 s0 x7 S) (And.intro rfl (And.intro rfl (And.intro rfl (And.intro rfl (And.intro rfl trivial)))))
def f_X7_limbs_38  : Nat → Int32 → Int32 → Int32 → Int32 → aSt → Option (Int32 × aSt)
  | 0, _, _, _, _, _ => none
  | n + 1, l1, l2, l3, l4, S => (if l2 < l4 then (f_X7_limbs_90 l1 l2 l3 S) else (if l3 = (-5 : Int32) then (if ((134 : Int32) + l1) < 0 ∨ 979 ≤ (((134 : Int32) + l1)).toNatClampNeg then none else (aLt (aUi S (1) (((134 : Int32) + l1)).toNatClampNeg (l2 - l4)) (fun S4 => (aB (f_X7_goesIn l1 (-1 : Int32) S4) (fun r5_ S5 => (if (S5.1 (0) 18) = 0 then (f_X7_limbs_83 (fun l1 l2 l3 l4 S => (f_X7_limbs_38 n l1 l2 l3 l4 S)) l1 l2 l4 l4 S5) else (f_X7_limbs_83 (fun l1 l2 l3 l4 S => (f_X7_limbs_38 n l1 l2 l3 l4 S)) l1 l2 l4 l3 S5))))))) else (f_X7_limbs_90 l1 l2 l3 S)))
set_option maxRecDepth 20000 in
set_option maxHeartbeats 4000000 in
theorem v_X7_limbs_38 {G : aG} (hM : aMo G) : ∀ (n : Nat) (l1 : Int32) (l2 : Int32) (l3 : Int32) (l4 : Int32) (S : aSt), aX G yX7_limbs cX7_limbs 5 (some .int) uX7_limbs 5 mk_i (f_X7_limbs_38 n l1 l2 l3 l4 S) 38 [some (.ref (0)), some (.int l1), some (.int l2), some (.int l3), some (.int l4)] [] S := by
  intro n
  induction n with
  | zero => intro l1 l2 l3 l4 S; exact x_none
  | succ n ih =>
    intro l1 l2 l3 l4 S
    unfold f_X7_limbs_38
    refine x_iload dX7_limbs_38 rfl ?_
    refine x_iload_n dX7_limbs_40 rfl rfl ?_
    refine x_icmp_gt (tgt := 90) dX7_limbs_41 (by decide) ?_ ?_
    · exact x_le (v_X7_limbs_90 hM l1 l2 l3 S) (And.intro rfl (And.intro rfl (And.intro rfl (And.intro rfl trivial))))
    · refine x_iload_n dX7_limbs_44 rfl rfl ?_
      refine x_bipush (-5 : Int32) dX7_limbs_45 (by decide) ?_
      refine x_icmp_ne (tgt := 90) dX7_limbs_47 (by decide) ?_ ?_
      · exact x_le (v_X7_limbs_90 hM l1 l2 l3 S) (And.intro rfl (And.intro rfl (And.intro rfl (And.intro rfl trivial))))
      · refine x_aload_n dX7_limbs_50 rfl rfl ?_
        refine x_getR (r := 1) (k := 0) (j := 1) dX7_limbs_51 hM.1 rfl rfl (Nat.le_of_ble_eq_true rfl) (fun w h => List.mem_cons_of_mem _ (inlX7 w h)) w_X7_limbs_f9 ?_
        refine x_sipush (134 : Int32) dX7_limbs_54 (by decide) ?_
        refine x_iload_n dX7_limbs_57 rfl rfl ?_
        refine x_iadd dX7_limbs_58 ?_
        refine x_iload_n dX7_limbs_59 rfl rfl ?_
        refine x_iload dX7_limbs_60 rfl ?_
        refine x_isub dX7_limbs_62 ?_
        refine x_iast dX7_limbs_63 hM.2.1 ?_
        refine x_ltS (fun S4 => ?_)
        refine x_aload_n dX7_limbs_64 rfl rfl ?_
        refine x_iload_n dX7_limbs_65 rfl rfl ?_
        refine x_iconst (-1 : Int32) dX7_limbs_66 (by decide) ?_
        refine x_b (fun r5_ S5 e5 => ?_)
        refine x_callVv (As := [.int l1, .int (-1 : Int32)]) dX7_limbs_67 (aMet_of e5 (m_X7_goesIn hM l1 (-1 : Int32) S4)) g_X7_limbs_202 rfl hM.1 rfl dd_X7_goesIn rfl rfl (Nat.le_of_ble_eq_true rfl) (Nat.le_of_ble_eq_true rfl) (Nat.le_of_ble_eq_true rfl) ?_
        refine x_aload_n dX7_limbs_70 rfl rfl ?_
        refine x_getI (k := 0) (j := 18) dX7_limbs_71 hM.1 rfl rfl (Nat.le_of_ble_eq_true rfl) (fun w h => List.mem_cons_of_mem _ (inlX7 w h)) w_X7_limbs_f177 ?_
        refine x_if_ne (tgt := 82) dX7_limbs_74 (by decide) ?_ ?_
        · refine x_iload_n dX7_limbs_82 rfl rfl ?_
          exact x_le (v_X7_limbs_83 hM (fun l1 l2 l3 l4 S => (f_X7_limbs_38 n l1 l2 l3 l4 S)) ih l1 l2 l4 l3 S5) (And.intro rfl (And.intro rfl (And.intro rfl (And.intro rfl trivial))))
        · refine x_iload dX7_limbs_77 rfl ?_
          refine x_goto (tgt := 83) dX7_limbs_79 (by decide) ?_
          exact x_le (v_X7_limbs_83 hM (fun l1 l2 l3 l4 S => (f_X7_limbs_38 n l1 l2 l3 l4 S)) ih l1 l2 l4 l4 S5) (And.intro rfl (And.intro rfl (And.intro rfl (And.intro rfl trivial))))
def f_X7_limbs (p1 : Int32) (S : aSt) : Option (Int32 × aSt) := (aB (f_X7_isTree p1 S) (fun r1_ S1 => (if r1_ = 0 then (some ((-1 : Int32), S1)) else (aB (f_X7_isStanding p1 S1) (fun r2_ S2 => (if r2_ = 0 then (some ((-3 : Int32), S2)) else (if ((134 : Int32) + p1) < 0 ∨ 979 ≤ (((134 : Int32) + p1)).toNatClampNeg then none else (aLt (S2.1 (1) (((134 : Int32) + p1)).toNatClampNeg) (fun x3 => (f_X7_limbs_38 aF p1 x3 (-5 : Int32) (0 : Int32) S2))))))))))
set_option maxRecDepth 20000 in
set_option maxHeartbeats 4000000 in
theorem m_X7_limbs {G : aG} (hM : aMo G) (p1 : Int32) (S : aSt) : aMet G yX7_limbs uX7_limbs 5 mk_i (f_X7_limbs p1 S) [.ref (0), .int p1] S := by
  refine x_met (cc := cX7_limbs) (nL := 5) (ret := (some .int)) (L := [some (.ref (0)), some (.int p1), none, none, none]) (by decide +kernel) rfl (And.intro rfl (And.intro rfl trivial)) (Nat.le_of_ble_eq_true rfl) ?_
  unfold f_X7_limbs
  refine x_aload_n dX7_limbs_0 rfl rfl ?_
  refine x_iload_n dX7_limbs_1 rfl rfl ?_
  refine x_b (fun r1_ S1 e1 => ?_)
  refine x_callVi (As := [.int p1]) dX7_limbs_2 (aMet_of e1 (m_X7_isTree hM p1 S)) g_X7_limbs_138 rfl hM.1 rfl dd_X7_isTree rfl rfl (Nat.le_of_ble_eq_true rfl) (Nat.le_of_ble_eq_true rfl) (Nat.le_of_ble_eq_true rfl) ?_
  refine x_if_ne (tgt := 10) dX7_limbs_5 (by decide) ?_ ?_
  · refine x_aload_n dX7_limbs_10 rfl rfl ?_
    refine x_iload_n dX7_limbs_11 rfl rfl ?_
    refine x_b (fun r2_ S2 e2 => ?_)
    refine x_callVi (As := [.int p1]) dX7_limbs_12 (aMet_of e2 (m_X7_isStanding hM p1 S1)) g_X7_limbs_183 rfl hM.1 rfl dd_X7_isStanding rfl rfl (Nat.le_of_ble_eq_true rfl) (Nat.le_of_ble_eq_true rfl) (Nat.le_of_ble_eq_true rfl) ?_
    refine x_if_ne (tgt := 21) dX7_limbs_15 (by decide) ?_ ?_
    · refine x_aload_n dX7_limbs_21 rfl rfl ?_
      refine x_getR (r := 1) (k := 0) (j := 1) dX7_limbs_22 hM.1 rfl rfl (Nat.le_of_ble_eq_true rfl) (fun w h => List.mem_cons_of_mem _ (inlX7 w h)) w_X7_limbs_f9 ?_
      refine x_sipush (134 : Int32) dX7_limbs_25 (by decide) ?_
      refine x_iload_n dX7_limbs_28 rfl rfl ?_
      refine x_iadd dX7_limbs_29 ?_
      refine x_iald dX7_limbs_30 hM.2.1 ?_
      refine x_lti (fun x3 => ?_)
      refine x_istore_n dX7_limbs_31 rfl (Nat.le_of_ble_eq_true rfl) rfl ?_
      refine x_bipush (-5 : Int32) dX7_limbs_32 (by decide) ?_
      refine x_istore_n dX7_limbs_34 rfl (Nat.le_of_ble_eq_true rfl) rfl ?_
      refine x_iconst (0 : Int32) dX7_limbs_35 (by decide) ?_
      refine x_istore dX7_limbs_36 (Nat.le_of_ble_eq_true rfl) rfl ?_
      exact x_le (v_X7_limbs_38 hM aF p1 x3 (-5 : Int32) (0 : Int32) S2) (And.intro rfl (And.intro rfl (And.intro rfl (And.intro rfl (And.intro rfl trivial)))))
    · refine x_bipush (-3 : Int32) dX7_limbs_18 (by decide) ?_
      exact x_iret dX7_limbs_20 rfl
  · refine x_iconst (-1 : Int32) dX7_limbs_8 (by decide) ?_
    exact x_iret dX7_limbs_9 rfl
theorem g_X7_book_142 : GoodIn uX7_book (va_wsS yX7_book.cls 142 yX7_isWay uX7_isWay) := gU_S (wU_r19 _ (List.mem_of_getElem? (i := 5) rfl)) (wU_r19 _ (List.mem_of_getElem? (i := 6) rfl)) (wU_r1 _ (List.mem_of_getElem? (i := 5) rfl)) (wU_r19 _ (List.mem_of_getElem? (i := 7) rfl))
theorem w_X7_book_f9 : Cond.fieldLink yX7_book.cls 9 (TX7 1).1 (TX7 1).2.1 (TX7 1).2.2.1 ∈ uX7_book := List.mem_cons_of_mem _ (wU_r4 _ (List.mem_of_getElem? (i := 14) rfl))
def f_X7_book (p1 : Int32) (S : aSt) : Option (Int32 × aSt) := (if p1 = (-1 : Int32) then (aLt (aUi S (1) 2 (0 : Int32)) (fun S4 => (some ((0 : Int32), S4)))) else (aB (f_X7_isWay p1 S) (fun r1_ S1 => (if r1_ = 0 then (some ((-1 : Int32), S1)) else (if (S1.1 (1) 2) = (6 : Int32) then (some ((-4 : Int32), S1)) else (if ((194 : Int32) + (S1.1 (1) 2)) < 0 ∨ 979 ≤ (((194 : Int32) + (S1.1 (1) 2))).toNatClampNeg then none else (aLt (aUi S1 (1) (((194 : Int32) + (S1.1 (1) 2))).toNatClampNeg p1) (fun S2 => (aLt (aUi S2 (1) 2 ((S2.1 (1) 2) + (1 : Int32))) (fun S3 => (some ((S3.1 (1) 2), S3))))))))))))
set_option maxRecDepth 20000 in
set_option maxHeartbeats 4000000 in
theorem m_X7_book {G : aG} (hM : aMo G) (p1 : Int32) (S : aSt) : aMet G yX7_book uX7_book 4 mk_i (f_X7_book p1 S) [.ref (0), .int p1] S := by
  refine x_met (cc := cX7_book) (nL := 2) (ret := (some .int)) (L := [some (.ref (0)), some (.int p1)]) (by decide +kernel) rfl (And.intro rfl (And.intro rfl trivial)) (Nat.le_of_ble_eq_true rfl) ?_
  unfold f_X7_book
  refine x_iload_n dX7_book_0 rfl rfl ?_
  refine x_iconst (-1 : Int32) dX7_book_1 (by decide) ?_
  refine x_icmp_ne (tgt := 14) dX7_book_2 (by decide) ?_ ?_
  · refine x_iload_n dX7_book_14 rfl rfl ?_
    refine x_b (fun r1_ S1 e1 => ?_)
    refine x_callSi (As := [.int p1]) dX7_book_15 (aMet_of e1 (m_X7_isWay p1 S)) g_X7_book_142 rfl dd_X7_isWay rfl rfl (Nat.le_of_ble_eq_true rfl) (Nat.le_of_ble_eq_true rfl) (Nat.le_of_ble_eq_true rfl) ?_
    refine x_if_ne (tgt := 23) dX7_book_18 (by decide) ?_ ?_
    · refine x_aload_n dX7_book_23 rfl rfl ?_
      refine x_getR (r := 1) (k := 0) (j := 1) dX7_book_24 hM.1 rfl rfl (Nat.le_of_ble_eq_true rfl) (fun w h => List.mem_cons_of_mem _ (inlX7 w h)) w_X7_book_f9 ?_
      refine x_iconst (2 : Int32) dX7_book_27 (by decide) ?_
      refine x_ialdc (j := 2) dX7_book_28 hM.2.1 (by unfold vp_in; decide) (by decide) ?_
      refine x_bipush (6 : Int32) dX7_book_29 (by decide) ?_
      refine x_icmp_ne (tgt := 37) dX7_book_31 (by decide) ?_ ?_
      · refine x_aload_n dX7_book_37 rfl rfl ?_
        refine x_getR (r := 1) (k := 0) (j := 1) dX7_book_38 hM.1 rfl rfl (Nat.le_of_ble_eq_true rfl) (fun w h => List.mem_cons_of_mem _ (inlX7 w h)) w_X7_book_f9 ?_
        refine x_sipush (194 : Int32) dX7_book_41 (by decide) ?_
        refine x_aload_n dX7_book_44 rfl rfl ?_
        refine x_getR (r := 1) (k := 0) (j := 1) dX7_book_45 hM.1 rfl rfl (Nat.le_of_ble_eq_true rfl) (fun w h => List.mem_cons_of_mem _ (inlX7 w h)) w_X7_book_f9 ?_
        refine x_iconst (2 : Int32) dX7_book_48 (by decide) ?_
        refine x_ialdc (j := 2) dX7_book_49 hM.2.1 (by unfold vp_in; decide) (by decide) ?_
        refine x_iadd dX7_book_50 ?_
        refine x_iload_n dX7_book_51 rfl rfl ?_
        refine x_iast dX7_book_52 hM.2.1 ?_
        refine x_ltS (fun S2 => ?_)
        refine x_aload_n dX7_book_53 rfl rfl ?_
        refine x_getR (r := 1) (k := 0) (j := 1) dX7_book_54 hM.1 rfl rfl (Nat.le_of_ble_eq_true rfl) (fun w h => List.mem_cons_of_mem _ (inlX7 w h)) w_X7_book_f9 ?_
        refine x_iconst (2 : Int32) dX7_book_57 (by decide) ?_
        refine x_dup2 dX7_book_58 rfl rfl ?_
        refine x_ialdc (j := 2) dX7_book_59 hM.2.1 (by unfold vp_in; decide) (by decide) ?_
        refine x_iconst (1 : Int32) dX7_book_60 (by decide) ?_
        refine x_iadd dX7_book_61 ?_
        refine x_iastc (j := 2) dX7_book_62 hM.2.1 (by unfold vp_in; decide) (by decide) ?_
        refine x_ltS (fun S3 => ?_)
        refine x_aload_n dX7_book_63 rfl rfl ?_
        refine x_getR (r := 1) (k := 0) (j := 1) dX7_book_64 hM.1 rfl rfl (Nat.le_of_ble_eq_true rfl) (fun w h => List.mem_cons_of_mem _ (inlX7 w h)) w_X7_book_f9 ?_
        refine x_iconst (2 : Int32) dX7_book_67 (by decide) ?_
        refine x_ialdc (j := 2) dX7_book_68 hM.2.1 (by unfold vp_in; decide) (by decide) ?_
        exact x_iret dX7_book_69 rfl
      · refine x_bipush (-4 : Int32) dX7_book_34 (by decide) ?_
        exact x_iret dX7_book_36 rfl
    · refine x_iconst (-1 : Int32) dX7_book_21 (by decide) ?_
      exact x_iret dX7_book_22 rfl
  · refine x_aload_n dX7_book_5 rfl rfl ?_
    refine x_getR (r := 1) (k := 0) (j := 1) dX7_book_6 hM.1 rfl rfl (Nat.le_of_ble_eq_true rfl) (fun w h => List.mem_cons_of_mem _ (inlX7 w h)) w_X7_book_f9 ?_
    refine x_iconst (2 : Int32) dX7_book_9 (by decide) ?_
    refine x_iconst (0 : Int32) dX7_book_10 (by decide) ?_
    refine x_iastc (j := 2) dX7_book_11 hM.2.1 (by unfold vp_in; decide) (by decide) ?_
    refine x_ltS (fun S4 => ?_)
    refine x_iconst (0 : Int32) dX7_book_12 (by decide) ?_
    exact x_iret dX7_book_13 rfl
theorem g_X7_judged_41 : GoodIn uX7_judged (va_wsS yX7_judged.cls 41 yX7_in uX7_in) := gU_S (wU_r6 _ (List.mem_of_getElem? (i := 4) rfl)) (wU_r6 _ (List.mem_of_getElem? (i := 5) rfl)) (wU_r1 _ (List.mem_of_getElem? (i := 5) rfl)) (wU_r6 _ (List.mem_of_getElem? (i := 6) rfl))
theorem w_X7_judged_f9 : Cond.fieldLink yX7_judged.cls 9 (TX7 1).1 (TX7 1).2.1 (TX7 1).2.2.1 ∈ uX7_judged := List.mem_cons_of_mem _ (wU_r4 _ (List.mem_of_getElem? (i := 14) rfl))
theorem g_X7_judged_183 : GoodIn uX7_judged (wsV yX7_judged.cls 183 RX7 yX7_isStanding uX7_isStanding) := gU_V (wU_r25 _ (List.mem_of_getElem? (i := 9) rfl)) (wU_r25 _ (List.mem_of_getElem? (i := 10) rfl)) (wU_r25 _ (List.mem_of_getElem? (i := 11) rfl)) (wU_r1 _ (List.mem_of_getElem? (i := 5) rfl)) (wU_r25 _ (List.mem_of_getElem? (i := 12) rfl))
theorem g_X7_judged_202 : GoodIn uX7_judged (wsV yX7_judged.cls 202 RX7 yX7_goesIn uX7_goesIn) := gU_V (wU_r25 _ (List.mem_of_getElem? (i := 17) rfl)) (wU_r25 _ (List.mem_of_getElem? (i := 18) rfl)) (wU_r25 _ (List.mem_of_getElem? (i := 19) rfl)) (wU_r1 _ (List.mem_of_getElem? (i := 5) rfl)) (wU_r25 _ (List.mem_of_getElem? (i := 20) rfl))
theorem w_X7_judged_f180 : Cond.fieldLink yX7_judged.cls 180 (TX7 19).1 (TX7 19).2.1 (TX7 19).2.2.1 ∈ uX7_judged := List.mem_cons_of_mem _ (wU_r25 _ (List.mem_of_getElem? (i := 6) rfl))
def f_X7_judged_120  (l1 : Int32) (l2 : Int32) (l3 : Int32) (S : aSt) : Option (Int32 × aSt) := (if l1 = 0 then (some (l2, S)) else (some (l3, S)))
set_option maxRecDepth 20000 in
set_option maxHeartbeats 4000000 in
theorem v_X7_judged_120 {G : aG} (hM : aMo G) (l1 : Int32) (l2 : Int32) (l3 : Int32) (S : aSt) : aX G yX7_judged cX7_judged 5 (some .int) uX7_judged 5 mk_i (f_X7_judged_120 l1 l2 l3 S) 120 [none, some (.int l1), some (.int l2), some (.int l3), none] [] S := by
  unfold f_X7_judged_120
  refine x_iload_n dX7_judged_120 rfl rfl ?_
  refine x_if_ne (tgt := 128) dX7_judged_121 (by decide) ?_ ?_
  · refine x_iload_n dX7_judged_128 rfl rfl ?_
    exact x_iret dX7_judged_129 rfl
  · refine x_iload_n dX7_judged_124 rfl rfl ?_
    refine x_goto (tgt := 129) dX7_judged_125 (by decide) ?_
    exact x_iret dX7_judged_129 rfl
def f_X7_judged_114 (r19 : Int32 → Int32 → Int32 → Int32 → aSt → Option (Int32 × aSt)) (l1 : Int32) (l2 : Int32) (l3 : Int32) (l4 : Int32) (S : aSt) : Option (Int32 × aSt) := (aLt (l4 + (1 : Int32)) (fun x4 => (r19 l1 l2 l3 x4 S)))
set_option maxRecDepth 20000 in
set_option maxHeartbeats 4000000 in
theorem v_X7_judged_114 {G : aG} (hM : aMo G) (r19 : Int32 → Int32 → Int32 → Int32 → aSt → Option (Int32 × aSt)) (hr19 : ∀ (l1 : Int32) (l2 : Int32) (l3 : Int32) (l4 : Int32) (S : aSt), aX G yX7_judged cX7_judged 5 (some .int) uX7_judged 5 mk_i (r19 l1 l2 l3 l4 S) 19 [some (.ref (0)), some (.int l1), some (.int l2), some (.int l3), some (.int l4)] [] S) (l1 : Int32) (l2 : Int32) (l3 : Int32) (l4 : Int32) (S : aSt) : aX G yX7_judged cX7_judged 5 (some .int) uX7_judged 5 mk_i (f_X7_judged_114 r19 l1 l2 l3 l4 S) 114 [some (.ref (0)), some (.int l1), some (.int l2), some (.int l3), some (.int l4)] [] S := by
  unfold f_X7_judged_114
  refine x_iincL (w := (1 : Int32)) dX7_judged_114 rfl (by decide) (Nat.le_of_ble_eq_true rfl) rfl (fun x4 => ?_)
  refine x_goto (tgt := 19) dX7_judged_117 (by decide) ?_
  exact x_le (hr19 l1 l2 l3 x4 S) (And.intro rfl (And.intro rfl (And.intro rfl (And.intro rfl (And.intro rfl trivial)))))
def f_X7_judged_113 (r19 : Int32 → Int32 → Int32 → Int32 → aSt → Option (Int32 × aSt)) (l1 : Int32) (l2 : Int32) (l4 : Int32) (s0 : Int32) (S : aSt) : Option (Int32 × aSt) := (f_X7_judged_114 r19 l1 l2 s0 l4 S)
set_option maxRecDepth 20000 in
set_option maxHeartbeats 4000000 in
theorem v_X7_judged_113 {G : aG} (hM : aMo G) (r19 : Int32 → Int32 → Int32 → Int32 → aSt → Option (Int32 × aSt)) (hr19 : ∀ (l1 : Int32) (l2 : Int32) (l3 : Int32) (l4 : Int32) (S : aSt), aX G yX7_judged cX7_judged 5 (some .int) uX7_judged 5 mk_i (r19 l1 l2 l3 l4 S) 19 [some (.ref (0)), some (.int l1), some (.int l2), some (.int l3), some (.int l4)] [] S) (l1 : Int32) (l2 : Int32) (l4 : Int32) (s0 : Int32) (S : aSt) : aX G yX7_judged cX7_judged 5 (some .int) uX7_judged 5 mk_i (f_X7_judged_113 r19 l1 l2 l4 s0 S) 113 [some (.ref (0)), some (.int l1), some (.int l2), none, some (.int l4)] [.int s0] S := by
  unfold f_X7_judged_113
  refine x_istore_n dX7_judged_113 rfl (Nat.le_of_ble_eq_true rfl) rfl ?_
  exact x_le (v_X7_judged_114 hM r19 hr19 l1 l2 s0 l4 S) (And.intro rfl (And.intro rfl (And.intro rfl (And.intro rfl (And.intro rfl trivial)))))
def f_X7_judged_112 (r19 : Int32 → Int32 → Int32 → Int32 → aSt → Option (Int32 × aSt)) (l1 : Int32) (l2 : Int32) (l3 : Int32) (l4 : Int32) (S : aSt) : Option (Int32 × aSt) := (f_X7_judged_113 r19 l1 l2 l4 l3 S)
set_option maxRecDepth 20000 in
set_option maxHeartbeats 4000000 in
theorem v_X7_judged_112 {G : aG} (hM : aMo G) (r19 : Int32 → Int32 → Int32 → Int32 → aSt → Option (Int32 × aSt)) (hr19 : ∀ (l1 : Int32) (l2 : Int32) (l3 : Int32) (l4 : Int32) (S : aSt), aX G yX7_judged cX7_judged 5 (some .int) uX7_judged 5 mk_i (r19 l1 l2 l3 l4 S) 19 [some (.ref (0)), some (.int l1), some (.int l2), some (.int l3), some (.int l4)] [] S) (l1 : Int32) (l2 : Int32) (l3 : Int32) (l4 : Int32) (S : aSt) : aX G yX7_judged cX7_judged 5 (some .int) uX7_judged 5 mk_i (f_X7_judged_112 r19 l1 l2 l3 l4 S) 112 [some (.ref (0)), some (.int l1), some (.int l2), some (.int l3), some (.int l4)] [] S := by
  unfold f_X7_judged_112
  refine x_iload_n dX7_judged_112 rfl rfl ?_
  exact x_le (v_X7_judged_113 hM r19 hr19 l1 l2 l4 l3 S) (And.intro rfl (And.intro rfl (And.intro rfl (And.intro rfl trivial))))
def f_X7_judged_81 (r19 : Int32 → Int32 → Int32 → Int32 → aSt → Option (Int32 × aSt)) (l1 : Int32) (l3 : Int32) (l4 : Int32) (s0 : Int32) (s1 : Int32) (S : aSt) : Option (Int32 × aSt) := (aLt (s1 + s0) (fun x5 => (if ((194 : Int32) + l4) < 0 ∨ 979 ≤ (((194 : Int32) + l4)).toNatClampNeg then none else (if (S.1 (0) 19) = (S.1 (1) (((194 : Int32) + l4)).toNatClampNeg) then (f_X7_judged_112 r19 l1 x5 l3 l4 S) else (if l3 = (-5 : Int32) then (f_X7_judged_113 r19 l1 x5 l4 l4 S) else (f_X7_judged_112 r19 l1 x5 l3 l4 S))))))
set_option maxRecDepth 20000 in
set_option maxHeartbeats 4000000 in
theorem v_X7_judged_81 {G : aG} (hM : aMo G) (r19 : Int32 → Int32 → Int32 → Int32 → aSt → Option (Int32 × aSt)) (hr19 : ∀ (l1 : Int32) (l2 : Int32) (l3 : Int32) (l4 : Int32) (S : aSt), aX G yX7_judged cX7_judged 5 (some .int) uX7_judged 5 mk_i (r19 l1 l2 l3 l4 S) 19 [some (.ref (0)), some (.int l1), some (.int l2), some (.int l3), some (.int l4)] [] S) (l1 : Int32) (l3 : Int32) (l4 : Int32) (s0 : Int32) (s1 : Int32) (S : aSt) : aX G yX7_judged cX7_judged 5 (some .int) uX7_judged 5 mk_i (f_X7_judged_81 r19 l1 l3 l4 s0 s1 S) 81 [some (.ref (0)), some (.int l1), none, some (.int l3), some (.int l4)] [.int s0, .int s1] S := by
  unfold f_X7_judged_81
  refine x_iadd dX7_judged_81 ?_
  refine x_lti (fun x5 => ?_)
  refine x_istore_n dX7_judged_82 rfl (Nat.le_of_ble_eq_true rfl) rfl ?_
  refine x_aload_n dX7_judged_83 rfl rfl ?_
  refine x_getI (k := 0) (j := 19) dX7_judged_84 hM.1 rfl rfl (Nat.le_of_ble_eq_true rfl) (fun w h => List.mem_cons_of_mem _ (inlX7 w h)) w_X7_judged_f180 ?_
  refine x_aload_n dX7_judged_87 rfl rfl ?_
  refine x_getR (r := 1) (k := 0) (j := 1) dX7_judged_88 hM.1 rfl rfl (Nat.le_of_ble_eq_true rfl) (fun w h => List.mem_cons_of_mem _ (inlX7 w h)) w_X7_judged_f9 ?_
  refine x_sipush (194 : Int32) dX7_judged_91 (by decide) ?_
  refine x_iload dX7_judged_94 rfl ?_
  refine x_iadd dX7_judged_96 ?_
  refine x_iald dX7_judged_97 hM.2.1 ?_
  refine x_icmp_eq (tgt := 112) dX7_judged_98 (by decide) ?_ ?_
  · exact x_le (v_X7_judged_112 hM r19 hr19 l1 x5 l3 l4 S) (And.intro rfl (And.intro rfl (And.intro rfl (And.intro rfl (And.intro rfl trivial)))))
  · refine x_iload_n dX7_judged_101 rfl rfl ?_
    refine x_bipush (-5 : Int32) dX7_judged_102 (by decide) ?_
    refine x_icmp_ne (tgt := 112) dX7_judged_104 (by decide) ?_ ?_
    · exact x_le (v_X7_judged_112 hM r19 hr19 l1 x5 l3 l4 S) (And.intro rfl (And.intro rfl (And.intro rfl (And.intro rfl (And.intro rfl trivial)))))
    · refine x_iload dX7_judged_107 rfl ?_
      refine x_goto (tgt := 113) dX7_judged_109 (by decide) ?_
      exact x_le (v_X7_judged_113 hM r19 hr19 l1 x5 l4 l4 S) (And.intro rfl (And.intro rfl (And.intro rfl (And.intro rfl trivial))))
def f_X7_judged_19  : Nat → Int32 → Int32 → Int32 → Int32 → aSt → Option (Int32 × aSt)
  | 0, _, _, _, _, _ => none
  | n + 1, l1, l2, l3, l4, S => (if (S.1 (1) 0) ≤ l4 then (f_X7_judged_120 l1 l2 l3 S) else (if (S.1 (1) 2) ≤ l4 then (f_X7_judged_120 l1 l2 l3 S) else (aB (f_X7_isStanding l4 S) (fun r2_ S2 => (if r2_ = 0 then (f_X7_judged_114 (fun l1 l2 l3 l4 S => (f_X7_judged_19 n l1 l2 l3 l4 S)) l1 l2 l3 l4 S2) else (aB (f_X7_goesIn l4 (-1 : Int32) S2) (fun r3_ S3 => (if ((194 : Int32) + l4) < 0 ∨ 979 ≤ (((194 : Int32) + l4)).toNatClampNeg then none else (if (S3.1 (0) 19) = (S3.1 (1) (((194 : Int32) + l4)).toNatClampNeg) then (f_X7_judged_81 (fun l1 l2 l3 l4 S => (f_X7_judged_19 n l1 l2 l3 l4 S)) l1 l3 l4 (1 : Int32) l2 S3) else (f_X7_judged_81 (fun l1 l2 l3 l4 S => (f_X7_judged_19 n l1 l2 l3 l4 S)) l1 l3 l4 (0 : Int32) l2 S3))))))))))
set_option maxRecDepth 20000 in
set_option maxHeartbeats 4000000 in
theorem v_X7_judged_19 {G : aG} (hM : aMo G) : ∀ (n : Nat) (l1 : Int32) (l2 : Int32) (l3 : Int32) (l4 : Int32) (S : aSt), aX G yX7_judged cX7_judged 5 (some .int) uX7_judged 5 mk_i (f_X7_judged_19 n l1 l2 l3 l4 S) 19 [some (.ref (0)), some (.int l1), some (.int l2), some (.int l3), some (.int l4)] [] S := by
  intro n
  induction n with
  | zero => intro l1 l2 l3 l4 S; exact x_none
  | succ n ih =>
    intro l1 l2 l3 l4 S
    unfold f_X7_judged_19
    refine x_iload dX7_judged_19 rfl ?_
    refine x_aload_n dX7_judged_21 rfl rfl ?_
    refine x_getR (r := 1) (k := 0) (j := 1) dX7_judged_22 hM.1 rfl rfl (Nat.le_of_ble_eq_true rfl) (fun w h => List.mem_cons_of_mem _ (inlX7 w h)) w_X7_judged_f9 ?_
    refine x_iconst (0 : Int32) dX7_judged_25 (by decide) ?_
    refine x_ialdc (j := 0) dX7_judged_26 hM.2.1 (by unfold vp_in; decide) (by decide) ?_
    refine x_icmp_ge (tgt := 120) dX7_judged_27 (by decide) ?_ ?_
    · exact x_le (v_X7_judged_120 hM l1 l2 l3 S) (And.intro rfl (And.intro rfl (And.intro rfl trivial)))
    · refine x_iload dX7_judged_30 rfl ?_
      refine x_aload_n dX7_judged_32 rfl rfl ?_
      refine x_getR (r := 1) (k := 0) (j := 1) dX7_judged_33 hM.1 rfl rfl (Nat.le_of_ble_eq_true rfl) (fun w h => List.mem_cons_of_mem _ (inlX7 w h)) w_X7_judged_f9 ?_
      refine x_iconst (2 : Int32) dX7_judged_36 (by decide) ?_
      refine x_ialdc (j := 2) dX7_judged_37 hM.2.1 (by unfold vp_in; decide) (by decide) ?_
      refine x_icmp_ge (tgt := 120) dX7_judged_38 (by decide) ?_ ?_
      · exact x_le (v_X7_judged_120 hM l1 l2 l3 S) (And.intro rfl (And.intro rfl (And.intro rfl trivial)))
      · refine x_aload_n dX7_judged_41 rfl rfl ?_
        refine x_iload dX7_judged_42 rfl ?_
        refine x_b (fun r2_ S2 e2 => ?_)
        refine x_callVi (As := [.int l4]) dX7_judged_44 (aMet_of e2 (m_X7_isStanding hM l4 S)) g_X7_judged_183 rfl hM.1 rfl dd_X7_isStanding rfl rfl (Nat.le_of_ble_eq_true rfl) (Nat.le_of_ble_eq_true rfl) (Nat.le_of_ble_eq_true rfl) ?_
        refine x_if_eq (tgt := 114) dX7_judged_47 (by decide) ?_ ?_
        · exact x_le (v_X7_judged_114 hM (fun l1 l2 l3 l4 S => (f_X7_judged_19 n l1 l2 l3 l4 S)) ih l1 l2 l3 l4 S2) (And.intro rfl (And.intro rfl (And.intro rfl (And.intro rfl (And.intro rfl trivial)))))
        · refine x_aload_n dX7_judged_50 rfl rfl ?_
          refine x_iload dX7_judged_51 rfl ?_
          refine x_iconst (-1 : Int32) dX7_judged_53 (by decide) ?_
          refine x_b (fun r3_ S3 e3 => ?_)
          refine x_callVv (As := [.int l4, .int (-1 : Int32)]) dX7_judged_54 (aMet_of e3 (m_X7_goesIn hM l4 (-1 : Int32) S2)) g_X7_judged_202 rfl hM.1 rfl dd_X7_goesIn rfl rfl (Nat.le_of_ble_eq_true rfl) (Nat.le_of_ble_eq_true rfl) (Nat.le_of_ble_eq_true rfl) ?_
          refine x_iload_n dX7_judged_57 rfl rfl ?_
          refine x_aload_n dX7_judged_58 rfl rfl ?_
          refine x_getI (k := 0) (j := 19) dX7_judged_59 hM.1 rfl rfl (Nat.le_of_ble_eq_true rfl) (fun w h => List.mem_cons_of_mem _ (inlX7 w h)) w_X7_judged_f180 ?_
          refine x_aload_n dX7_judged_62 rfl rfl ?_
          refine x_getR (r := 1) (k := 0) (j := 1) dX7_judged_63 hM.1 rfl rfl (Nat.le_of_ble_eq_true rfl) (fun w h => List.mem_cons_of_mem _ (inlX7 w h)) w_X7_judged_f9 ?_
          refine x_sipush (194 : Int32) dX7_judged_66 (by decide) ?_
          refine x_iload dX7_judged_69 rfl ?_
          refine x_iadd dX7_judged_71 ?_
          refine x_iald dX7_judged_72 hM.2.1 ?_
          refine x_icmp_ne (tgt := 80) dX7_judged_73 (by decide) ?_ ?_
          · refine x_iconst (0 : Int32) dX7_judged_80 (by decide) ?_
            exact x_le (v_X7_judged_81 hM (fun l1 l2 l3 l4 S => (f_X7_judged_19 n l1 l2 l3 l4 S)) ih l1 l3 l4 (0 : Int32) l2 S3) (And.intro rfl (And.intro rfl (And.intro rfl (And.intro rfl trivial))))
          · refine x_iconst (1 : Int32) dX7_judged_76 (by decide) ?_
            refine x_goto (tgt := 81) dX7_judged_77 (by decide) ?_
            exact x_le (v_X7_judged_81 hM (fun l1 l2 l3 l4 S => (f_X7_judged_19 n l1 l2 l3 l4 S)) ih l1 l3 l4 (1 : Int32) l2 S3) (And.intro rfl (And.intro rfl (And.intro rfl (And.intro rfl trivial))))
def f_X7_judged (p1 : Int32) (S : aSt) : Option (Int32 × aSt) := (aB (f_X7_in p1 (0 : Int32) (1 : Int32) S) (fun r1_ S1 => (if r1_ = 0 then (some ((-1 : Int32), S1)) else (f_X7_judged_19 aF p1 (0 : Int32) (-5 : Int32) (0 : Int32) S1))))
set_option maxRecDepth 20000 in
set_option maxHeartbeats 4000000 in
theorem m_X7_judged {G : aG} (hM : aMo G) (p1 : Int32) (S : aSt) : aMet G yX7_judged uX7_judged 5 mk_i (f_X7_judged p1 S) [.ref (0), .int p1] S := by
  refine x_met (cc := cX7_judged) (nL := 5) (ret := (some .int)) (L := [some (.ref (0)), some (.int p1), none, none, none]) (by decide +kernel) rfl (And.intro rfl (And.intro rfl trivial)) (Nat.le_of_ble_eq_true rfl) ?_
  unfold f_X7_judged
  refine x_iload_n dX7_judged_0 rfl rfl ?_
  refine x_iconst (0 : Int32) dX7_judged_1 (by decide) ?_
  refine x_iconst (1 : Int32) dX7_judged_2 (by decide) ?_
  refine x_b (fun r1_ S1 e1 => ?_)
  refine x_callSi (As := [.int p1, .int (0 : Int32), .int (1 : Int32)]) dX7_judged_3 (aMet_of e1 (m_X7_in p1 (0 : Int32) (1 : Int32) S)) g_X7_judged_41 rfl dd_X7_in rfl rfl (Nat.le_of_ble_eq_true rfl) (Nat.le_of_ble_eq_true rfl) (Nat.le_of_ble_eq_true rfl) ?_
  refine x_if_ne (tgt := 11) dX7_judged_6 (by decide) ?_ ?_
  · refine x_iconst (0 : Int32) dX7_judged_11 (by decide) ?_
    refine x_istore_n dX7_judged_12 rfl (Nat.le_of_ble_eq_true rfl) rfl ?_
    refine x_bipush (-5 : Int32) dX7_judged_13 (by decide) ?_
    refine x_istore_n dX7_judged_15 rfl (Nat.le_of_ble_eq_true rfl) rfl ?_
    refine x_iconst (0 : Int32) dX7_judged_16 (by decide) ?_
    refine x_istore dX7_judged_17 (Nat.le_of_ble_eq_true rfl) rfl ?_
    exact x_le (v_X7_judged_19 hM aF p1 (0 : Int32) (-5 : Int32) (0 : Int32) S1) (And.intro rfl (And.intro rfl (And.intro rfl (And.intro rfl (And.intro rfl trivial)))))
  · refine x_iconst (-1 : Int32) dX7_judged_9 (by decide) ?_
    exact x_iret dX7_judged_10 rfl
theorem w_X7_runs_f240 : Cond.fieldLink yX7_runs.cls 240 (TX7 27).1 (TX7 27).2.1 (TX7 27).2.2.1 ∈ uX7_runs := List.mem_cons_of_mem _ (wU_r36 _ (List.mem_of_getElem? (i := 22) rfl))
theorem w_X7_runs_f34 : Cond.fieldLink yX7_runs.cls 34 (TX7 26).1 (TX7 26).2.1 (TX7 26).2.2.1 ∈ uX7_runs := List.mem_cons_of_mem _ (wU_r4 _ (List.mem_of_getElem? (i := 22) rfl))
def f_X7_runs_19   (S : aSt) : Option (Unit × aSt) := (aLt (aUi S (0) 27 ((S.1 (0) 27) + (1 : Int32))) (fun S2 => (some ((), S2))))
set_option maxRecDepth 20000 in
set_option maxHeartbeats 4000000 in
theorem v_X7_runs_19 {G : aG} (hM : aMo G)  (S : aSt) : aX G yX7_runs cX7_runs 2 none uX7_runs 2 mk_v (f_X7_runs_19 S) 19 [some (.ref (0)), none] [] S := by
  unfold f_X7_runs_19
  refine x_aload_n dX7_runs_19 rfl rfl ?_
  refine x_dup dX7_runs_20 rfl ?_
  refine x_getI (k := 0) (j := 27) dX7_runs_21 hM.1 rfl rfl (Nat.le_of_ble_eq_true rfl) (fun w h => List.mem_cons_of_mem _ (inlX7 w h)) w_X7_runs_f240 ?_
  refine x_iconst (1 : Int32) dX7_runs_24 (by decide) ?_
  refine x_iadd dX7_runs_25 ?_
  refine x_putI (k := 0) (j := 27) dX7_runs_26 hM.1 rfl rfl (Nat.le_of_ble_eq_true rfl) (fun w h => List.mem_cons_of_mem _ (inlX7 w h)) w_X7_runs_f240 tyX7 tyX7_ok nmX7 rfl (by decide +kernel) ?_
  refine x_ltS (fun S2 => ?_)
  exact x_vret dX7_runs_29 rfl
def f_X7_runs (p1 : Int32) (S : aSt) : Option (Unit × aSt) := (if (20 : Int32) ≤ (S.1 (0) 27) then (f_X7_runs_19 S) else (if (S.1 (0) 27) < 0 ∨ 20 ≤ ((S.1 (0) 27)).toNatClampNeg then none else (aLt (aUi S (8) ((S.1 (0) 27)).toNatClampNeg p1) (fun S1 => (f_X7_runs_19 S1)))))
set_option maxRecDepth 20000 in
set_option maxHeartbeats 4000000 in
theorem m_X7_runs {G : aG} (hM : aMo G) (p1 : Int32) (S : aSt) : aMet G yX7_runs uX7_runs 2 mk_v (f_X7_runs p1 S) [.ref (0), .int p1] S := by
  refine x_met (cc := cX7_runs) (nL := 2) (ret := none) (L := [some (.ref (0)), some (.int p1)]) (by decide +kernel) rfl (And.intro rfl (And.intro rfl trivial)) (Nat.le_of_ble_eq_true rfl) ?_
  unfold f_X7_runs
  refine x_aload_n dX7_runs_0 rfl rfl ?_
  refine x_getI (k := 0) (j := 27) dX7_runs_1 hM.1 rfl rfl (Nat.le_of_ble_eq_true rfl) (fun w h => List.mem_cons_of_mem _ (inlX7 w h)) w_X7_runs_f240 ?_
  refine x_bipush (20 : Int32) dX7_runs_4 (by decide) ?_
  refine x_icmp_ge (tgt := 19) dX7_runs_6 (by decide) ?_ ?_
  · exact x_le (v_X7_runs_19 hM S) (And.intro rfl trivial)
  · refine x_aload_n dX7_runs_9 rfl rfl ?_
    refine x_getR (r := 8) (k := 0) (j := 26) dX7_runs_10 hM.1 rfl rfl (Nat.le_of_ble_eq_true rfl) (fun w h => List.mem_cons_of_mem _ (inlX7 w h)) w_X7_runs_f34 ?_
    refine x_aload_n dX7_runs_13 rfl rfl ?_
    refine x_getI (k := 0) (j := 27) dX7_runs_14 hM.1 rfl rfl (Nat.le_of_ble_eq_true rfl) (fun w h => List.mem_cons_of_mem _ (inlX7 w h)) w_X7_runs_f240 ?_
    refine x_iload_n dX7_runs_17 rfl rfl ?_
    refine x_iast dX7_runs_18 hM.2.2.2.2.2.2.2.2 ?_
    refine x_ltS (fun S1 => ?_)
    exact x_le (v_X7_runs_19 hM S1) (And.intro rfl trivial)
def f_X7_isUnder (p0 : Int32) (p1 : Int32) (S : aSt) : Option (Int32 × aSt) := (if p1 = 0 then (some ((1 : Int32), S)) else (if p1 = p0 then (some ((1 : Int32), S)) else (if p1 ≤ 0 then (some ((0 : Int32), S)) else (if (4 : Int32) ≤ p1 then (some ((0 : Int32), S)) else (if p0 = (p1 + (3 : Int32)) then (some ((1 : Int32), S)) else (some ((0 : Int32), S)))))))
set_option maxRecDepth 20000 in
set_option maxHeartbeats 4000000 in
theorem m_X7_isUnder {G : aG} (p0 : Int32) (p1 : Int32) (S : aSt) : aMet G yX7_isUnder uX7_isUnder 2 mk_i (f_X7_isUnder p0 p1 S) [.int p0, .int p1] S := by
  refine x_met (cc := cX7_isUnder) (nL := 2) (ret := (some .boolean)) (L := [some (.int p0), some (.int p1)]) (by decide +kernel) rfl (And.intro rfl (And.intro rfl trivial)) (Nat.le_of_ble_eq_true rfl) ?_
  unfold f_X7_isUnder
  refine x_iload_n dX7_isUnder_0 rfl rfl ?_
  refine x_if_eq (tgt := 25) dX7_isUnder_1 (by decide) ?_ ?_
  · refine x_iconst (1 : Int32) dX7_isUnder_25 (by decide) ?_
    refine x_goto (tgt := 30) dX7_isUnder_26 (by decide) ?_
    exact x_zret dX7_isUnder_30 rfl rfl
  · refine x_iload_n dX7_isUnder_4 rfl rfl ?_
    refine x_iload_n dX7_isUnder_5 rfl rfl ?_
    refine x_icmp_eq (tgt := 25) dX7_isUnder_6 (by decide) ?_ ?_
    · refine x_iconst (1 : Int32) dX7_isUnder_25 (by decide) ?_
      refine x_goto (tgt := 30) dX7_isUnder_26 (by decide) ?_
      exact x_zret dX7_isUnder_30 rfl rfl
    · refine x_iload_n dX7_isUnder_9 rfl rfl ?_
      refine x_if_le (tgt := 29) dX7_isUnder_10 (by decide) ?_ ?_
      · refine x_iconst (0 : Int32) dX7_isUnder_29 (by decide) ?_
        exact x_zret dX7_isUnder_30 rfl rfl
      · refine x_iload_n dX7_isUnder_13 rfl rfl ?_
        refine x_iconst (4 : Int32) dX7_isUnder_14 (by decide) ?_
        refine x_icmp_ge (tgt := 29) dX7_isUnder_15 (by decide) ?_ ?_
        · refine x_iconst (0 : Int32) dX7_isUnder_29 (by decide) ?_
          exact x_zret dX7_isUnder_30 rfl rfl
        · refine x_iload_n dX7_isUnder_18 rfl rfl ?_
          refine x_iload_n dX7_isUnder_19 rfl rfl ?_
          refine x_iconst (3 : Int32) dX7_isUnder_20 (by decide) ?_
          refine x_iadd dX7_isUnder_21 ?_
          refine x_icmp_ne (tgt := 29) dX7_isUnder_22 (by decide) ?_ ?_
          · refine x_iconst (0 : Int32) dX7_isUnder_29 (by decide) ?_
            exact x_zret dX7_isUnder_30 rfl rfl
          · refine x_iconst (1 : Int32) dX7_isUnder_25 (by decide) ?_
            refine x_goto (tgt := 30) dX7_isUnder_26 (by decide) ?_
            exact x_zret dX7_isUnder_30 rfl rfl
theorem dd_X7_runs : yX7_runs.cls = RX7 ∧ yX7_runs.cls ≠ "java/lang/invoke/MethodHandle" ∧ yX7_runs.cls ≠ "java/lang/invoke/VarHandle" ∧ (parseMethodDescriptor yX7_runs.desc).map (fun d => d.parameters.length) = some 1 := by decide +kernel
theorem g_X7_plainLeans_243 : GoodIn uX7_plainLeans (wsV yX7_plainLeans.cls 243 RX7 yX7_runs uX7_runs) := gU_V (wU_r37 _ (List.mem_of_getElem? (i := 9) rfl)) (wU_r37 _ (List.mem_of_getElem? (i := 10) rfl)) (wU_r37 _ (List.mem_of_getElem? (i := 11) rfl)) (wU_r1 _ (List.mem_of_getElem? (i := 5) rfl)) (wU_r37 _ (List.mem_of_getElem? (i := 12) rfl))
theorem w_X7_plainLeans_f246 : Cond.fieldLink yX7_plainLeans.cls 246 (TX7 29).1 (TX7 29).2.1 (TX7 29).2.2.1 ∈ uX7_plainLeans := List.mem_cons_of_mem _ (wU_r37 _ (List.mem_of_getElem? (i := 0) rfl))
def f_X7_plainLeans (p1 : Int32) (S : aSt) : Option (Int32 × aSt) := (aB (f_X7_runs (1 : Int32) S) (fun r1_ S1 => (some ((p1 + (S1.1 (0) 29)), S1))))
set_option maxRecDepth 20000 in
set_option maxHeartbeats 4000000 in
theorem m_X7_plainLeans {G : aG} (hM : aMo G) (p1 : Int32) (S : aSt) : aMet G yX7_plainLeans uX7_plainLeans 3 mk_i (f_X7_plainLeans p1 S) [.ref (0), .int p1] S := by
  refine x_met (cc := cX7_plainLeans) (nL := 2) (ret := (some .int)) (L := [some (.ref (0)), some (.int p1)]) (by decide +kernel) rfl (And.intro rfl (And.intro rfl trivial)) (Nat.le_of_ble_eq_true rfl) ?_
  unfold f_X7_plainLeans
  refine x_aload_n dX7_plainLeans_0 rfl rfl ?_
  refine x_iconst (1 : Int32) dX7_plainLeans_1 (by decide) ?_
  refine x_b (fun r1_ S1 e1 => ?_)
  refine x_callVv (As := [.int (1 : Int32)]) dX7_plainLeans_2 (aMet_of e1 (m_X7_runs hM (1 : Int32) S)) g_X7_plainLeans_243 rfl hM.1 rfl dd_X7_runs rfl rfl (Nat.le_of_ble_eq_true rfl) (Nat.le_of_ble_eq_true rfl) (Nat.le_of_ble_eq_true rfl) ?_
  refine x_iload_n dX7_plainLeans_5 rfl rfl ?_
  refine x_aload_n dX7_plainLeans_6 rfl rfl ?_
  refine x_getI (k := 0) (j := 29) dX7_plainLeans_7 hM.1 rfl rfl (Nat.le_of_ble_eq_true rfl) (fun w h => List.mem_cons_of_mem _ (inlX7 w h)) w_X7_plainLeans_f246 ?_
  refine x_iadd dX7_plainLeans_10 ?_
  exact x_iret dX7_plainLeans_11 rfl
theorem dd_X7_isUnder : yX7_isUnder.cls ≠ "java/lang/invoke/MethodHandle" ∧ yX7_isUnder.cls ≠ "java/lang/invoke/VarHandle" ∧ (parseMethodDescriptor yX7_isUnder.desc).map (fun d => d.parameters.length) = some 2 := by decide +kernel
theorem dd_X7_plainLeans : yX7_plainLeans.cls = RX7 ∧ yX7_plainLeans.cls ≠ "java/lang/invoke/MethodHandle" ∧ yX7_plainLeans.cls ≠ "java/lang/invoke/VarHandle" ∧ (parseMethodDescriptor yX7_plainLeans.desc).map (fun d => d.parameters.length) = some 1 := by decide +kernel
theorem w_X7_leansActs_f249 : Cond.fieldLink yX7_leansActs.cls 249 (TX7 28).1 (TX7 28).2.1 (TX7 28).2.2.1 ∈ uX7_leansActs := List.mem_cons_of_mem _ (wU_r36 _ (List.mem_of_getElem? (i := 23) rfl))
theorem g_X7_leansActs_252 : GoodIn uX7_leansActs (va_wsS yX7_leansActs.cls 252 yX7_isUnder uX7_isUnder) := gU_S (wU_r37 _ (List.mem_of_getElem? (i := 6) rfl)) (wU_r37 _ (List.mem_of_getElem? (i := 7) rfl)) (wU_r1 _ (List.mem_of_getElem? (i := 5) rfl)) (wU_r37 _ (List.mem_of_getElem? (i := 8) rfl))
theorem g_X7_leansActs_255 : GoodIn uX7_leansActs (wsV yX7_leansActs.cls 255 RX7 yX7_plainLeans uX7_plainLeans) := gU_V (wU_r37 _ (List.mem_of_getElem? (i := 13) rfl)) (wU_r37 _ (List.mem_of_getElem? (i := 14) rfl)) (wU_r37 _ (List.mem_of_getElem? (i := 15) rfl)) (wU_r1 _ (List.mem_of_getElem? (i := 5) rfl)) (wU_r37 _ (List.mem_of_getElem? (i := 16) rfl))
theorem g_X7_leansActs_243 : GoodIn uX7_leansActs (wsV yX7_leansActs.cls 243 RX7 yX7_runs uX7_runs) := gU_V (wU_r37 _ (List.mem_of_getElem? (i := 9) rfl)) (wU_r37 _ (List.mem_of_getElem? (i := 10) rfl)) (wU_r37 _ (List.mem_of_getElem? (i := 11) rfl)) (wU_r1 _ (List.mem_of_getElem? (i := 5) rfl)) (wU_r37 _ (List.mem_of_getElem? (i := 12) rfl))
theorem w_X7_leansActs_f246 : Cond.fieldLink yX7_leansActs.cls 246 (TX7 29).1 (TX7 29).2.1 (TX7 29).2.2.1 ∈ uX7_leansActs := List.mem_cons_of_mem _ (wU_r37 _ (List.mem_of_getElem? (i := 0) rfl))
def f_X7_leansActs (p1 : Int32) (S : aSt) : Option (Int32 × aSt) := (aB (f_X7_isUnder (S.1 (0) 28) (1 : Int32) S) (fun r1_ S1 => (if r1_ = 0 then (if (S1.1 (0) 28) = (5 : Int32) then (aB (f_X7_runs (51 : Int32) S1) (fun r3_ S3 => (aB (f_X7_plainLeans p1 S3) (fun r4_ S4 => (some ((r4_ ^^^ (S4.1 (0) 29)), S4)))))) else (aB (f_X7_plainLeans p1 S1) (fun r2_ S2 => (some (r2_, S2))))) else (aB (f_X7_runs (11 : Int32) S1) (fun r5_ S5 => (aB (f_X7_plainLeans (p1 * (3 : Int32)) S5) (fun r6_ S6 => (some (r6_, S6)))))))))
set_option maxRecDepth 20000 in
set_option maxHeartbeats 4000000 in
theorem m_X7_leansActs {G : aG} (hM : aMo G) (p1 : Int32) (S : aSt) : aMet G yX7_leansActs uX7_leansActs 4 mk_i (f_X7_leansActs p1 S) [.ref (0), .int p1] S := by
  refine x_met (cc := cX7_leansActs) (nL := 2) (ret := (some .int)) (L := [some (.ref (0)), some (.int p1)]) (by decide +kernel) rfl (And.intro rfl (And.intro rfl trivial)) (Nat.le_of_ble_eq_true rfl) ?_
  unfold f_X7_leansActs
  refine x_aload_n dX7_leansActs_0 rfl rfl ?_
  refine x_getI (k := 0) (j := 28) dX7_leansActs_1 hM.1 rfl rfl (Nat.le_of_ble_eq_true rfl) (fun w h => List.mem_cons_of_mem _ (inlX7 w h)) w_X7_leansActs_f249 ?_
  refine x_iconst (1 : Int32) dX7_leansActs_4 (by decide) ?_
  refine x_b (fun r1_ S1 e1 => ?_)
  refine x_callSi (As := [.int (S.1 (0) 28), .int (1 : Int32)]) dX7_leansActs_5 (aMet_of e1 (m_X7_isUnder (S.1 (0) 28) (1 : Int32) S)) g_X7_leansActs_252 rfl dd_X7_isUnder rfl rfl (Nat.le_of_ble_eq_true rfl) (Nat.le_of_ble_eq_true rfl) (Nat.le_of_ble_eq_true rfl) ?_
  refine x_if_eq (tgt := 25) dX7_leansActs_8 (by decide) ?_ ?_
  · refine x_aload_n dX7_leansActs_25 rfl rfl ?_
    refine x_getI (k := 0) (j := 28) dX7_leansActs_26 hM.1 rfl rfl (Nat.le_of_ble_eq_true rfl) (fun w h => List.mem_cons_of_mem _ (inlX7 w h)) w_X7_leansActs_f249 ?_
    refine x_iconst (5 : Int32) dX7_leansActs_29 (by decide) ?_
    refine x_icmp_ne (tgt := 50) dX7_leansActs_30 (by decide) ?_ ?_
    · refine x_aload_n dX7_leansActs_50 rfl rfl ?_
      refine x_iload_n dX7_leansActs_51 rfl rfl ?_
      refine x_b (fun r2_ S2 e2 => ?_)
      refine x_callVi (As := [.int p1]) dX7_leansActs_52 (aMet_of e2 (m_X7_plainLeans hM p1 S1)) g_X7_leansActs_255 rfl hM.1 rfl dd_X7_plainLeans rfl rfl (Nat.le_of_ble_eq_true rfl) (Nat.le_of_ble_eq_true rfl) (Nat.le_of_ble_eq_true rfl) ?_
      exact x_iret dX7_leansActs_55 rfl
    · refine x_aload_n dX7_leansActs_33 rfl rfl ?_
      refine x_bipush (51 : Int32) dX7_leansActs_34 (by decide) ?_
      refine x_b (fun r3_ S3 e3 => ?_)
      refine x_callVv (As := [.int (51 : Int32)]) dX7_leansActs_36 (aMet_of e3 (m_X7_runs hM (51 : Int32) S1)) g_X7_leansActs_243 rfl hM.1 rfl dd_X7_runs rfl rfl (Nat.le_of_ble_eq_true rfl) (Nat.le_of_ble_eq_true rfl) (Nat.le_of_ble_eq_true rfl) ?_
      refine x_aload_n dX7_leansActs_39 rfl rfl ?_
      refine x_iload_n dX7_leansActs_40 rfl rfl ?_
      refine x_b (fun r4_ S4 e4 => ?_)
      refine x_callVi (As := [.int p1]) dX7_leansActs_41 (aMet_of e4 (m_X7_plainLeans hM p1 S3)) g_X7_leansActs_255 rfl hM.1 rfl dd_X7_plainLeans rfl rfl (Nat.le_of_ble_eq_true rfl) (Nat.le_of_ble_eq_true rfl) (Nat.le_of_ble_eq_true rfl) ?_
      refine x_aload_n dX7_leansActs_44 rfl rfl ?_
      refine x_getI (k := 0) (j := 29) dX7_leansActs_45 hM.1 rfl rfl (Nat.le_of_ble_eq_true rfl) (fun w h => List.mem_cons_of_mem _ (inlX7 w h)) w_X7_leansActs_f246 ?_
      refine x_ixor dX7_leansActs_48 ?_
      exact x_iret dX7_leansActs_49 rfl
  · refine x_aload_n dX7_leansActs_11 rfl rfl ?_
    refine x_bipush (11 : Int32) dX7_leansActs_12 (by decide) ?_
    refine x_b (fun r5_ S5 e5 => ?_)
    refine x_callVv (As := [.int (11 : Int32)]) dX7_leansActs_14 (aMet_of e5 (m_X7_runs hM (11 : Int32) S1)) g_X7_leansActs_243 rfl hM.1 rfl dd_X7_runs rfl rfl (Nat.le_of_ble_eq_true rfl) (Nat.le_of_ble_eq_true rfl) (Nat.le_of_ble_eq_true rfl) ?_
    refine x_aload_n dX7_leansActs_17 rfl rfl ?_
    refine x_iload_n dX7_leansActs_18 rfl rfl ?_
    refine x_iconst (3 : Int32) dX7_leansActs_19 (by decide) ?_
    refine x_imul dX7_leansActs_20 ?_
    refine x_b (fun r6_ S6 e6 => ?_)
    refine x_callVi (As := [.int (p1 * (3 : Int32))]) dX7_leansActs_21 (aMet_of e6 (m_X7_plainLeans hM (p1 * (3 : Int32)) S5)) g_X7_leansActs_255 rfl hM.1 rfl dd_X7_plainLeans rfl rfl (Nat.le_of_ble_eq_true rfl) (Nat.le_of_ble_eq_true rfl) (Nat.le_of_ble_eq_true rfl) ?_
    exact x_iret dX7_leansActs_24 rfl
theorem dd_X7_leansActs : yX7_leansActs.cls = RX7 ∧ yX7_leansActs.cls ≠ "java/lang/invoke/MethodHandle" ∧ yX7_leansActs.cls ≠ "java/lang/invoke/VarHandle" ∧ (parseMethodDescriptor yX7_leansActs.desc).map (fun d => d.parameters.length) = some 1 := by decide +kernel
theorem g_X7_plainHolds_243 : GoodIn uX7_plainHolds (wsV yX7_plainHolds.cls 243 RX7 yX7_runs uX7_runs) := gU_V (wU_r37 _ (List.mem_of_getElem? (i := 9) rfl)) (wU_r37 _ (List.mem_of_getElem? (i := 10) rfl)) (wU_r37 _ (List.mem_of_getElem? (i := 11) rfl)) (wU_r1 _ (List.mem_of_getElem? (i := 5) rfl)) (wU_r37 _ (List.mem_of_getElem? (i := 12) rfl))
theorem g_X7_plainHolds_258 : GoodIn uX7_plainHolds (wsV yX7_plainHolds.cls 258 RX7 yX7_leansActs uX7_leansActs) := gU_V (wU_r37 _ (List.mem_of_getElem? (i := 2) rfl)) (wU_r37 _ (List.mem_of_getElem? (i := 3) rfl)) (wU_r37 _ (List.mem_of_getElem? (i := 4) rfl)) (wU_r1 _ (List.mem_of_getElem? (i := 5) rfl)) (wU_r37 _ (List.mem_of_getElem? (i := 5) rfl))
theorem w_X7_plainHolds_f261 : Cond.fieldLink yX7_plainHolds.cls 261 (TX7 30).1 (TX7 30).2.1 (TX7 30).2.2.1 ∈ uX7_plainHolds := List.mem_cons_of_mem _ (wU_r37 _ (List.mem_of_getElem? (i := 1) rfl))
def f_X7_plainHolds (p1 : Int32) (S : aSt) : Option (Int32 × aSt) := (aB (f_X7_runs (2 : Int32) S) (fun r1_ S1 => (aB (f_X7_leansActs p1 S1) (fun r2_ S2 => (some ((r2_ - (S2.1 (0) 30)), S2))))))
set_option maxRecDepth 20000 in
set_option maxHeartbeats 4000000 in
theorem m_X7_plainHolds {G : aG} (hM : aMo G) (p1 : Int32) (S : aSt) : aMet G yX7_plainHolds uX7_plainHolds 5 mk_i (f_X7_plainHolds p1 S) [.ref (0), .int p1] S := by
  refine x_met (cc := cX7_plainHolds) (nL := 2) (ret := (some .int)) (L := [some (.ref (0)), some (.int p1)]) (by decide +kernel) rfl (And.intro rfl (And.intro rfl trivial)) (Nat.le_of_ble_eq_true rfl) ?_
  unfold f_X7_plainHolds
  refine x_aload_n dX7_plainHolds_0 rfl rfl ?_
  refine x_iconst (2 : Int32) dX7_plainHolds_1 (by decide) ?_
  refine x_b (fun r1_ S1 e1 => ?_)
  refine x_callVv (As := [.int (2 : Int32)]) dX7_plainHolds_2 (aMet_of e1 (m_X7_runs hM (2 : Int32) S)) g_X7_plainHolds_243 rfl hM.1 rfl dd_X7_runs rfl rfl (Nat.le_of_ble_eq_true rfl) (Nat.le_of_ble_eq_true rfl) (Nat.le_of_ble_eq_true rfl) ?_
  refine x_aload_n dX7_plainHolds_5 rfl rfl ?_
  refine x_iload_n dX7_plainHolds_6 rfl rfl ?_
  refine x_b (fun r2_ S2 e2 => ?_)
  refine x_callVi (As := [.int p1]) dX7_plainHolds_7 (aMet_of e2 (m_X7_leansActs hM p1 S1)) g_X7_plainHolds_258 rfl hM.1 rfl dd_X7_leansActs rfl rfl (Nat.le_of_ble_eq_true rfl) (Nat.le_of_ble_eq_true rfl) (Nat.le_of_ble_eq_true rfl) ?_
  refine x_aload_n dX7_plainHolds_10 rfl rfl ?_
  refine x_getI (k := 0) (j := 30) dX7_plainHolds_11 hM.1 rfl rfl (Nat.le_of_ble_eq_true rfl) (fun w h => List.mem_cons_of_mem _ (inlX7 w h)) w_X7_plainHolds_f261 ?_
  refine x_isub dX7_plainHolds_14 ?_
  exact x_iret dX7_plainHolds_15 rfl
theorem dd_X7_plainHolds : yX7_plainHolds.cls = RX7 ∧ yX7_plainHolds.cls ≠ "java/lang/invoke/MethodHandle" ∧ yX7_plainHolds.cls ≠ "java/lang/invoke/VarHandle" ∧ (parseMethodDescriptor yX7_plainHolds.desc).map (fun d => d.parameters.length) = some 1 := by decide +kernel
theorem w_X7_holdsActs_f249 : Cond.fieldLink yX7_holdsActs.cls 249 (TX7 28).1 (TX7 28).2.1 (TX7 28).2.2.1 ∈ uX7_holdsActs := List.mem_cons_of_mem _ (wU_r36 _ (List.mem_of_getElem? (i := 23) rfl))
theorem g_X7_holdsActs_252 : GoodIn uX7_holdsActs (va_wsS yX7_holdsActs.cls 252 yX7_isUnder uX7_isUnder) := gU_S (wU_r37 _ (List.mem_of_getElem? (i := 6) rfl)) (wU_r37 _ (List.mem_of_getElem? (i := 7) rfl)) (wU_r1 _ (List.mem_of_getElem? (i := 5) rfl)) (wU_r37 _ (List.mem_of_getElem? (i := 8) rfl))
theorem g_X7_holdsActs_264 : GoodIn uX7_holdsActs (wsV yX7_holdsActs.cls 264 RX7 yX7_plainHolds uX7_plainHolds) := gU_V (wU_r37 _ (List.mem_of_getElem? (i := 21) rfl)) (wU_r37 _ (List.mem_of_getElem? (i := 22) rfl)) (wU_r37 _ (List.mem_of_getElem? (i := 23) rfl)) (wU_r1 _ (List.mem_of_getElem? (i := 5) rfl)) (wU_r38 _ (List.mem_of_getElem? (i := 0) rfl))
theorem g_X7_holdsActs_243 : GoodIn uX7_holdsActs (wsV yX7_holdsActs.cls 243 RX7 yX7_runs uX7_runs) := gU_V (wU_r37 _ (List.mem_of_getElem? (i := 9) rfl)) (wU_r37 _ (List.mem_of_getElem? (i := 10) rfl)) (wU_r37 _ (List.mem_of_getElem? (i := 11) rfl)) (wU_r1 _ (List.mem_of_getElem? (i := 5) rfl)) (wU_r37 _ (List.mem_of_getElem? (i := 12) rfl))
theorem w_X7_holdsActs_f261 : Cond.fieldLink yX7_holdsActs.cls 261 (TX7 30).1 (TX7 30).2.1 (TX7 30).2.2.1 ∈ uX7_holdsActs := List.mem_cons_of_mem _ (wU_r37 _ (List.mem_of_getElem? (i := 1) rfl))
def f_X7_holdsActs (p1 : Int32) (S : aSt) : Option (Int32 × aSt) := (aB (f_X7_isUnder (S.1 (0) 28) (2 : Int32) S) (fun r1_ S1 => (if r1_ = 0 then (if (S1.1 (0) 28) = (6 : Int32) then (aB (f_X7_runs (61 : Int32) S1) (fun r3_ S3 => (aB (f_X7_plainHolds p1 S3) (fun r4_ S4 => (some ((r4_ + (S4.1 (0) 30)), S4)))))) else (aB (f_X7_plainHolds p1 S1) (fun r2_ S2 => (some (r2_, S2))))) else (aB (f_X7_runs (21 : Int32) S1) (fun r5_ S5 => (aB (f_X7_plainHolds p1 S5) (fun r6_ S6 => (some ((-r6_), S6)))))))))
set_option maxRecDepth 20000 in
set_option maxHeartbeats 4000000 in
theorem m_X7_holdsActs {G : aG} (hM : aMo G) (p1 : Int32) (S : aSt) : aMet G yX7_holdsActs uX7_holdsActs 6 mk_i (f_X7_holdsActs p1 S) [.ref (0), .int p1] S := by
  refine x_met (cc := cX7_holdsActs) (nL := 2) (ret := (some .int)) (L := [some (.ref (0)), some (.int p1)]) (by decide +kernel) rfl (And.intro rfl (And.intro rfl trivial)) (Nat.le_of_ble_eq_true rfl) ?_
  unfold f_X7_holdsActs
  refine x_aload_n dX7_holdsActs_0 rfl rfl ?_
  refine x_getI (k := 0) (j := 28) dX7_holdsActs_1 hM.1 rfl rfl (Nat.le_of_ble_eq_true rfl) (fun w h => List.mem_cons_of_mem _ (inlX7 w h)) w_X7_holdsActs_f249 ?_
  refine x_iconst (2 : Int32) dX7_holdsActs_4 (by decide) ?_
  refine x_b (fun r1_ S1 e1 => ?_)
  refine x_callSi (As := [.int (S.1 (0) 28), .int (2 : Int32)]) dX7_holdsActs_5 (aMet_of e1 (m_X7_isUnder (S.1 (0) 28) (2 : Int32) S)) g_X7_holdsActs_252 rfl dd_X7_isUnder rfl rfl (Nat.le_of_ble_eq_true rfl) (Nat.le_of_ble_eq_true rfl) (Nat.le_of_ble_eq_true rfl) ?_
  refine x_if_eq (tgt := 24) dX7_holdsActs_8 (by decide) ?_ ?_
  · refine x_aload_n dX7_holdsActs_24 rfl rfl ?_
    refine x_getI (k := 0) (j := 28) dX7_holdsActs_25 hM.1 rfl rfl (Nat.le_of_ble_eq_true rfl) (fun w h => List.mem_cons_of_mem _ (inlX7 w h)) w_X7_holdsActs_f249 ?_
    refine x_bipush (6 : Int32) dX7_holdsActs_28 (by decide) ?_
    refine x_icmp_ne (tgt := 50) dX7_holdsActs_30 (by decide) ?_ ?_
    · refine x_aload_n dX7_holdsActs_50 rfl rfl ?_
      refine x_iload_n dX7_holdsActs_51 rfl rfl ?_
      refine x_b (fun r2_ S2 e2 => ?_)
      refine x_callVi (As := [.int p1]) dX7_holdsActs_52 (aMet_of e2 (m_X7_plainHolds hM p1 S1)) g_X7_holdsActs_264 rfl hM.1 rfl dd_X7_plainHolds rfl rfl (Nat.le_of_ble_eq_true rfl) (Nat.le_of_ble_eq_true rfl) (Nat.le_of_ble_eq_true rfl) ?_
      exact x_iret dX7_holdsActs_55 rfl
    · refine x_aload_n dX7_holdsActs_33 rfl rfl ?_
      refine x_bipush (61 : Int32) dX7_holdsActs_34 (by decide) ?_
      refine x_b (fun r3_ S3 e3 => ?_)
      refine x_callVv (As := [.int (61 : Int32)]) dX7_holdsActs_36 (aMet_of e3 (m_X7_runs hM (61 : Int32) S1)) g_X7_holdsActs_243 rfl hM.1 rfl dd_X7_runs rfl rfl (Nat.le_of_ble_eq_true rfl) (Nat.le_of_ble_eq_true rfl) (Nat.le_of_ble_eq_true rfl) ?_
      refine x_aload_n dX7_holdsActs_39 rfl rfl ?_
      refine x_iload_n dX7_holdsActs_40 rfl rfl ?_
      refine x_b (fun r4_ S4 e4 => ?_)
      refine x_callVi (As := [.int p1]) dX7_holdsActs_41 (aMet_of e4 (m_X7_plainHolds hM p1 S3)) g_X7_holdsActs_264 rfl hM.1 rfl dd_X7_plainHolds rfl rfl (Nat.le_of_ble_eq_true rfl) (Nat.le_of_ble_eq_true rfl) (Nat.le_of_ble_eq_true rfl) ?_
      refine x_aload_n dX7_holdsActs_44 rfl rfl ?_
      refine x_getI (k := 0) (j := 30) dX7_holdsActs_45 hM.1 rfl rfl (Nat.le_of_ble_eq_true rfl) (fun w h => List.mem_cons_of_mem _ (inlX7 w h)) w_X7_holdsActs_f261 ?_
      refine x_iadd dX7_holdsActs_48 ?_
      exact x_iret dX7_holdsActs_49 rfl
  · refine x_aload_n dX7_holdsActs_11 rfl rfl ?_
    refine x_bipush (21 : Int32) dX7_holdsActs_12 (by decide) ?_
    refine x_b (fun r5_ S5 e5 => ?_)
    refine x_callVv (As := [.int (21 : Int32)]) dX7_holdsActs_14 (aMet_of e5 (m_X7_runs hM (21 : Int32) S1)) g_X7_holdsActs_243 rfl hM.1 rfl dd_X7_runs rfl rfl (Nat.le_of_ble_eq_true rfl) (Nat.le_of_ble_eq_true rfl) (Nat.le_of_ble_eq_true rfl) ?_
    refine x_aload_n dX7_holdsActs_17 rfl rfl ?_
    refine x_iload_n dX7_holdsActs_18 rfl rfl ?_
    refine x_b (fun r6_ S6 e6 => ?_)
    refine x_callVi (As := [.int p1]) dX7_holdsActs_19 (aMet_of e6 (m_X7_plainHolds hM p1 S5)) g_X7_holdsActs_264 rfl hM.1 rfl dd_X7_plainHolds rfl rfl (Nat.le_of_ble_eq_true rfl) (Nat.le_of_ble_eq_true rfl) (Nat.le_of_ble_eq_true rfl) ?_
    refine x_ineg dX7_holdsActs_22 ?_
    exact x_iret dX7_holdsActs_23 rfl
theorem dd_X7_holdsActs : yX7_holdsActs.cls = RX7 ∧ yX7_holdsActs.cls ≠ "java/lang/invoke/MethodHandle" ∧ yX7_holdsActs.cls ≠ "java/lang/invoke/VarHandle" ∧ (parseMethodDescriptor yX7_holdsActs.desc).map (fun d => d.parameters.length) = some 1 := by decide +kernel
theorem g_X7_plainTells_243 : GoodIn uX7_plainTells (wsV yX7_plainTells.cls 243 RX7 yX7_runs uX7_runs) := gU_V (wU_r37 _ (List.mem_of_getElem? (i := 9) rfl)) (wU_r37 _ (List.mem_of_getElem? (i := 10) rfl)) (wU_r37 _ (List.mem_of_getElem? (i := 11) rfl)) (wU_r1 _ (List.mem_of_getElem? (i := 5) rfl)) (wU_r37 _ (List.mem_of_getElem? (i := 12) rfl))
theorem g_X7_plainTells_267 : GoodIn uX7_plainTells (wsV yX7_plainTells.cls 267 RX7 yX7_holdsActs uX7_holdsActs) := gU_V (wU_r37 _ (List.mem_of_getElem? (i := 17) rfl)) (wU_r37 _ (List.mem_of_getElem? (i := 18) rfl)) (wU_r37 _ (List.mem_of_getElem? (i := 19) rfl)) (wU_r1 _ (List.mem_of_getElem? (i := 5) rfl)) (wU_r37 _ (List.mem_of_getElem? (i := 20) rfl))
def f_X7_plainTells (p1 : Int32) (S : aSt) : Option (Int32 × aSt) := (aB (f_X7_runs (3 : Int32) S) (fun r1_ S1 => (aB (f_X7_holdsActs p1 S1) (fun r2_ S2 => (some ((r2_ * (2 : Int32)), S2))))))
set_option maxRecDepth 20000 in
set_option maxHeartbeats 4000000 in
theorem m_X7_plainTells {G : aG} (hM : aMo G) (p1 : Int32) (S : aSt) : aMet G yX7_plainTells uX7_plainTells 7 mk_i (f_X7_plainTells p1 S) [.ref (0), .int p1] S := by
  refine x_met (cc := cX7_plainTells) (nL := 2) (ret := (some .int)) (L := [some (.ref (0)), some (.int p1)]) (by decide +kernel) rfl (And.intro rfl (And.intro rfl trivial)) (Nat.le_of_ble_eq_true rfl) ?_
  unfold f_X7_plainTells
  refine x_aload_n dX7_plainTells_0 rfl rfl ?_
  refine x_iconst (3 : Int32) dX7_plainTells_1 (by decide) ?_
  refine x_b (fun r1_ S1 e1 => ?_)
  refine x_callVv (As := [.int (3 : Int32)]) dX7_plainTells_2 (aMet_of e1 (m_X7_runs hM (3 : Int32) S)) g_X7_plainTells_243 rfl hM.1 rfl dd_X7_runs rfl rfl (Nat.le_of_ble_eq_true rfl) (Nat.le_of_ble_eq_true rfl) (Nat.le_of_ble_eq_true rfl) ?_
  refine x_aload_n dX7_plainTells_5 rfl rfl ?_
  refine x_iload_n dX7_plainTells_6 rfl rfl ?_
  refine x_b (fun r2_ S2 e2 => ?_)
  refine x_callVi (As := [.int p1]) dX7_plainTells_7 (aMet_of e2 (m_X7_holdsActs hM p1 S1)) g_X7_plainTells_267 rfl hM.1 rfl dd_X7_holdsActs rfl rfl (Nat.le_of_ble_eq_true rfl) (Nat.le_of_ble_eq_true rfl) (Nat.le_of_ble_eq_true rfl) ?_
  refine x_iconst (2 : Int32) dX7_plainTells_10 (by decide) ?_
  refine x_imul dX7_plainTells_11 ?_
  exact x_iret dX7_plainTells_12 rfl
theorem dd_X7_plainTells : yX7_plainTells.cls = RX7 ∧ yX7_plainTells.cls ≠ "java/lang/invoke/MethodHandle" ∧ yX7_plainTells.cls ≠ "java/lang/invoke/VarHandle" ∧ (parseMethodDescriptor yX7_plainTells.desc).map (fun d => d.parameters.length) = some 1 := by decide +kernel
theorem w_X7_tellsActs_f249 : Cond.fieldLink yX7_tellsActs.cls 249 (TX7 28).1 (TX7 28).2.1 (TX7 28).2.2.1 ∈ uX7_tellsActs := List.mem_cons_of_mem _ (wU_r36 _ (List.mem_of_getElem? (i := 23) rfl))
theorem g_X7_tellsActs_252 : GoodIn uX7_tellsActs (va_wsS yX7_tellsActs.cls 252 yX7_isUnder uX7_isUnder) := gU_S (wU_r37 _ (List.mem_of_getElem? (i := 6) rfl)) (wU_r37 _ (List.mem_of_getElem? (i := 7) rfl)) (wU_r1 _ (List.mem_of_getElem? (i := 5) rfl)) (wU_r37 _ (List.mem_of_getElem? (i := 8) rfl))
theorem g_X7_tellsActs_270 : GoodIn uX7_tellsActs (wsV yX7_tellsActs.cls 270 RX7 yX7_plainTells uX7_plainTells) := gU_V (wU_r38 _ (List.mem_of_getElem? (i := 5) rfl)) (wU_r38 _ (List.mem_of_getElem? (i := 6) rfl)) (wU_r38 _ (List.mem_of_getElem? (i := 7) rfl)) (wU_r1 _ (List.mem_of_getElem? (i := 5) rfl)) (wU_r38 _ (List.mem_of_getElem? (i := 8) rfl))
theorem g_X7_tellsActs_243 : GoodIn uX7_tellsActs (wsV yX7_tellsActs.cls 243 RX7 yX7_runs uX7_runs) := gU_V (wU_r37 _ (List.mem_of_getElem? (i := 9) rfl)) (wU_r37 _ (List.mem_of_getElem? (i := 10) rfl)) (wU_r37 _ (List.mem_of_getElem? (i := 11) rfl)) (wU_r1 _ (List.mem_of_getElem? (i := 5) rfl)) (wU_r37 _ (List.mem_of_getElem? (i := 12) rfl))
theorem g_X7_tellsActs_258 : GoodIn uX7_tellsActs (wsV yX7_tellsActs.cls 258 RX7 yX7_leansActs uX7_leansActs) := gU_V (wU_r37 _ (List.mem_of_getElem? (i := 2) rfl)) (wU_r37 _ (List.mem_of_getElem? (i := 3) rfl)) (wU_r37 _ (List.mem_of_getElem? (i := 4) rfl)) (wU_r1 _ (List.mem_of_getElem? (i := 5) rfl)) (wU_r37 _ (List.mem_of_getElem? (i := 5) rfl))
def f_X7_tellsActs (p1 : Int32) (S : aSt) : Option (Int32 × aSt) := (aB (f_X7_isUnder (S.1 (0) 28) (3 : Int32) S) (fun r1_ S1 => (if r1_ = 0 then (if (S1.1 (0) 28) = (4 : Int32) then (aB (f_X7_runs (41 : Int32) S1) (fun r3_ S3 => (aB (f_X7_plainTells (p1 - (1 : Int32)) S3) (fun r4_ S4 => (aB (f_X7_leansActs (2 : Int32) S4) (fun r5_ S5 => (some ((r4_ + r5_), S5)))))))) else (aB (f_X7_plainTells p1 S1) (fun r2_ S2 => (some (r2_, S2))))) else (aB (f_X7_runs (31 : Int32) S1) (fun r6_ S6 => (aB (f_X7_plainTells p1 S6) (fun r7_ S7 => (some ((r7_ ^^^ (7 : Int32)), S7)))))))))
set_option maxRecDepth 20000 in
set_option maxHeartbeats 4000000 in
theorem m_X7_tellsActs {G : aG} (hM : aMo G) (p1 : Int32) (S : aSt) : aMet G yX7_tellsActs uX7_tellsActs 8 mk_i (f_X7_tellsActs p1 S) [.ref (0), .int p1] S := by
  refine x_met (cc := cX7_tellsActs) (nL := 3) (ret := (some .int)) (L := [some (.ref (0)), some (.int p1), none]) (by decide +kernel) rfl (And.intro rfl (And.intro rfl trivial)) (Nat.le_of_ble_eq_true rfl) ?_
  unfold f_X7_tellsActs
  refine x_aload_n dX7_tellsActs_0 rfl rfl ?_
  refine x_getI (k := 0) (j := 28) dX7_tellsActs_1 hM.1 rfl rfl (Nat.le_of_ble_eq_true rfl) (fun w h => List.mem_cons_of_mem _ (inlX7 w h)) w_X7_tellsActs_f249 ?_
  refine x_iconst (3 : Int32) dX7_tellsActs_4 (by decide) ?_
  refine x_b (fun r1_ S1 e1 => ?_)
  refine x_callSi (As := [.int (S.1 (0) 28), .int (3 : Int32)]) dX7_tellsActs_5 (aMet_of e1 (m_X7_isUnder (S.1 (0) 28) (3 : Int32) S)) g_X7_tellsActs_252 rfl dd_X7_isUnder rfl rfl (Nat.le_of_ble_eq_true rfl) (Nat.le_of_ble_eq_true rfl) (Nat.le_of_ble_eq_true rfl) ?_
  refine x_if_eq (tgt := 26) dX7_tellsActs_8 (by decide) ?_ ?_
  · refine x_aload_n dX7_tellsActs_26 rfl rfl ?_
    refine x_getI (k := 0) (j := 28) dX7_tellsActs_27 hM.1 rfl rfl (Nat.le_of_ble_eq_true rfl) (fun w h => List.mem_cons_of_mem _ (inlX7 w h)) w_X7_tellsActs_f249 ?_
    refine x_iconst (4 : Int32) dX7_tellsActs_30 (by decide) ?_
    refine x_icmp_ne (tgt := 56) dX7_tellsActs_31 (by decide) ?_ ?_
    · refine x_aload_n dX7_tellsActs_56 rfl rfl ?_
      refine x_iload_n dX7_tellsActs_57 rfl rfl ?_
      refine x_b (fun r2_ S2 e2 => ?_)
      refine x_callVi (As := [.int p1]) dX7_tellsActs_58 (aMet_of e2 (m_X7_plainTells hM p1 S1)) g_X7_tellsActs_270 rfl hM.1 rfl dd_X7_plainTells rfl rfl (Nat.le_of_ble_eq_true rfl) (Nat.le_of_ble_eq_true rfl) (Nat.le_of_ble_eq_true rfl) ?_
      exact x_iret dX7_tellsActs_61 rfl
    · refine x_aload_n dX7_tellsActs_34 rfl rfl ?_
      refine x_bipush (41 : Int32) dX7_tellsActs_35 (by decide) ?_
      refine x_b (fun r3_ S3 e3 => ?_)
      refine x_callVv (As := [.int (41 : Int32)]) dX7_tellsActs_37 (aMet_of e3 (m_X7_runs hM (41 : Int32) S1)) g_X7_tellsActs_243 rfl hM.1 rfl dd_X7_runs rfl rfl (Nat.le_of_ble_eq_true rfl) (Nat.le_of_ble_eq_true rfl) (Nat.le_of_ble_eq_true rfl) ?_
      refine x_aload_n dX7_tellsActs_40 rfl rfl ?_
      refine x_iload_n dX7_tellsActs_41 rfl rfl ?_
      refine x_iconst (1 : Int32) dX7_tellsActs_42 (by decide) ?_
      refine x_isub dX7_tellsActs_43 ?_
      refine x_b (fun r4_ S4 e4 => ?_)
      refine x_callVi (As := [.int (p1 - (1 : Int32))]) dX7_tellsActs_44 (aMet_of e4 (m_X7_plainTells hM (p1 - (1 : Int32)) S3)) g_X7_tellsActs_270 rfl hM.1 rfl dd_X7_plainTells rfl rfl (Nat.le_of_ble_eq_true rfl) (Nat.le_of_ble_eq_true rfl) (Nat.le_of_ble_eq_true rfl) ?_
      refine x_istore_n dX7_tellsActs_47 rfl (Nat.le_of_ble_eq_true rfl) rfl ?_
      refine x_iload_n dX7_tellsActs_48 rfl rfl ?_
      refine x_aload_n dX7_tellsActs_49 rfl rfl ?_
      refine x_iconst (2 : Int32) dX7_tellsActs_50 (by decide) ?_
      refine x_b (fun r5_ S5 e5 => ?_)
      refine x_callVi (As := [.int (2 : Int32)]) dX7_tellsActs_51 (aMet_of e5 (m_X7_leansActs hM (2 : Int32) S4)) g_X7_tellsActs_258 rfl hM.1 rfl dd_X7_leansActs rfl rfl (Nat.le_of_ble_eq_true rfl) (Nat.le_of_ble_eq_true rfl) (Nat.le_of_ble_eq_true rfl) ?_
      refine x_iadd dX7_tellsActs_54 ?_
      exact x_iret dX7_tellsActs_55 rfl
  · refine x_aload_n dX7_tellsActs_11 rfl rfl ?_
    refine x_bipush (31 : Int32) dX7_tellsActs_12 (by decide) ?_
    refine x_b (fun r6_ S6 e6 => ?_)
    refine x_callVv (As := [.int (31 : Int32)]) dX7_tellsActs_14 (aMet_of e6 (m_X7_runs hM (31 : Int32) S1)) g_X7_tellsActs_243 rfl hM.1 rfl dd_X7_runs rfl rfl (Nat.le_of_ble_eq_true rfl) (Nat.le_of_ble_eq_true rfl) (Nat.le_of_ble_eq_true rfl) ?_
    refine x_aload_n dX7_tellsActs_17 rfl rfl ?_
    refine x_iload_n dX7_tellsActs_18 rfl rfl ?_
    refine x_b (fun r7_ S7 e7 => ?_)
    refine x_callVi (As := [.int p1]) dX7_tellsActs_19 (aMet_of e7 (m_X7_plainTells hM p1 S6)) g_X7_tellsActs_270 rfl hM.1 rfl dd_X7_plainTells rfl rfl (Nat.le_of_ble_eq_true rfl) (Nat.le_of_ble_eq_true rfl) (Nat.le_of_ble_eq_true rfl) ?_
    refine x_bipush (7 : Int32) dX7_tellsActs_22 (by decide) ?_
    refine x_ixor dX7_tellsActs_24 ?_
    exact x_iret dX7_tellsActs_25 rfl
theorem dd_X7_tellsActs : yX7_tellsActs.cls = RX7 ∧ yX7_tellsActs.cls ≠ "java/lang/invoke/MethodHandle" ∧ yX7_tellsActs.cls ≠ "java/lang/invoke/VarHandle" ∧ (parseMethodDescriptor yX7_tellsActs.desc).map (fun d => d.parameters.length) = some 1 := by decide +kernel
theorem w_X7_act_f240 : Cond.fieldLink yX7_act.cls 240 (TX7 27).1 (TX7 27).2.1 (TX7 27).2.2.1 ∈ uX7_act := List.mem_cons_of_mem _ (wU_r36 _ (List.mem_of_getElem? (i := 22) rfl))
theorem g_X7_act_138 : GoodIn uX7_act (wsV yX7_act.cls 138 RX7 yX7_isTree uX7_isTree) := gU_V (wU_r19 _ (List.mem_of_getElem? (i := 1) rfl)) (wU_r19 _ (List.mem_of_getElem? (i := 2) rfl)) (wU_r19 _ (List.mem_of_getElem? (i := 3) rfl)) (wU_r1 _ (List.mem_of_getElem? (i := 5) rfl)) (wU_r19 _ (List.mem_of_getElem? (i := 4) rfl))
theorem g_X7_act_41 : GoodIn uX7_act (va_wsS yX7_act.cls 41 yX7_in uX7_in) := gU_S (wU_r6 _ (List.mem_of_getElem? (i := 4) rfl)) (wU_r6 _ (List.mem_of_getElem? (i := 5) rfl)) (wU_r1 _ (List.mem_of_getElem? (i := 5) rfl)) (wU_r6 _ (List.mem_of_getElem? (i := 6) rfl))
theorem w_X7_act_f9 : Cond.fieldLink yX7_act.cls 9 (TX7 1).1 (TX7 1).2.1 (TX7 1).2.2.1 ∈ uX7_act := List.mem_cons_of_mem _ (wU_r4 _ (List.mem_of_getElem? (i := 14) rfl))
theorem w_X7_act_f249 : Cond.fieldLink yX7_act.cls 249 (TX7 28).1 (TX7 28).2.1 (TX7 28).2.2.1 ∈ uX7_act := List.mem_cons_of_mem _ (wU_r36 _ (List.mem_of_getElem? (i := 23) rfl))
theorem w_X7_act_f246 : Cond.fieldLink yX7_act.cls 246 (TX7 29).1 (TX7 29).2.1 (TX7 29).2.2.1 ∈ uX7_act := List.mem_cons_of_mem _ (wU_r37 _ (List.mem_of_getElem? (i := 0) rfl))
theorem w_X7_act_f261 : Cond.fieldLink yX7_act.cls 261 (TX7 30).1 (TX7 30).2.1 (TX7 30).2.2.1 ∈ uX7_act := List.mem_cons_of_mem _ (wU_r37 _ (List.mem_of_getElem? (i := 1) rfl))
theorem g_X7_act_273 : GoodIn uX7_act (wsV yX7_act.cls 273 RX7 yX7_tellsActs uX7_tellsActs) := gU_V (wU_r38 _ (List.mem_of_getElem? (i := 1) rfl)) (wU_r38 _ (List.mem_of_getElem? (i := 2) rfl)) (wU_r38 _ (List.mem_of_getElem? (i := 3) rfl)) (wU_r1 _ (List.mem_of_getElem? (i := 5) rfl)) (wU_r38 _ (List.mem_of_getElem? (i := 4) rfl))
theorem g_X7_act_267 : GoodIn uX7_act (wsV yX7_act.cls 267 RX7 yX7_holdsActs uX7_holdsActs) := gU_V (wU_r37 _ (List.mem_of_getElem? (i := 17) rfl)) (wU_r37 _ (List.mem_of_getElem? (i := 18) rfl)) (wU_r37 _ (List.mem_of_getElem? (i := 19) rfl)) (wU_r1 _ (List.mem_of_getElem? (i := 5) rfl)) (wU_r37 _ (List.mem_of_getElem? (i := 20) rfl))
theorem g_X7_act_258 : GoodIn uX7_act (wsV yX7_act.cls 258 RX7 yX7_leansActs uX7_leansActs) := gU_V (wU_r37 _ (List.mem_of_getElem? (i := 2) rfl)) (wU_r37 _ (List.mem_of_getElem? (i := 3) rfl)) (wU_r37 _ (List.mem_of_getElem? (i := 4) rfl)) (wU_r1 _ (List.mem_of_getElem? (i := 5) rfl)) (wU_r37 _ (List.mem_of_getElem? (i := 5) rfl))
def f_X7_act (p1 : Int32) (p2 : Int32) (p3 : Int32) (S : aSt) : Option (Int32 × aSt) := (aLt (aUi S (0) 27 (0 : Int32)) (fun S1 => (aB (f_X7_isTree p1 S1) (fun r2_ S2 => (if r2_ = 0 then (some ((0 : Int32), S2)) else (aB (f_X7_in p2 (0 : Int32) (2 : Int32) S2) (fun r3_ S3 => (if r3_ = 0 then (some ((0 : Int32), S3)) else (if ((110 : Int32) + p1) < 0 ∨ 979 ≤ (((110 : Int32) + p1)).toNatClampNeg then none else (aLt (aUi S3 (0) 28 (S3.1 (1) (((110 : Int32) + p1)).toNatClampNeg)) (fun S4 => (aLt (aUi S4 (0) 29 p1) (fun S5 => (if ((116 : Int32) + p1) < 0 ∨ 979 ≤ (((116 : Int32) + p1)).toNatClampNeg then none else (aLt (aUi S5 (0) 30 (S5.1 (1) (((116 : Int32) + p1)).toNatClampNeg)) (fun S6 => (if p2 = 0 then (aB (f_X7_leansActs p3 S6) (fun r9_ S9 => (some (r9_, S9)))) else (if p2 = (1 : Int32) then (aB (f_X7_holdsActs p3 S6) (fun r8_ S8 => (some (r8_, S8)))) else (aB (f_X7_tellsActs p3 S6) (fun r7_ S7 => (some (r7_, S7))))))))))))))))))))))
set_option maxRecDepth 20000 in
set_option maxHeartbeats 4000000 in
theorem m_X7_act {G : aG} (hM : aMo G) (p1 : Int32) (p2 : Int32) (p3 : Int32) (S : aSt) : aMet G yX7_act uX7_act 9 mk_i (f_X7_act p1 p2 p3 S) [.ref (0), .int p1, .int p2, .int p3] S := by
  refine x_met (cc := cX7_act) (nL := 4) (ret := (some .int)) (L := [some (.ref (0)), some (.int p1), some (.int p2), some (.int p3)]) (by decide +kernel) rfl (And.intro rfl (And.intro rfl (And.intro rfl (And.intro rfl trivial)))) (Nat.le_of_ble_eq_true rfl) ?_
  unfold f_X7_act
  refine x_aload_n dX7_act_0 rfl rfl ?_
  refine x_iconst (0 : Int32) dX7_act_1 (by decide) ?_
  refine x_putI (k := 0) (j := 27) dX7_act_2 hM.1 rfl rfl (Nat.le_of_ble_eq_true rfl) (fun w h => List.mem_cons_of_mem _ (inlX7 w h)) w_X7_act_f240 tyX7 tyX7_ok nmX7 rfl (by decide +kernel) ?_
  refine x_ltS (fun S1 => ?_)
  refine x_aload_n dX7_act_5 rfl rfl ?_
  refine x_iload_n dX7_act_6 rfl rfl ?_
  refine x_b (fun r2_ S2 e2 => ?_)
  refine x_callVi (As := [.int p1]) dX7_act_7 (aMet_of e2 (m_X7_isTree hM p1 S1)) g_X7_act_138 rfl hM.1 rfl dd_X7_isTree rfl rfl (Nat.le_of_ble_eq_true rfl) (Nat.le_of_ble_eq_true rfl) (Nat.le_of_ble_eq_true rfl) ?_
  refine x_if_eq (tgt := 22) dX7_act_10 (by decide) ?_ ?_
  · refine x_iconst (0 : Int32) dX7_act_22 (by decide) ?_
    exact x_iret dX7_act_23 rfl
  · refine x_iload_n dX7_act_13 rfl rfl ?_
    refine x_iconst (0 : Int32) dX7_act_14 (by decide) ?_
    refine x_iconst (2 : Int32) dX7_act_15 (by decide) ?_
    refine x_b (fun r3_ S3 e3 => ?_)
    refine x_callSi (As := [.int p2, .int (0 : Int32), .int (2 : Int32)]) dX7_act_16 (aMet_of e3 (m_X7_in p2 (0 : Int32) (2 : Int32) S2)) g_X7_act_41 rfl dd_X7_in rfl rfl (Nat.le_of_ble_eq_true rfl) (Nat.le_of_ble_eq_true rfl) (Nat.le_of_ble_eq_true rfl) ?_
    refine x_if_ne (tgt := 24) dX7_act_19 (by decide) ?_ ?_
    · refine x_aload_n dX7_act_24 rfl rfl ?_
      refine x_aload_n dX7_act_25 rfl rfl ?_
      refine x_getR (r := 1) (k := 0) (j := 1) dX7_act_26 hM.1 rfl rfl (Nat.le_of_ble_eq_true rfl) (fun w h => List.mem_cons_of_mem _ (inlX7 w h)) w_X7_act_f9 ?_
      refine x_bipush (110 : Int32) dX7_act_29 (by decide) ?_
      refine x_iload_n dX7_act_31 rfl rfl ?_
      refine x_iadd dX7_act_32 ?_
      refine x_iald dX7_act_33 hM.2.1 ?_
      refine x_putI (k := 0) (j := 28) dX7_act_34 hM.1 rfl rfl (Nat.le_of_ble_eq_true rfl) (fun w h => List.mem_cons_of_mem _ (inlX7 w h)) w_X7_act_f249 tyX7 tyX7_ok nmX7 rfl (by decide +kernel) ?_
      refine x_ltS (fun S4 => ?_)
      refine x_aload_n dX7_act_37 rfl rfl ?_
      refine x_iload_n dX7_act_38 rfl rfl ?_
      refine x_putI (k := 0) (j := 29) dX7_act_39 hM.1 rfl rfl (Nat.le_of_ble_eq_true rfl) (fun w h => List.mem_cons_of_mem _ (inlX7 w h)) w_X7_act_f246 tyX7 tyX7_ok nmX7 rfl (by decide +kernel) ?_
      refine x_ltS (fun S5 => ?_)
      refine x_aload_n dX7_act_42 rfl rfl ?_
      refine x_aload_n dX7_act_43 rfl rfl ?_
      refine x_getR (r := 1) (k := 0) (j := 1) dX7_act_44 hM.1 rfl rfl (Nat.le_of_ble_eq_true rfl) (fun w h => List.mem_cons_of_mem _ (inlX7 w h)) w_X7_act_f9 ?_
      refine x_bipush (116 : Int32) dX7_act_47 (by decide) ?_
      refine x_iload_n dX7_act_49 rfl rfl ?_
      refine x_iadd dX7_act_50 ?_
      refine x_iald dX7_act_51 hM.2.1 ?_
      refine x_putI (k := 0) (j := 30) dX7_act_52 hM.1 rfl rfl (Nat.le_of_ble_eq_true rfl) (fun w h => List.mem_cons_of_mem _ (inlX7 w h)) w_X7_act_f261 tyX7 tyX7_ok nmX7 rfl (by decide +kernel) ?_
      refine x_ltS (fun S6 => ?_)
      refine x_iload_n dX7_act_55 rfl rfl ?_
      refine x_if_ne (tgt := 67) dX7_act_56 (by decide) ?_ ?_
      · refine x_iload_n dX7_act_67 rfl rfl ?_
        refine x_iconst (1 : Int32) dX7_act_68 (by decide) ?_
        refine x_icmp_ne (tgt := 80) dX7_act_69 (by decide) ?_ ?_
        · refine x_aload_n dX7_act_80 rfl rfl ?_
          refine x_iload_n dX7_act_81 rfl rfl ?_
          refine x_b (fun r7_ S7 e7 => ?_)
          refine x_callVi (As := [.int p3]) dX7_act_82 (aMet_of e7 (m_X7_tellsActs hM p3 S6)) g_X7_act_273 rfl hM.1 rfl dd_X7_tellsActs rfl rfl (Nat.le_of_ble_eq_true rfl) (Nat.le_of_ble_eq_true rfl) (Nat.le_of_ble_eq_true rfl) ?_
          exact x_iret dX7_act_85 rfl
        · refine x_aload_n dX7_act_72 rfl rfl ?_
          refine x_iload_n dX7_act_73 rfl rfl ?_
          refine x_b (fun r8_ S8 e8 => ?_)
          refine x_callVi (As := [.int p3]) dX7_act_74 (aMet_of e8 (m_X7_holdsActs hM p3 S6)) g_X7_act_267 rfl hM.1 rfl dd_X7_holdsActs rfl rfl (Nat.le_of_ble_eq_true rfl) (Nat.le_of_ble_eq_true rfl) (Nat.le_of_ble_eq_true rfl) ?_
          refine x_goto (tgt := 85) dX7_act_77 (by decide) ?_
          exact x_iret dX7_act_85 rfl
      · refine x_aload_n dX7_act_59 rfl rfl ?_
        refine x_iload_n dX7_act_60 rfl rfl ?_
        refine x_b (fun r9_ S9 e9 => ?_)
        refine x_callVi (As := [.int p3]) dX7_act_61 (aMet_of e9 (m_X7_leansActs hM p3 S6)) g_X7_act_258 rfl hM.1 rfl dd_X7_leansActs rfl rfl (Nat.le_of_ble_eq_true rfl) (Nat.le_of_ble_eq_true rfl) (Nat.le_of_ble_eq_true rfl) ?_
        refine x_goto (tgt := 85) dX7_act_64 (by decide) ?_
        exact x_iret dX7_act_85 rfl
    · refine x_iconst (0 : Int32) dX7_act_22 (by decide) ?_
      exact x_iret dX7_act_23 rfl
theorem w_X7_trace_f240 : Cond.fieldLink yX7_trace.cls 240 (TX7 27).1 (TX7 27).2.1 (TX7 27).2.2.1 ∈ uX7_trace := List.mem_cons_of_mem _ (wU_r36 _ (List.mem_of_getElem? (i := 22) rfl))
theorem g_X7_trace_41 : GoodIn uX7_trace (va_wsS yX7_trace.cls 41 yX7_in uX7_in) := gU_S (wU_r6 _ (List.mem_of_getElem? (i := 4) rfl)) (wU_r6 _ (List.mem_of_getElem? (i := 5) rfl)) (wU_r1 _ (List.mem_of_getElem? (i := 5) rfl)) (wU_r6 _ (List.mem_of_getElem? (i := 6) rfl))
theorem w_X7_trace_f34 : Cond.fieldLink yX7_trace.cls 34 (TX7 26).1 (TX7 26).2.1 (TX7 26).2.2.1 ∈ uX7_trace := List.mem_cons_of_mem _ (wU_r4 _ (List.mem_of_getElem? (i := 22) rfl))
def f_X7_trace_20  (l1 : Int32) (s0 : Int32) (s1 : Int32) (s2 : Int32) (S : aSt) : Option (Int32 × aSt) := (aB (f_X7_in s2 s1 (s0 - (1 : Int32)) S) (fun r1_ S1 => (if r1_ = 0 then (some ((-1 : Int32), S1)) else (if l1 < 0 ∨ 20 ≤ (l1).toNatClampNeg then none else (some ((S1.1 (8) (l1).toNatClampNeg), S1))))))
set_option maxRecDepth 20000 in
set_option maxHeartbeats 4000000 in
theorem v_X7_trace_20 {G : aG} (hM : aMo G) (l1 : Int32) (s0 : Int32) (s1 : Int32) (s2 : Int32) (S : aSt) : aX G yX7_trace cX7_trace 2 (some .int) uX7_trace 3 mk_i (f_X7_trace_20 l1 s0 s1 s2 S) 20 [some (.ref (0)), some (.int l1)] [.int s0, .int s1, .int s2] S := by
  unfold f_X7_trace_20
  refine x_iconst (1 : Int32) dX7_trace_20 (by decide) ?_
  refine x_isub dX7_trace_21 ?_
  refine x_b (fun r1_ S1 e1 => ?_)
  refine x_callSi (As := [.int s2, .int s1, .int (s0 - (1 : Int32))]) dX7_trace_22 (aMet_of e1 (m_X7_in s2 s1 (s0 - (1 : Int32)) S)) g_X7_trace_41 rfl dd_X7_in rfl rfl (Nat.le_of_ble_eq_true rfl) (Nat.le_of_ble_eq_true rfl) (Nat.le_of_ble_eq_true rfl) ?_
  refine x_if_eq (tgt := 37) dX7_trace_25 (by decide) ?_ ?_
  · refine x_iconst (-1 : Int32) dX7_trace_37 (by decide) ?_
    exact x_iret dX7_trace_38 rfl
  · refine x_aload_n dX7_trace_28 rfl rfl ?_
    refine x_getR (r := 8) (k := 0) (j := 26) dX7_trace_29 hM.1 rfl rfl (Nat.le_of_ble_eq_true rfl) (fun w h => List.mem_cons_of_mem _ (inlX7 w h)) w_X7_trace_f34 ?_
    refine x_iload_n dX7_trace_32 rfl rfl ?_
    refine x_iald dX7_trace_33 hM.2.2.2.2.2.2.2.2 ?_
    refine x_goto (tgt := 38) dX7_trace_34 (by decide) ?_
    exact x_iret dX7_trace_38 rfl
def f_X7_trace (p1 : Int32) (S : aSt) : Option (Int32 × aSt) := (if (20 : Int32) ≤ (S.1 (0) 27) then (f_X7_trace_20 p1 (20 : Int32) (0 : Int32) p1 S) else (f_X7_trace_20 p1 (S.1 (0) 27) (0 : Int32) p1 S))
set_option maxRecDepth 20000 in
set_option maxHeartbeats 4000000 in
theorem m_X7_trace {G : aG} (hM : aMo G) (p1 : Int32) (S : aSt) : aMet G yX7_trace uX7_trace 3 mk_i (f_X7_trace p1 S) [.ref (0), .int p1] S := by
  refine x_met (cc := cX7_trace) (nL := 2) (ret := (some .int)) (L := [some (.ref (0)), some (.int p1)]) (by decide +kernel) rfl (And.intro rfl (And.intro rfl trivial)) (Nat.le_of_ble_eq_true rfl) ?_
  unfold f_X7_trace
  refine x_iload_n dX7_trace_0 rfl rfl ?_
  refine x_iconst (0 : Int32) dX7_trace_1 (by decide) ?_
  refine x_aload_n dX7_trace_2 rfl rfl ?_
  refine x_getI (k := 0) (j := 27) dX7_trace_3 hM.1 rfl rfl (Nat.le_of_ble_eq_true rfl) (fun w h => List.mem_cons_of_mem _ (inlX7 w h)) w_X7_trace_f240 ?_
  refine x_bipush (20 : Int32) dX7_trace_6 (by decide) ?_
  refine x_icmp_ge (tgt := 18) dX7_trace_8 (by decide) ?_ ?_
  · refine x_bipush (20 : Int32) dX7_trace_18 (by decide) ?_
    exact x_le (v_X7_trace_20 hM p1 (20 : Int32) (0 : Int32) p1 S) (And.intro rfl (And.intro rfl trivial))
  · refine x_aload_n dX7_trace_11 rfl rfl ?_
    refine x_getI (k := 0) (j := 27) dX7_trace_12 hM.1 rfl rfl (Nat.le_of_ble_eq_true rfl) (fun w h => List.mem_cons_of_mem _ (inlX7 w h)) w_X7_trace_f240 ?_
    refine x_goto (tgt := 20) dX7_trace_15 (by decide) ?_
    exact x_le (v_X7_trace_20 hM p1 (S.1 (0) 27) (0 : Int32) p1 S) (And.intro rfl (And.intro rfl trivial))
theorem g_X7_as_138 : GoodIn uX7_as (wsV yX7_as.cls 138 RX7 yX7_isTree uX7_isTree) := gU_V (wU_r19 _ (List.mem_of_getElem? (i := 1) rfl)) (wU_r19 _ (List.mem_of_getElem? (i := 2) rfl)) (wU_r19 _ (List.mem_of_getElem? (i := 3) rfl)) (wU_r1 _ (List.mem_of_getElem? (i := 5) rfl)) (wU_r19 _ (List.mem_of_getElem? (i := 4) rfl))
theorem g_X7_as_41 : GoodIn uX7_as (va_wsS yX7_as.cls 41 yX7_in uX7_in) := gU_S (wU_r6 _ (List.mem_of_getElem? (i := 4) rfl)) (wU_r6 _ (List.mem_of_getElem? (i := 5) rfl)) (wU_r1 _ (List.mem_of_getElem? (i := 5) rfl)) (wU_r6 _ (List.mem_of_getElem? (i := 6) rfl))
theorem w_X7_as_f9 : Cond.fieldLink yX7_as.cls 9 (TX7 1).1 (TX7 1).2.1 (TX7 1).2.2.1 ∈ uX7_as := List.mem_cons_of_mem _ (wU_r4 _ (List.mem_of_getElem? (i := 14) rfl))
theorem g_X7_as_252 : GoodIn uX7_as (va_wsS yX7_as.cls 252 yX7_isUnder uX7_isUnder) := gU_S (wU_r37 _ (List.mem_of_getElem? (i := 6) rfl)) (wU_r37 _ (List.mem_of_getElem? (i := 7) rfl)) (wU_r1 _ (List.mem_of_getElem? (i := 5) rfl)) (wU_r37 _ (List.mem_of_getElem? (i := 8) rfl))
def f_X7_as (p1 : Int32) (p2 : Int32) (S : aSt) : Option (Int32 × aSt) := (aB (f_X7_isTree p1 S) (fun r1_ S1 => (if r1_ = 0 then (some ((-1 : Int32), S1)) else (aB (f_X7_in p2 (0 : Int32) (6 : Int32) S1) (fun r2_ S2 => (if r2_ = 0 then (some ((-1 : Int32), S2)) else (if ((110 : Int32) + p1) < 0 ∨ 979 ≤ (((110 : Int32) + p1)).toNatClampNeg then none else (aB (f_X7_isUnder (S2.1 (1) (((110 : Int32) + p1)).toNatClampNeg) p2 S2) (fun r3_ S3 => (if r3_ = 0 then (some ((-6 : Int32), S3)) else (if ((116 : Int32) + p1) < 0 ∨ 979 ≤ (((116 : Int32) + p1)).toNatClampNeg then none else (some ((S3.1 (1) (((116 : Int32) + p1)).toNatClampNeg), S3)))))))))))))
set_option maxRecDepth 20000 in
set_option maxHeartbeats 4000000 in
theorem m_X7_as {G : aG} (hM : aMo G) (p1 : Int32) (p2 : Int32) (S : aSt) : aMet G yX7_as uX7_as 4 mk_i (f_X7_as p1 p2 S) [.ref (0), .int p1, .int p2] S := by
  refine x_met (cc := cX7_as) (nL := 3) (ret := (some .int)) (L := [some (.ref (0)), some (.int p1), some (.int p2)]) (by decide +kernel) rfl (And.intro rfl (And.intro rfl (And.intro rfl trivial))) (Nat.le_of_ble_eq_true rfl) ?_
  unfold f_X7_as
  refine x_aload_n dX7_as_0 rfl rfl ?_
  refine x_iload_n dX7_as_1 rfl rfl ?_
  refine x_b (fun r1_ S1 e1 => ?_)
  refine x_callVi (As := [.int p1]) dX7_as_2 (aMet_of e1 (m_X7_isTree hM p1 S)) g_X7_as_138 rfl hM.1 rfl dd_X7_isTree rfl rfl (Nat.le_of_ble_eq_true rfl) (Nat.le_of_ble_eq_true rfl) (Nat.le_of_ble_eq_true rfl) ?_
  refine x_if_eq (tgt := 18) dX7_as_5 (by decide) ?_ ?_
  · refine x_iconst (-1 : Int32) dX7_as_18 (by decide) ?_
    exact x_iret dX7_as_19 rfl
  · refine x_iload_n dX7_as_8 rfl rfl ?_
    refine x_iconst (0 : Int32) dX7_as_9 (by decide) ?_
    refine x_bipush (6 : Int32) dX7_as_10 (by decide) ?_
    refine x_b (fun r2_ S2 e2 => ?_)
    refine x_callSi (As := [.int p2, .int (0 : Int32), .int (6 : Int32)]) dX7_as_12 (aMet_of e2 (m_X7_in p2 (0 : Int32) (6 : Int32) S1)) g_X7_as_41 rfl dd_X7_in rfl rfl (Nat.le_of_ble_eq_true rfl) (Nat.le_of_ble_eq_true rfl) (Nat.le_of_ble_eq_true rfl) ?_
    refine x_if_ne (tgt := 20) dX7_as_15 (by decide) ?_ ?_
    · refine x_aload_n dX7_as_20 rfl rfl ?_
      refine x_getR (r := 1) (k := 0) (j := 1) dX7_as_21 hM.1 rfl rfl (Nat.le_of_ble_eq_true rfl) (fun w h => List.mem_cons_of_mem _ (inlX7 w h)) w_X7_as_f9 ?_
      refine x_bipush (110 : Int32) dX7_as_24 (by decide) ?_
      refine x_iload_n dX7_as_26 rfl rfl ?_
      refine x_iadd dX7_as_27 ?_
      refine x_iald dX7_as_28 hM.2.1 ?_
      refine x_iload_n dX7_as_29 rfl rfl ?_
      refine x_b (fun r3_ S3 e3 => ?_)
      refine x_callSi (As := [.int (S2.1 (1) (((110 : Int32) + p1)).toNatClampNeg), .int p2]) dX7_as_30 (aMet_of e3 (m_X7_isUnder (S2.1 (1) (((110 : Int32) + p1)).toNatClampNeg) p2 S2)) g_X7_as_252 rfl dd_X7_isUnder rfl rfl (Nat.le_of_ble_eq_true rfl) (Nat.le_of_ble_eq_true rfl) (Nat.le_of_ble_eq_true rfl) ?_
      refine x_if_eq (tgt := 48) dX7_as_33 (by decide) ?_ ?_
      · refine x_bipush (-6 : Int32) dX7_as_48 (by decide) ?_
        exact x_iret dX7_as_50 rfl
      · refine x_aload_n dX7_as_36 rfl rfl ?_
        refine x_getR (r := 1) (k := 0) (j := 1) dX7_as_37 hM.1 rfl rfl (Nat.le_of_ble_eq_true rfl) (fun w h => List.mem_cons_of_mem _ (inlX7 w h)) w_X7_as_f9 ?_
        refine x_bipush (116 : Int32) dX7_as_40 (by decide) ?_
        refine x_iload_n dX7_as_42 rfl rfl ?_
        refine x_iadd dX7_as_43 ?_
        refine x_iald dX7_as_44 hM.2.1 ?_
        refine x_goto (tgt := 50) dX7_as_45 (by decide) ?_
        exact x_iret dX7_as_50 rfl
    · refine x_iconst (-1 : Int32) dX7_as_18 (by decide) ?_
      exact x_iret dX7_as_19 rfl
theorem w_X7_image_f276 : Cond.fieldLink yX7_image.cls 276 (TX7 3).1 (TX7 3).2.1 (TX7 3).2.2.1 ∈ uX7_image := List.mem_cons_of_mem _ (wU_r40 _ (List.mem_of_getElem? (i := 1) rfl))
theorem w_X7_image_f9 : Cond.fieldLink yX7_image.cls 9 (TX7 1).1 (TX7 1).2.1 (TX7 1).2.2.1 ∈ uX7_image := List.mem_cons_of_mem _ (wU_r4 _ (List.mem_of_getElem? (i := 14) rfl))
theorem w_X7_image_f15 : Cond.fieldLink yX7_image.cls 15 (TX7 2).1 (TX7 2).2.1 (TX7 2).2.2.1 ∈ uX7_image := List.mem_cons_of_mem _ (wU_r4 _ (List.mem_of_getElem? (i := 15) rfl))
def f_X7_image_2  : Nat → Int32 → aSt → Option (Int32 × aSt)
  | 0, _, _ => none
  | n + 1, l1, S => (if (979 : Int32) ≤ l1 then (aLt (aUi S (0) 3 (1 : Int32)) (fun S1 => (some ((S1.1 (1) 0), S1)))) else (if l1 < 0 ∨ 979 ≤ (l1).toNatClampNeg then none else (if l1 < 0 ∨ 979 ≤ (l1).toNatClampNeg then none else (aLt (aUi S (2) (l1).toNatClampNeg (S.1 (1) (l1).toNatClampNeg)) (fun S2 => (aLt (l1 + (1 : Int32)) (fun x3 => (f_X7_image_2 n x3 S2))))))))
set_option maxRecDepth 20000 in
set_option maxHeartbeats 4000000 in
theorem v_X7_image_2 {G : aG} (hM : aMo G) : ∀ (n : Nat) (l1 : Int32) (S : aSt), aX G yX7_image cX7_image 2 (some .int) uX7_image 2 mk_i (f_X7_image_2 n l1 S) 2 [some (.ref (0)), some (.int l1)] [] S := by
  intro n
  induction n with
  | zero => intro l1 S; exact x_none
  | succ n ih =>
    intro l1 S
    unfold f_X7_image_2
    refine x_iload_n dX7_image_2 rfl rfl ?_
    refine x_sipush (979 : Int32) dX7_image_3 (by decide) ?_
    refine x_icmp_ge (tgt := 27) dX7_image_6 (by decide) ?_ ?_
    · refine x_aload_n dX7_image_27 rfl rfl ?_
      refine x_iconst (1 : Int32) dX7_image_28 (by decide) ?_
      refine x_putZc (k := 0) (j := 3) dX7_image_29 hM.1 rfl rfl (Nat.le_of_ble_eq_true rfl) (fun w h => List.mem_cons_of_mem _ (inlX7 w h)) w_X7_image_f276 tyX7 tyX7_ok nmX7 rfl (by decide +kernel) (by decide) ?_
      refine x_ltS (fun S1 => ?_)
      refine x_aload_n dX7_image_32 rfl rfl ?_
      refine x_getR (r := 1) (k := 0) (j := 1) dX7_image_33 hM.1 rfl rfl (Nat.le_of_ble_eq_true rfl) (fun w h => List.mem_cons_of_mem _ (inlX7 w h)) w_X7_image_f9 ?_
      refine x_iconst (0 : Int32) dX7_image_36 (by decide) ?_
      refine x_ialdc (j := 0) dX7_image_37 hM.2.1 (by unfold vp_in; decide) (by decide) ?_
      exact x_iret dX7_image_38 rfl
    · refine x_aload_n dX7_image_9 rfl rfl ?_
      refine x_getR (r := 2) (k := 0) (j := 2) dX7_image_10 hM.1 rfl rfl (Nat.le_of_ble_eq_true rfl) (fun w h => List.mem_cons_of_mem _ (inlX7 w h)) w_X7_image_f15 ?_
      refine x_iload_n dX7_image_13 rfl rfl ?_
      refine x_aload_n dX7_image_14 rfl rfl ?_
      refine x_getR (r := 1) (k := 0) (j := 1) dX7_image_15 hM.1 rfl rfl (Nat.le_of_ble_eq_true rfl) (fun w h => List.mem_cons_of_mem _ (inlX7 w h)) w_X7_image_f9 ?_
      refine x_iload_n dX7_image_18 rfl rfl ?_
      refine x_iald dX7_image_19 hM.2.1 ?_
      refine x_iast dX7_image_20 hM.2.2.1 ?_
      refine x_ltS (fun S2 => ?_)
      refine x_iincL (w := (1 : Int32)) dX7_image_21 rfl (by decide) (Nat.le_of_ble_eq_true rfl) rfl (fun x3 => ?_)
      refine x_goto (tgt := 2) dX7_image_24 (by decide) ?_
      exact x_le (ih x3 S2) (And.intro rfl (And.intro rfl trivial))
def f_X7_image  (S : aSt) : Option (Int32 × aSt) := (f_X7_image_2 aF (0 : Int32) S)
set_option maxRecDepth 20000 in
set_option maxHeartbeats 4000000 in
theorem m_X7_image {G : aG} (hM : aMo G)  (S : aSt) : aMet G yX7_image uX7_image 2 mk_i (f_X7_image S) [.ref (0)] S := by
  refine x_met (cc := cX7_image) (nL := 2) (ret := (some .int)) (L := [some (.ref (0)), none]) (by decide +kernel) rfl (And.intro rfl trivial) (Nat.le_of_ble_eq_true rfl) ?_
  unfold f_X7_image
  refine x_iconst (0 : Int32) dX7_image_0 (by decide) ?_
  refine x_istore_n dX7_image_1 rfl (Nat.le_of_ble_eq_true rfl) rfl ?_
  exact x_le (v_X7_image_2 hM aF (0 : Int32) S) (And.intro rfl (And.intro rfl trivial))
theorem w_X7_undo_f276 : Cond.fieldLink yX7_undo.cls 276 (TX7 3).1 (TX7 3).2.1 (TX7 3).2.2.1 ∈ uX7_undo := List.mem_cons_of_mem _ (wU_r40 _ (List.mem_of_getElem? (i := 1) rfl))
theorem w_X7_undo_f9 : Cond.fieldLink yX7_undo.cls 9 (TX7 1).1 (TX7 1).2.1 (TX7 1).2.2.1 ∈ uX7_undo := List.mem_cons_of_mem _ (wU_r4 _ (List.mem_of_getElem? (i := 14) rfl))
theorem w_X7_undo_f15 : Cond.fieldLink yX7_undo.cls 15 (TX7 2).1 (TX7 2).2.1 (TX7 2).2.2.1 ∈ uX7_undo := List.mem_cons_of_mem _ (wU_r4 _ (List.mem_of_getElem? (i := 15) rfl))
def f_X7_undo_12  : Nat → Int32 → aSt → Option (Int32 × aSt)
  | 0, _, _ => none
  | n + 1, l1, S => (if (979 : Int32) ≤ l1 then (some ((S.1 (1) 0), S)) else (if l1 < 0 ∨ 979 ≤ (l1).toNatClampNeg then none else (if l1 < 0 ∨ 979 ≤ (l1).toNatClampNeg then none else (aLt (aUi S (1) (l1).toNatClampNeg (S.1 (2) (l1).toNatClampNeg)) (fun S1 => (aLt (l1 + (1 : Int32)) (fun x2 => (f_X7_undo_12 n x2 S1))))))))
set_option maxRecDepth 20000 in
set_option maxHeartbeats 4000000 in
theorem v_X7_undo_12 {G : aG} (hM : aMo G) : ∀ (n : Nat) (l1 : Int32) (S : aSt), aX G yX7_undo cX7_undo 2 (some .int) uX7_undo 2 mk_i (f_X7_undo_12 n l1 S) 12 [some (.ref (0)), some (.int l1)] [] S := by
  intro n
  induction n with
  | zero => intro l1 S; exact x_none
  | succ n ih =>
    intro l1 S
    unfold f_X7_undo_12
    refine x_iload_n dX7_undo_12 rfl rfl ?_
    refine x_sipush (979 : Int32) dX7_undo_13 (by decide) ?_
    refine x_icmp_ge (tgt := 37) dX7_undo_16 (by decide) ?_ ?_
    · refine x_aload_n dX7_undo_37 rfl rfl ?_
      refine x_getR (r := 1) (k := 0) (j := 1) dX7_undo_38 hM.1 rfl rfl (Nat.le_of_ble_eq_true rfl) (fun w h => List.mem_cons_of_mem _ (inlX7 w h)) w_X7_undo_f9 ?_
      refine x_iconst (0 : Int32) dX7_undo_41 (by decide) ?_
      refine x_ialdc (j := 0) dX7_undo_42 hM.2.1 (by unfold vp_in; decide) (by decide) ?_
      exact x_iret dX7_undo_43 rfl
    · refine x_aload_n dX7_undo_19 rfl rfl ?_
      refine x_getR (r := 1) (k := 0) (j := 1) dX7_undo_20 hM.1 rfl rfl (Nat.le_of_ble_eq_true rfl) (fun w h => List.mem_cons_of_mem _ (inlX7 w h)) w_X7_undo_f9 ?_
      refine x_iload_n dX7_undo_23 rfl rfl ?_
      refine x_aload_n dX7_undo_24 rfl rfl ?_
      refine x_getR (r := 2) (k := 0) (j := 2) dX7_undo_25 hM.1 rfl rfl (Nat.le_of_ble_eq_true rfl) (fun w h => List.mem_cons_of_mem _ (inlX7 w h)) w_X7_undo_f15 ?_
      refine x_iload_n dX7_undo_28 rfl rfl ?_
      refine x_iald dX7_undo_29 hM.2.2.1 ?_
      refine x_iast dX7_undo_30 hM.2.1 ?_
      refine x_ltS (fun S1 => ?_)
      refine x_iincL (w := (1 : Int32)) dX7_undo_31 rfl (by decide) (Nat.le_of_ble_eq_true rfl) rfl (fun x2 => ?_)
      refine x_goto (tgt := 12) dX7_undo_34 (by decide) ?_
      exact x_le (ih x2 S1) (And.intro rfl (And.intro rfl trivial))
def f_X7_undo  (S : aSt) : Option (Int32 × aSt) := (if (S.1 (0) 3) = 0 then (some ((-3 : Int32), S)) else (f_X7_undo_12 aF (0 : Int32) S))
set_option maxRecDepth 20000 in
set_option maxHeartbeats 4000000 in
theorem m_X7_undo {G : aG} (hM : aMo G)  (S : aSt) : aMet G yX7_undo uX7_undo 2 mk_i (f_X7_undo S) [.ref (0)] S := by
  refine x_met (cc := cX7_undo) (nL := 2) (ret := (some .int)) (L := [some (.ref (0)), none]) (by decide +kernel) rfl (And.intro rfl trivial) (Nat.le_of_ble_eq_true rfl) ?_
  unfold f_X7_undo
  refine x_aload_n dX7_undo_0 rfl rfl ?_
  refine x_getI (k := 0) (j := 3) dX7_undo_1 hM.1 rfl rfl (Nat.le_of_ble_eq_true rfl) (fun w h => List.mem_cons_of_mem _ (inlX7 w h)) w_X7_undo_f276 ?_
  refine x_if_ne (tgt := 10) dX7_undo_4 (by decide) ?_ ?_
  · refine x_iconst (0 : Int32) dX7_undo_10 (by decide) ?_
    refine x_istore_n dX7_undo_11 rfl (Nat.le_of_ble_eq_true rfl) rfl ?_
    exact x_le (v_X7_undo_12 hM aF (0 : Int32) S) (And.intro rfl (And.intro rfl trivial))
  · refine x_bipush (-3 : Int32) dX7_undo_7 (by decide) ?_
    exact x_iret dX7_undo_9 rfl
theorem g_X7_count_237 : GoodIn uX7_count (wsV yX7_count.cls 237 RX7 yX7_standingMany uX7_standingMany) := gU_V (wU_r33 _ (List.mem_of_getElem? (i := 3) rfl)) (wU_r33 _ (List.mem_of_getElem? (i := 4) rfl)) (wU_r33 _ (List.mem_of_getElem? (i := 5) rfl)) (wU_r1 _ (List.mem_of_getElem? (i := 5) rfl)) (wU_r33 _ (List.mem_of_getElem? (i := 6) rfl))
theorem w_X7_count_f240 : Cond.fieldLink yX7_count.cls 240 (TX7 27).1 (TX7 27).2.1 (TX7 27).2.2.1 ∈ uX7_count := List.mem_cons_of_mem _ (wU_r36 _ (List.mem_of_getElem? (i := 22) rfl))
theorem w_X7_count_f9 : Cond.fieldLink yX7_count.cls 9 (TX7 1).1 (TX7 1).2.1 (TX7 1).2.2.1 ∈ uX7_count := List.mem_cons_of_mem _ (wU_r4 _ (List.mem_of_getElem? (i := 14) rfl))
def f_X7_count (p1 : Int32) (S : aSt) : Option (Int32 × aSt) := (if p1 = (0 : Int32) then (some ((S.1 (1) 0), S)) else (if p1 = (1 : Int32) then (some ((S.1 (1) 1), S)) else (if p1 = (2 : Int32) then (some ((S.1 (1) 2), S)) else (if p1 = (3 : Int32) then (some ((S.1 (1) 3), S)) else (if p1 = (4 : Int32) then (some ((S.1 (0) 27), S)) else (if p1 = (5 : Int32) then (aB (f_X7_standingMany S) (fun r1_ S1 => (some (r1_, S1)))) else (some ((-1 : Int32), S))))))))
set_option maxRecDepth 20000 in
set_option maxHeartbeats 4000000 in
theorem m_X7_count {G : aG} (hM : aMo G) (p1 : Int32) (S : aSt) : aMet G yX7_count uX7_count 3 mk_i (f_X7_count p1 S) [.ref (0), .int p1] S := by
  refine x_met (cc := cX7_count) (nL := 2) (ret := (some .int)) (L := [some (.ref (0)), some (.int p1)]) (by decide +kernel) rfl (And.intro rfl (And.intro rfl trivial)) (Nat.le_of_ble_eq_true rfl) ?_
  unfold f_X7_count
  refine x_iload_n dX7_count_0 rfl rfl ?_
  refine x_sw (0 : Int32) ?_ (fun hv0 => ?_)
  · refine x_tabIn (off := 39) (tgt := 40) dX7_count_1 (by decide) (by decide) (by decide) (by decide) ?_
    refine x_aload_n dX7_count_40 rfl rfl ?_
    refine x_getR (r := 1) (k := 0) (j := 1) dX7_count_41 hM.1 rfl rfl (Nat.le_of_ble_eq_true rfl) (fun w h => List.mem_cons_of_mem _ (inlX7 w h)) w_X7_count_f9 ?_
    refine x_iconst (0 : Int32) dX7_count_44 (by decide) ?_
    refine x_ialdc (j := 0) dX7_count_45 hM.2.1 (by unfold vp_in; decide) (by decide) ?_
    exact x_iret dX7_count_46 rfl
  · refine x_sw (1 : Int32) ?_ (fun hv1 => ?_)
    · refine x_tabIn (off := 46) (tgt := 47) dX7_count_1 (by decide) (by decide) (by decide) (by decide) ?_
      refine x_aload_n dX7_count_47 rfl rfl ?_
      refine x_getR (r := 1) (k := 0) (j := 1) dX7_count_48 hM.1 rfl rfl (Nat.le_of_ble_eq_true rfl) (fun w h => List.mem_cons_of_mem _ (inlX7 w h)) w_X7_count_f9 ?_
      refine x_iconst (1 : Int32) dX7_count_51 (by decide) ?_
      refine x_ialdc (j := 1) dX7_count_52 hM.2.1 (by unfold vp_in; decide) (by decide) ?_
      exact x_iret dX7_count_53 rfl
    · refine x_sw (2 : Int32) ?_ (fun hv2 => ?_)
      · refine x_tabIn (off := 53) (tgt := 54) dX7_count_1 (by decide) (by decide) (by decide) (by decide) ?_
        refine x_aload_n dX7_count_54 rfl rfl ?_
        refine x_getR (r := 1) (k := 0) (j := 1) dX7_count_55 hM.1 rfl rfl (Nat.le_of_ble_eq_true rfl) (fun w h => List.mem_cons_of_mem _ (inlX7 w h)) w_X7_count_f9 ?_
        refine x_iconst (2 : Int32) dX7_count_58 (by decide) ?_
        refine x_ialdc (j := 2) dX7_count_59 hM.2.1 (by unfold vp_in; decide) (by decide) ?_
        exact x_iret dX7_count_60 rfl
      · refine x_sw (3 : Int32) ?_ (fun hv3 => ?_)
        · refine x_tabIn (off := 60) (tgt := 61) dX7_count_1 (by decide) (by decide) (by decide) (by decide) ?_
          refine x_aload_n dX7_count_61 rfl rfl ?_
          refine x_getR (r := 1) (k := 0) (j := 1) dX7_count_62 hM.1 rfl rfl (Nat.le_of_ble_eq_true rfl) (fun w h => List.mem_cons_of_mem _ (inlX7 w h)) w_X7_count_f9 ?_
          refine x_iconst (3 : Int32) dX7_count_65 (by decide) ?_
          refine x_ialdc (j := 3) dX7_count_66 hM.2.1 (by unfold vp_in; decide) (by decide) ?_
          exact x_iret dX7_count_67 rfl
        · refine x_sw (4 : Int32) ?_ (fun hv4 => ?_)
          · refine x_tabIn (off := 67) (tgt := 68) dX7_count_1 (by decide) (by decide) (by decide) (by decide) ?_
            refine x_aload_n dX7_count_68 rfl rfl ?_
            refine x_getI (k := 0) (j := 27) dX7_count_69 hM.1 rfl rfl (Nat.le_of_ble_eq_true rfl) (fun w h => List.mem_cons_of_mem _ (inlX7 w h)) w_X7_count_f240 ?_
            exact x_iret dX7_count_72 rfl
          · refine x_sw (5 : Int32) ?_ (fun hv5 => ?_)
            · refine x_tabIn (off := 72) (tgt := 73) dX7_count_1 (by decide) (by decide) (by decide) (by decide) ?_
              refine x_aload_n dX7_count_73 rfl rfl ?_
              refine x_b (fun r1_ S1 e1 => ?_)
              refine x_callVi (As := []) dX7_count_74 (aMet_of e1 (m_X7_standingMany hM S)) g_X7_count_237 rfl hM.1 rfl dd_X7_standingMany rfl rfl (Nat.le_of_ble_eq_true rfl) (Nat.le_of_ble_eq_true rfl) (Nat.le_of_ble_eq_true rfl) ?_
              exact x_iret dX7_count_77 rfl
            · refine x_tabOut (tgt := 78) dX7_count_1 (a_out 6 [(0 : Int32), (1 : Int32), (2 : Int32), (3 : Int32), (4 : Int32), (5 : Int32)] (by decide) (by decide +kernel) (List.forall_mem_cons.mpr ⟨hv0, (List.forall_mem_cons.mpr ⟨hv1, (List.forall_mem_cons.mpr ⟨hv2, (List.forall_mem_cons.mpr ⟨hv3, (List.forall_mem_cons.mpr ⟨hv4, (List.forall_mem_cons.mpr ⟨hv5, (fun _ h => absurd h List.not_mem_nil)⟩)⟩)⟩)⟩)⟩)⟩)) (by decide) ?_
              refine x_iconst (-1 : Int32) dX7_count_78 (by decide) ?_
              exact x_iret dX7_count_79 rfl

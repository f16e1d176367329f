/-! written by program: what the bytecode does, and the walk -/
theorem g_X7_next_41 : GoodIn uX7_next (va_wsS yX7_next.cls 41 yX7_in uX7_in) := gU_S (wU_r6 _ (List.mem_of_getElem? (i := 4) rfl)) (wU_r6 _ (List.mem_of_getElem? (i := 5) rfl)) (wU_r1 _ (List.mem_of_getElem? (i := 5) rfl)) (wU_r6 _ (List.mem_of_getElem? (i := 6) rfl))
def f_X7_next_64  (l2 : Int32) (s0 : Int32) (s1 : Int32) (S : aSt) : Option (Int32 × aSt) := (aLt (s1 + s0) (fun x3 => (aB (f_X7_in l2 (0 : Int32) (7 : Int32) S) (fun r4_ S4 => (if r4_ = 0 then (some ((-1 : Int32), S4)) else (aB (f_X7_in x3 (0 : Int32) (7 : Int32) S4) (fun r5_ S5 => (if r5_ = 0 then (some ((-1 : Int32), S5)) else (some ((((8 : Int32) * l2) + x3), S5))))))))))
set_option maxRecDepth 20000 in
set_option maxHeartbeats 4000000 in
theorem v_X7_next_64 {G : aG} (l2 : Int32) (s0 : Int32) (s1 : Int32) (S : aSt) : aX G yX7_next cX7_next 4 (some .int) uX7_next 3 mk_i (f_X7_next_64 l2 s0 s1 S) 64 [none, none, some (.int l2), none] [.int s0, .int s1] S := by
  unfold f_X7_next_64
  refine x_iadd dX7_next_64 ?_
  refine x_lti (fun x3 => ?_)
  refine x_istore_n dX7_next_65 rfl (Nat.le_of_ble_eq_true rfl) rfl ?_
  refine x_iload_n dX7_next_66 rfl rfl ?_
  refine x_iconst (0 : Int32) dX7_next_67 (by decide) ?_
  refine x_bipush (7 : Int32) dX7_next_68 (by decide) ?_
  refine x_b (fun r4_ S4 e4 => ?_)
  refine x_callSi (As := [.int l2, .int (0 : Int32), .int (7 : Int32)]) dX7_next_70 (aMet_of e4 (m_X7_in l2 (0 : Int32) (7 : Int32) S)) g_X7_next_41 rfl dd_X7_in rfl rfl (Nat.le_of_ble_eq_true rfl) (Nat.le_of_ble_eq_true rfl) (Nat.le_of_ble_eq_true rfl) ?_
  refine x_if_eq (tgt := 95) dX7_next_73 (by decide) ?_ ?_
  · refine x_iconst (-1 : Int32) dX7_next_95 (by decide) ?_
    exact x_iret dX7_next_96 rfl
  · refine x_iload_n dX7_next_76 rfl rfl ?_
    refine x_iconst (0 : Int32) dX7_next_77 (by decide) ?_
    refine x_bipush (7 : Int32) dX7_next_78 (by decide) ?_
    refine x_b (fun r5_ S5 e5 => ?_)
    refine x_callSi (As := [.int x3, .int (0 : Int32), .int (7 : Int32)]) dX7_next_80 (aMet_of e5 (m_X7_in x3 (0 : Int32) (7 : Int32) S4)) g_X7_next_41 rfl dd_X7_in rfl rfl (Nat.le_of_ble_eq_true rfl) (Nat.le_of_ble_eq_true rfl) (Nat.le_of_ble_eq_true rfl) ?_
    refine x_if_eq (tgt := 95) dX7_next_83 (by decide) ?_ ?_
    · refine x_iconst (-1 : Int32) dX7_next_95 (by decide) ?_
      exact x_iret dX7_next_96 rfl
    · refine x_bipush (8 : Int32) dX7_next_86 (by decide) ?_
      refine x_iload_n dX7_next_88 rfl rfl ?_
      refine x_imul dX7_next_89 ?_
      refine x_iload_n dX7_next_90 rfl rfl ?_
      refine x_iadd dX7_next_91 ?_
      refine x_goto (tgt := 96) dX7_next_92 (by decide) ?_
      exact x_iret dX7_next_96 rfl
def f_X7_next_35  (l0 : Int32) (l1 : Int32) (s0 : Int32) (s1 : Int32) (S : aSt) : Option (Int32 × aSt) := (aLt (s1 + s0) (fun x1 => (aB (f_X7_in l1 (1 : Int32) (3 : Int32) S) (fun r2_ S2 => (if r2_ = 0 then (if l1 ≤ (4 : Int32) then (f_X7_next_64 x1 (0 : Int32) (l0 - l0 / (8 : Int32) * (8 : Int32)) S2) else (f_X7_next_64 x1 (-1 : Int32) (l0 - l0 / (8 : Int32) * (8 : Int32)) S2)) else (f_X7_next_64 x1 (1 : Int32) (l0 - l0 / (8 : Int32) * (8 : Int32)) S2))))))
set_option maxRecDepth 20000 in
set_option maxHeartbeats 4000000 in
theorem v_X7_next_35 {G : aG} (l0 : Int32) (l1 : Int32) (s0 : Int32) (s1 : Int32) (S : aSt) : aX G yX7_next cX7_next 4 (some .int) uX7_next 3 mk_i (f_X7_next_35 l0 l1 s0 s1 S) 35 [some (.int l0), some (.int l1), none, none] [.int s0, .int s1] S := by
  unfold f_X7_next_35
  refine x_iadd dX7_next_35 ?_
  refine x_lti (fun x1 => ?_)
  refine x_istore_n dX7_next_36 rfl (Nat.le_of_ble_eq_true rfl) rfl ?_
  refine x_iload_n dX7_next_37 rfl rfl ?_
  refine x_bipush (8 : Int32) dX7_next_38 (by decide) ?_
  refine x_iremc dX7_next_40 (by decide) ?_
  refine x_iload_n dX7_next_41 rfl rfl ?_
  refine x_iconst (1 : Int32) dX7_next_42 (by decide) ?_
  refine x_iconst (3 : Int32) dX7_next_43 (by decide) ?_
  refine x_b (fun r2_ S2 e2 => ?_)
  refine x_callSi (As := [.int l1, .int (1 : Int32), .int (3 : Int32)]) dX7_next_44 (aMet_of e2 (m_X7_in l1 (1 : Int32) (3 : Int32) S)) g_X7_next_41 rfl dd_X7_in rfl rfl (Nat.le_of_ble_eq_true rfl) (Nat.le_of_ble_eq_true rfl) (Nat.le_of_ble_eq_true rfl) ?_
  refine x_if_eq (tgt := 54) dX7_next_47 (by decide) ?_ ?_
  · refine x_iload_n dX7_next_54 rfl rfl ?_
    refine x_iconst (4 : Int32) dX7_next_55 (by decide) ?_
    refine x_icmp_le (tgt := 63) dX7_next_56 (by decide) ?_ ?_
    · refine x_iconst (0 : Int32) dX7_next_63 (by decide) ?_
      exact x_le (v_X7_next_64 x1 (0 : Int32) (l0 - l0 / (8 : Int32) * (8 : Int32)) S2) (And.intro rfl trivial)
    · refine x_iconst (-1 : Int32) dX7_next_59 (by decide) ?_
      refine x_goto (tgt := 64) dX7_next_60 (by decide) ?_
      exact x_le (v_X7_next_64 x1 (-1 : Int32) (l0 - l0 / (8 : Int32) * (8 : Int32)) S2) (And.intro rfl trivial)
  · refine x_iconst (1 : Int32) dX7_next_50 (by decide) ?_
    refine x_goto (tgt := 64) dX7_next_51 (by decide) ?_
    exact x_le (v_X7_next_64 x1 (1 : Int32) (l0 - l0 / (8 : Int32) * (8 : Int32)) S2) (And.intro rfl trivial)
def f_X7_next_34  (l0 : Int32) (l1 : Int32) (s0 : Int32) (S : aSt) : Option (Int32 × aSt) := (f_X7_next_35 l0 l1 (0 : Int32) s0 S)
set_option maxRecDepth 20000 in
set_option maxHeartbeats 4000000 in
theorem v_X7_next_34 {G : aG} (l0 : Int32) (l1 : Int32) (s0 : Int32) (S : aSt) : aX G yX7_next cX7_next 4 (some .int) uX7_next 3 mk_i (f_X7_next_34 l0 l1 s0 S) 34 [some (.int l0), some (.int l1), none, none] [.int s0] S := by
  unfold f_X7_next_34
  refine x_iconst (0 : Int32) dX7_next_34 (by decide) ?_
  exact x_le (v_X7_next_35 l0 l1 (0 : Int32) s0 S) (And.intro rfl (And.intro rfl trivial))
def f_X7_next_15  (l0 : Int32) (l1 : Int32) (s0 : Int32) (S : aSt) : Option (Int32 × aSt) := (f_X7_next_35 l0 l1 (-1 : Int32) s0 S)
set_option maxRecDepth 20000 in
set_option maxHeartbeats 4000000 in
theorem v_X7_next_15 {G : aG} (l0 : Int32) (l1 : Int32) (s0 : Int32) (S : aSt) : aX G yX7_next cX7_next 4 (some .int) uX7_next 3 mk_i (f_X7_next_15 l0 l1 s0 S) 15 [some (.int l0), some (.int l1), none, none] [.int s0] S := by
  unfold f_X7_next_15
  refine x_iconst (-1 : Int32) dX7_next_15 (by decide) ?_
  refine x_goto (tgt := 35) dX7_next_16 (by decide) ?_
  exact x_le (v_X7_next_35 l0 l1 (-1 : Int32) s0 S) (And.intro rfl (And.intro rfl trivial))
def f_X7_next (p0 : Int32) (p1 : Int32) (S : aSt) : Option (Int32 × aSt) := (if p1 = (7 : Int32) then (f_X7_next_15 p0 p1 (p0 / (8 : Int32)) S) else (if (2 : Int32) ≤ p1 then (if p1 ≤ (2 : Int32) then (f_X7_next_34 p0 p1 (p0 / (8 : Int32)) S) else (if (6 : Int32) ≤ p1 then (f_X7_next_34 p0 p1 (p0 / (8 : Int32)) S) else (f_X7_next_35 p0 p1 (1 : Int32) (p0 / (8 : Int32)) S))) else (f_X7_next_15 p0 p1 (p0 / (8 : Int32)) S)))
set_option maxRecDepth 20000 in
set_option maxHeartbeats 4000000 in
theorem m_X7_next {G : aG} (p0 : Int32) (p1 : Int32) (S : aSt) : aMet G yX7_next uX7_next 3 mk_i (f_X7_next p0 p1 S) [.int p0, .int p1] S := by
  refine x_met (cc := cX7_next) (nL := 4) (ret := (some .int)) (L := [some (.int p0), some (.int p1), none, none]) (by decide +kernel) rfl (And.intro rfl (And.intro rfl trivial)) (Nat.le_of_ble_eq_true rfl) ?_
  unfold f_X7_next
  refine x_iload_n dX7_next_0 rfl rfl ?_
  refine x_bipush (8 : Int32) dX7_next_1 (by decide) ?_
  refine x_idivc dX7_next_3 (by decide) ?_
  refine x_iload_n dX7_next_4 rfl rfl ?_
  refine x_bipush (7 : Int32) dX7_next_5 (by decide) ?_
  refine x_icmp_eq (tgt := 15) dX7_next_7 (by decide) ?_ ?_
  · exact x_le (v_X7_next_15 p0 p1 (p0 / (8 : Int32)) S) (And.intro rfl (And.intro rfl trivial))
  · refine x_iload_n dX7_next_10 rfl rfl ?_
    refine x_iconst (2 : Int32) dX7_next_11 (by decide) ?_
    refine x_icmp_ge (tgt := 19) dX7_next_12 (by decide) ?_ ?_
    · refine x_iload_n dX7_next_19 rfl rfl ?_
      refine x_iconst (2 : Int32) dX7_next_20 (by decide) ?_
      refine x_icmp_le (tgt := 34) dX7_next_21 (by decide) ?_ ?_
      · exact x_le (v_X7_next_34 p0 p1 (p0 / (8 : Int32)) S) (And.intro rfl (And.intro rfl trivial))
      · refine x_iload_n dX7_next_24 rfl rfl ?_
        refine x_bipush (6 : Int32) dX7_next_25 (by decide) ?_
        refine x_icmp_ge (tgt := 34) dX7_next_27 (by decide) ?_ ?_
        · exact x_le (v_X7_next_34 p0 p1 (p0 / (8 : Int32)) S) (And.intro rfl (And.intro rfl trivial))
        · refine x_iconst (1 : Int32) dX7_next_30 (by decide) ?_
          refine x_goto (tgt := 35) dX7_next_31 (by decide) ?_
          exact x_le (v_X7_next_35 p0 p1 (1 : Int32) (p0 / (8 : Int32)) S) (And.intro rfl (And.intro rfl trivial))
    · exact x_le (v_X7_next_15 p0 p1 (p0 / (8 : Int32)) S) (And.intro rfl (And.intro rfl trivial))
theorem dd_X7_isStanding : yX7_isStanding.cls = RX7 ∧ yX7_isStanding.cls ≠ "java/lang/invoke/MethodHandle" ∧ yX7_isStanding.cls ≠ "java/lang/invoke/VarHandle" ∧ (parseMethodDescriptor yX7_isStanding.desc).map (fun d => d.parameters.length) = some 1 := by decide +kernel
theorem w_X7_standingOn_f9 : Cond.fieldLink yX7_standingOn.cls 9 (TX7 1).1 (TX7 1).2.1 (TX7 1).2.2.1 ∈ uX7_standingOn := List.mem_cons_of_mem _ (wU_r4 _ (List.mem_of_getElem? (i := 14) rfl))
theorem g_X7_standingOn_183 : GoodIn uX7_standingOn (wsV yX7_standingOn.cls 183 RX7 yX7_isStanding uX7_isStanding) := gU_V (wU_r25 _ (List.mem_of_getElem? (i := 9) rfl)) (wU_r25 _ (List.mem_of_getElem? (i := 10) rfl)) (wU_r25 _ (List.mem_of_getElem? (i := 11) rfl)) (wU_r1 _ (List.mem_of_getElem? (i := 5) rfl)) (wU_r25 _ (List.mem_of_getElem? (i := 12) rfl))
def f_X7_standingOn_40 (r2 : Int32 → Int32 → Int32 → aSt → Option (Int32 × aSt)) (l1 : Int32) (l2 : Int32) (l3 : Int32) (S : aSt) : Option (Int32 × aSt) := (aLt (l3 + (1 : Int32)) (fun x2 => (r2 l1 l2 x2 S)))
set_option maxRecDepth 20000 in
set_option maxHeartbeats 4000000 in
theorem v_X7_standingOn_40 {G : aG} (hM : aMo G) (r2 : Int32 → Int32 → Int32 → aSt → Option (Int32 × aSt)) (hr2 : ∀ (l1 : Int32) (l2 : Int32) (l3 : Int32) (S : aSt), aX G yX7_standingOn cX7_standingOn 4 (some .int) uX7_standingOn 3 mk_i (r2 l1 l2 l3 S) 2 [some (.ref (0)), some (.int l1), some (.int l2), some (.int l3)] [] S) (l1 : Int32) (l2 : Int32) (l3 : Int32) (S : aSt) : aX G yX7_standingOn cX7_standingOn 4 (some .int) uX7_standingOn 3 mk_i (f_X7_standingOn_40 r2 l1 l2 l3 S) 40 [some (.ref (0)), some (.int l1), some (.int l2), some (.int l3)] [] S := by
  unfold f_X7_standingOn_40
  refine x_iincL (w := (1 : Int32)) dX7_standingOn_40 rfl (by decide) (Nat.le_of_ble_eq_true rfl) rfl (fun x2 => ?_)
  refine x_goto (tgt := 2) dX7_standingOn_43 (by decide) ?_
  exact x_le (hr2 l1 l2 x2 S) (And.intro rfl (And.intro rfl (And.intro rfl (And.intro rfl trivial))))
def f_X7_standingOn_2  : Nat → Int32 → Int32 → Int32 → aSt → Option (Int32 × aSt)
  | 0, _, _, _, _ => none
  | n + 1, l1, l2, l3, S => (if (S.1 (1) 0) ≤ l3 then (some ((-1 : Int32), S)) else (if l3 = l2 then (f_X7_standingOn_40 (fun l1 l2 l3 S => (f_X7_standingOn_2 n l1 l2 l3 S)) l1 l2 l3 S) else (aB (f_X7_isStanding l3 S) (fun r1_ S1 => (if r1_ = 0 then (f_X7_standingOn_40 (fun l1 l2 l3 S => (f_X7_standingOn_2 n l1 l2 l3 S)) l1 l2 l3 S1) else (if ((122 : Int32) + l3) < 0 ∨ 979 ≤ (((122 : Int32) + l3)).toNatClampNeg then none else (if (S1.1 (1) (((122 : Int32) + l3)).toNatClampNeg) = l1 then (some (l3, S1)) else (f_X7_standingOn_40 (fun l1 l2 l3 S => (f_X7_standingOn_2 n l1 l2 l3 S)) l1 l2 l3 S1))))))))
set_option maxRecDepth 20000 in
set_option maxHeartbeats 4000000 in
theorem v_X7_standingOn_2 {G : aG} (hM : aMo G) : ∀ (n : Nat) (l1 : Int32) (l2 : Int32) (l3 : Int32) (S : aSt), aX G yX7_standingOn cX7_standingOn 4 (some .int) uX7_standingOn 3 mk_i (f_X7_standingOn_2 n l1 l2 l3 S) 2 [some (.ref (0)), some (.int l1), some (.int l2), some (.int l3)] [] S := by
  intro n
  induction n with
  | zero => intro l1 l2 l3 S; exact x_none
  | succ n ih =>
    intro l1 l2 l3 S
    unfold f_X7_standingOn_2
    refine x_iload_n dX7_standingOn_2 rfl rfl ?_
    refine x_aload_n dX7_standingOn_3 rfl rfl ?_
    refine x_getR (r := 1) (k := 0) (j := 1) dX7_standingOn_4 hM.1 rfl rfl (Nat.le_of_ble_eq_true rfl) (fun w h => List.mem_cons_of_mem _ (inlX7 w h)) w_X7_standingOn_f9 ?_
    refine x_iconst (0 : Int32) dX7_standingOn_7 (by decide) ?_
    refine x_ialdc (j := 0) dX7_standingOn_8 hM.2.1 (by unfold vp_in; decide) (by decide) ?_
    refine x_icmp_ge (tgt := 46) dX7_standingOn_9 (by decide) ?_ ?_
    · refine x_iconst (-1 : Int32) dX7_standingOn_46 (by decide) ?_
      exact x_iret dX7_standingOn_47 rfl
    · refine x_iload_n dX7_standingOn_12 rfl rfl ?_
      refine x_iload_n dX7_standingOn_13 rfl rfl ?_
      refine x_icmp_eq (tgt := 40) dX7_standingOn_14 (by decide) ?_ ?_
      · exact x_le (v_X7_standingOn_40 hM (fun l1 l2 l3 S => (f_X7_standingOn_2 n l1 l2 l3 S)) ih l1 l2 l3 S) (And.intro rfl (And.intro rfl (And.intro rfl (And.intro rfl trivial))))
      · refine x_aload_n dX7_standingOn_17 rfl rfl ?_
        refine x_iload_n dX7_standingOn_18 rfl rfl ?_
        refine x_b (fun r1_ S1 e1 => ?_)
        refine x_callVi (As := [.int l3]) dX7_standingOn_19 (aMet_of e1 (m_X7_isStanding hM l3 S)) g_X7_standingOn_183 rfl hM.1 rfl dd_X7_isStanding rfl rfl (Nat.le_of_ble_eq_true rfl) (Nat.le_of_ble_eq_true rfl) (Nat.le_of_ble_eq_true rfl) ?_
        refine x_if_eq (tgt := 40) dX7_standingOn_22 (by decide) ?_ ?_
        · exact x_le (v_X7_standingOn_40 hM (fun l1 l2 l3 S => (f_X7_standingOn_2 n l1 l2 l3 S)) ih l1 l2 l3 S1) (And.intro rfl (And.intro rfl (And.intro rfl (And.intro rfl trivial))))
        · refine x_aload_n dX7_standingOn_25 rfl rfl ?_
          refine x_getR (r := 1) (k := 0) (j := 1) dX7_standingOn_26 hM.1 rfl rfl (Nat.le_of_ble_eq_true rfl) (fun w h => List.mem_cons_of_mem _ (inlX7 w h)) w_X7_standingOn_f9 ?_
          refine x_bipush (122 : Int32) dX7_standingOn_29 (by decide) ?_
          refine x_iload_n dX7_standingOn_31 rfl rfl ?_
          refine x_iadd dX7_standingOn_32 ?_
          refine x_iald dX7_standingOn_33 hM.2.1 ?_
          refine x_iload_n dX7_standingOn_34 rfl rfl ?_
          refine x_icmp_ne (tgt := 40) dX7_standingOn_35 (by decide) ?_ ?_
          · exact x_le (v_X7_standingOn_40 hM (fun l1 l2 l3 S => (f_X7_standingOn_2 n l1 l2 l3 S)) ih l1 l2 l3 S1) (And.intro rfl (And.intro rfl (And.intro rfl (And.intro rfl trivial))))
          · refine x_iload_n dX7_standingOn_38 rfl rfl ?_
            exact x_iret dX7_standingOn_39 rfl
def f_X7_standingOn (p1 : Int32) (p2 : Int32) (S : aSt) : Option (Int32 × aSt) := (f_X7_standingOn_2 aF p1 p2 (0 : Int32) S)
set_option maxRecDepth 20000 in
set_option maxHeartbeats 4000000 in
theorem m_X7_standingOn {G : aG} (hM : aMo G) (p1 : Int32) (p2 : Int32) (S : aSt) : aMet G yX7_standingOn uX7_standingOn 3 mk_i (f_X7_standingOn p1 p2 S) [.ref (0), .int p1, .int p2] S := by
  refine x_met (cc := cX7_standingOn) (nL := 4) (ret := (some .int)) (L := [some (.ref (0)), some (.int p1), some (.int p2), none]) (by decide +kernel) rfl (And.intro rfl (And.intro rfl (And.intro rfl trivial))) (Nat.le_of_ble_eq_true rfl) ?_
  unfold f_X7_standingOn
  refine x_iconst (0 : Int32) dX7_standingOn_0 (by decide) ?_
  refine x_istore_n dX7_standingOn_1 rfl (Nat.le_of_ble_eq_true rfl) rfl ?_
  exact x_le (v_X7_standingOn_2 hM aF p1 p2 (0 : Int32) S) (And.intro rfl (And.intro rfl (And.intro rfl (And.intro rfl trivial))))
theorem dd_X7_next : yX7_next.cls ≠ "java/lang/invoke/MethodHandle" ∧ yX7_next.cls ≠ "java/lang/invoke/VarHandle" ∧ (parseMethodDescriptor yX7_next.desc).map (fun d => d.parameters.length) = some 2 := by decide +kernel
theorem dd_X7_standingOn : yX7_standingOn.cls = RX7 ∧ yX7_standingOn.cls ≠ "java/lang/invoke/MethodHandle" ∧ yX7_standingOn.cls ≠ "java/lang/invoke/VarHandle" ∧ (parseMethodDescriptor yX7_standingOn.desc).map (fun d => d.parameters.length) = some 2 := by decide +kernel
theorem w_X7_lays_f186 : Cond.fieldLink yX7_lays.cls 186 (TX7 20).1 (TX7 20).2.1 (TX7 20).2.2.1 ∈ uX7_lays := List.mem_cons_of_mem _ (wU_r26 _ (List.mem_of_getElem? (i := 22) rfl))
theorem w_X7_lays_f190 : Cond.fieldLink yX7_lays.cls 190 (TX7 21).1 (TX7 21).2.1 (TX7 21).2.2.1 ∈ uX7_lays := List.mem_cons_of_mem _ (wU_r25 _ (List.mem_of_getElem? (i := 7) rfl))
theorem w_X7_lays_f193 : Cond.fieldLink yX7_lays.cls 193 (TX7 22).1 (TX7 22).2.1 (TX7 22).2.2.1 ∈ uX7_lays := List.mem_cons_of_mem _ (wU_r25 _ (List.mem_of_getElem? (i := 8) rfl))
theorem w_X7_lays_f177 : Cond.fieldLink yX7_lays.cls 177 (TX7 18).1 (TX7 18).2.1 (TX7 18).2.2.1 ∈ uX7_lays := List.mem_cons_of_mem _ (wU_r25 _ (List.mem_of_getElem? (i := 5) rfl))
theorem w_X7_lays_f9 : Cond.fieldLink yX7_lays.cls 9 (TX7 1).1 (TX7 1).2.1 (TX7 1).2.2.1 ∈ uX7_lays := List.mem_cons_of_mem _ (wU_r4 _ (List.mem_of_getElem? (i := 14) rfl))
theorem w_X7_lays_f180 : Cond.fieldLink yX7_lays.cls 180 (TX7 19).1 (TX7 19).2.1 (TX7 19).2.2.1 ∈ uX7_lays := List.mem_cons_of_mem _ (wU_r25 _ (List.mem_of_getElem? (i := 6) rfl))
theorem g_X7_lays_196 : GoodIn uX7_lays (va_wsS yX7_lays.cls 196 yX7_next uX7_next) := gU_S (wU_r26 _ (List.mem_of_getElem? (i := 23) rfl)) (wU_r27 _ (List.mem_of_getElem? (i := 0) rfl)) (wU_r1 _ (List.mem_of_getElem? (i := 5) rfl)) (wU_r27 _ (List.mem_of_getElem? (i := 1) rfl))
theorem g_X7_lays_199 : GoodIn uX7_lays (wsV yX7_lays.cls 199 RX7 yX7_standingOn uX7_standingOn) := gU_V (wU_r27 _ (List.mem_of_getElem? (i := 2) rfl)) (wU_r27 _ (List.mem_of_getElem? (i := 3) rfl)) (wU_r27 _ (List.mem_of_getElem? (i := 4) rfl)) (wU_r1 _ (List.mem_of_getElem? (i := 5) rfl)) (wU_r27 _ (List.mem_of_getElem? (i := 5) rfl))
def f_X7_lays_180 (r75 : Int32 → Int32 → Int32 → Int32 → aSt → Option (Unit × aSt)) (l1 : Int32) (l2 : Int32) (l3 : Int32) (l4 : Int32) (S : aSt) : Option (Unit × aSt) := (aLt (l4 + (1 : Int32)) (fun x7 => (r75 l1 l2 l3 x7 S)))
set_option maxRecDepth 20000 in
set_option maxHeartbeats 4000000 in
theorem v_X7_lays_180 {G : aG} (hM : aMo G) (r75 : Int32 → Int32 → Int32 → Int32 → aSt → Option (Unit × aSt)) (hr75 : ∀ (l1 : Int32) (l2 : Int32) (l3 : Int32) (l4 : Int32) (S : aSt), aX G yX7_lays cX7_lays 6 none uX7_lays 4 mk_v (r75 l1 l2 l3 l4 S) 75 [some (.ref (0)), some (.int l1), some (.int l2), some (.int l3), some (.int l4), none] [] S) (l1 : Int32) (l2 : Int32) (l3 : Int32) (l4 : Int32) (S : aSt) : aX G yX7_lays cX7_lays 6 none uX7_lays 4 mk_v (f_X7_lays_180 r75 l1 l2 l3 l4 S) 180 [some (.ref (0)), some (.int l1), some (.int l2), some (.int l3), some (.int l4), none] [] S := by
  unfold f_X7_lays_180
  refine x_iincL (w := (1 : Int32)) dX7_lays_180 rfl (by decide) (Nat.le_of_ble_eq_true rfl) rfl (fun x7 => ?_)
  refine x_goto (tgt := 75) dX7_lays_183 (by decide) ?_
  exact x_le (hr75 l1 l2 l3 x7 S) (And.intro rfl (And.intro rfl (And.intro rfl (And.intro rfl (And.intro rfl trivial)))))
def f_X7_lays_176 (r75 : Int32 → Int32 → Int32 → Int32 → aSt → Option (Unit × aSt)) (l1 : Int32) (l2 : Int32) (l3 : Int32) (l4 : Int32) (s0 : Int32) (s1 : Int32) (S : aSt) : Option (Unit × aSt) := (aLt (aUi S (0) 21 (s1 + s0)) (fun S10 => (f_X7_lays_180 r75 l1 l2 l3 l4 S10)))
set_option maxRecDepth 20000 in
set_option maxHeartbeats 4000000 in
theorem v_X7_lays_176 {G : aG} (hM : aMo G) (r75 : Int32 → Int32 → Int32 → Int32 → aSt → Option (Unit × aSt)) (hr75 : ∀ (l1 : Int32) (l2 : Int32) (l3 : Int32) (l4 : Int32) (S : aSt), aX G yX7_lays cX7_lays 6 none uX7_lays 4 mk_v (r75 l1 l2 l3 l4 S) 75 [some (.ref (0)), some (.int l1), some (.int l2), some (.int l3), some (.int l4), none] [] S) (l1 : Int32) (l2 : Int32) (l3 : Int32) (l4 : Int32) (s0 : Int32) (s1 : Int32) (S : aSt) : aX G yX7_lays cX7_lays 6 none uX7_lays 4 mk_v (f_X7_lays_176 r75 l1 l2 l3 l4 s0 s1 S) 176 [some (.ref (0)), some (.int l1), some (.int l2), some (.int l3), some (.int l4), none] [.int s0, .int s1, .ref (0)] S := by
  unfold f_X7_lays_176
  refine x_iadd dX7_lays_176 ?_
  refine x_putI (k := 0) (j := 21) dX7_lays_177 hM.1 rfl rfl (Nat.le_of_ble_eq_true rfl) (fun w h => List.mem_cons_of_mem _ (inlX7 w h)) w_X7_lays_f190 tyX7 tyX7_ok nmX7 rfl (by decide +kernel) ?_
  refine x_ltS (fun S10 => ?_)
  exact x_le (v_X7_lays_180 hM r75 hr75 l1 l2 l3 l4 S10) (And.intro rfl (And.intro rfl (And.intro rfl (And.intro rfl (And.intro rfl trivial)))))
def f_X7_lays_156 (r75 : Int32 → Int32 → Int32 → Int32 → aSt → Option (Unit × aSt)) (l1 : Int32) (l2 : Int32) (l3 : Int32) (l4 : Int32) (l5 : Int32) (s0 : Int64) (s1 : Int64) (S : aSt) : Option (Unit × aSt) := (aLt (aUl S (0) 20 (s1 ||| s0)) (fun S9 => (if l5 = (-1 : Int32) then (f_X7_lays_176 r75 l1 l2 l3 l4 (1 : Int32) (S9.1 (0) 21) S9) else (f_X7_lays_176 r75 l1 l2 l3 l4 (0 : Int32) (S9.1 (0) 21) S9))))
set_option maxRecDepth 20000 in
set_option maxHeartbeats 4000000 in
theorem v_X7_lays_156 {G : aG} (hM : aMo G) (r75 : Int32 → Int32 → Int32 → Int32 → aSt → Option (Unit × aSt)) (hr75 : ∀ (l1 : Int32) (l2 : Int32) (l3 : Int32) (l4 : Int32) (S : aSt), aX G yX7_lays cX7_lays 6 none uX7_lays 4 mk_v (r75 l1 l2 l3 l4 S) 75 [some (.ref (0)), some (.int l1), some (.int l2), some (.int l3), some (.int l4), none] [] S) (l1 : Int32) (l2 : Int32) (l3 : Int32) (l4 : Int32) (l5 : Int32) (s0 : Int64) (s1 : Int64) (S : aSt) : aX G yX7_lays cX7_lays 6 none uX7_lays 4 mk_v (f_X7_lays_156 r75 l1 l2 l3 l4 l5 s0 s1 S) 156 [some (.ref (0)), some (.int l1), some (.int l2), some (.int l3), some (.int l4), some (.int l5)] [.long s0, .long s1, .ref (0)] S := by
  unfold f_X7_lays_156
  refine x_lor dX7_lays_156 ?_
  refine x_putJ (k := 0) (j := 20) dX7_lays_157 hM.1 rfl rfl (Nat.le_of_ble_eq_true rfl) (fun w h => List.mem_cons_of_mem _ (inlX7 w h)) w_X7_lays_f186 tyX7 tyX7_ok nmX7 rfl (by decide +kernel) ?_
  refine x_ltS (fun S9 => ?_)
  refine x_aload_n dX7_lays_160 rfl rfl ?_
  refine x_dup dX7_lays_161 rfl ?_
  refine x_getI (k := 0) (j := 21) dX7_lays_162 hM.1 rfl rfl (Nat.le_of_ble_eq_true rfl) (fun w h => List.mem_cons_of_mem _ (inlX7 w h)) w_X7_lays_f190 ?_
  refine x_iload dX7_lays_165 rfl ?_
  refine x_iconst (-1 : Int32) dX7_lays_167 (by decide) ?_
  refine x_icmp_ne (tgt := 175) dX7_lays_168 (by decide) ?_ ?_
  · refine x_iconst (0 : Int32) dX7_lays_175 (by decide) ?_
    exact x_le (v_X7_lays_176 hM r75 hr75 l1 l2 l3 l4 (0 : Int32) (S9.1 (0) 21) S9) (And.intro rfl (And.intro rfl (And.intro rfl (And.intro rfl (And.intro rfl trivial)))))
  · refine x_iconst (1 : Int32) dX7_lays_171 (by decide) ?_
    refine x_goto (tgt := 176) dX7_lays_172 (by decide) ?_
    exact x_le (v_X7_lays_176 hM r75 hr75 l1 l2 l3 l4 (1 : Int32) (S9.1 (0) 21) S9) (And.intro rfl (And.intro rfl (And.intro rfl (And.intro rfl (And.intro rfl trivial)))))
def f_X7_lays_135 (r75 : Int32 → Int32 → Int32 → Int32 → aSt → Option (Unit × aSt)) (l1 : Int32) (l2 : Int32) (l3 : Int32) (l4 : Int32) (l5 : Int32) (s0 : Int32) (S : aSt) : Option (Unit × aSt) := (aLt (aUi S (0) 22 s0) (fun S8 => (if l5 = (-1 : Int32) then (f_X7_lays_156 r75 l1 l2 l3 l4 l5 ((1 : Int64) <<< ((l3).toInt64 &&& 63)) (S8.2 (0) 20) S8) else (f_X7_lays_156 r75 l1 l2 l3 l4 l5 (0 : Int64) (S8.2 (0) 20) S8))))
set_option maxRecDepth 20000 in
set_option maxHeartbeats 4000000 in
theorem v_X7_lays_135 {G : aG} (hM : aMo G) (r75 : Int32 → Int32 → Int32 → Int32 → aSt → Option (Unit × aSt)) (hr75 : ∀ (l1 : Int32) (l2 : Int32) (l3 : Int32) (l4 : Int32) (S : aSt), aX G yX7_lays cX7_lays 6 none uX7_lays 4 mk_v (r75 l1 l2 l3 l4 S) 75 [some (.ref (0)), some (.int l1), some (.int l2), some (.int l3), some (.int l4), none] [] S) (l1 : Int32) (l2 : Int32) (l3 : Int32) (l4 : Int32) (l5 : Int32) (s0 : Int32) (S : aSt) : aX G yX7_lays cX7_lays 6 none uX7_lays 4 mk_v (f_X7_lays_135 r75 l1 l2 l3 l4 l5 s0 S) 135 [some (.ref (0)), some (.int l1), some (.int l2), some (.int l3), some (.int l4), some (.int l5)] [.int s0, .ref (0)] S := by
  unfold f_X7_lays_135
  refine x_putI (k := 0) (j := 22) dX7_lays_135 hM.1 rfl rfl (Nat.le_of_ble_eq_true rfl) (fun w h => List.mem_cons_of_mem _ (inlX7 w h)) w_X7_lays_f193 tyX7 tyX7_ok nmX7 rfl (by decide +kernel) ?_
  refine x_ltS (fun S8 => ?_)
  refine x_aload_n dX7_lays_138 rfl rfl ?_
  refine x_dup dX7_lays_139 rfl ?_
  refine x_getJ (k := 0) (j := 20) dX7_lays_140 hM.1 rfl rfl (Nat.le_of_ble_eq_true rfl) (fun w h => List.mem_cons_of_mem _ (inlX7 w h)) w_X7_lays_f186 ?_
  refine x_iload dX7_lays_143 rfl ?_
  refine x_iconst (-1 : Int32) dX7_lays_145 (by decide) ?_
  refine x_icmp_ne (tgt := 155) dX7_lays_146 (by decide) ?_ ?_
  · refine x_lconst (0 : Int64) dX7_lays_155 (by decide) ?_
    exact x_le (v_X7_lays_156 hM r75 hr75 l1 l2 l3 l4 l5 (0 : Int64) (S8.2 (0) 20) S8) (And.intro rfl (And.intro rfl (And.intro rfl (And.intro rfl (And.intro rfl (And.intro rfl trivial))))))
  · refine x_lconst (1 : Int64) dX7_lays_149 (by decide) ?_
    refine x_iload_n dX7_lays_150 rfl rfl ?_
    refine x_lshl dX7_lays_151 ?_
    refine x_goto (tgt := 156) dX7_lays_152 (by decide) ?_
    exact x_le (v_X7_lays_156 hM r75 hr75 l1 l2 l3 l4 l5 ((1 : Int64) <<< ((l3).toInt64 &&& 63)) (S8.2 (0) 20) S8) (And.intro rfl (And.intro rfl (And.intro rfl (And.intro rfl (And.intro rfl (And.intro rfl trivial))))))
def f_X7_lays_107 (r75 : Int32 → Int32 → Int32 → Int32 → aSt → Option (Unit × aSt)) (l1 : Int32) (l2 : Int32) (l4 : Int32) (s0 : Int32) (S : aSt) : Option (Unit × aSt) := (if s0 = (-1 : Int32) then (f_X7_lays_180 r75 l1 l2 s0 l4 S) else (aB (f_X7_standingOn s0 l1 S) (fun r6_ S6 => (if r6_ = (-1 : Int32) then (f_X7_lays_135 r75 l1 l2 s0 l4 r6_ (-5 : Int32) S6) else (f_X7_lays_135 r75 l1 l2 s0 l4 r6_ r6_ S6)))))
set_option maxRecDepth 20000 in
set_option maxHeartbeats 4000000 in
theorem v_X7_lays_107 {G : aG} (hM : aMo G) (r75 : Int32 → Int32 → Int32 → Int32 → aSt → Option (Unit × aSt)) (hr75 : ∀ (l1 : Int32) (l2 : Int32) (l3 : Int32) (l4 : Int32) (S : aSt), aX G yX7_lays cX7_lays 6 none uX7_lays 4 mk_v (r75 l1 l2 l3 l4 S) 75 [some (.ref (0)), some (.int l1), some (.int l2), some (.int l3), some (.int l4), none] [] S) (l1 : Int32) (l2 : Int32) (l4 : Int32) (s0 : Int32) (S : aSt) : aX G yX7_lays cX7_lays 6 none uX7_lays 4 mk_v (f_X7_lays_107 r75 l1 l2 l4 s0 S) 107 [some (.ref (0)), some (.int l1), some (.int l2), none, some (.int l4), none] [.int s0] S := by
  unfold f_X7_lays_107
  refine x_istore_n dX7_lays_107 rfl (Nat.le_of_ble_eq_true rfl) rfl ?_
  refine x_iload_n dX7_lays_108 rfl rfl ?_
  refine x_iconst (-1 : Int32) dX7_lays_109 (by decide) ?_
  refine x_icmp_eq (tgt := 180) dX7_lays_110 (by decide) ?_ ?_
  · exact x_le (v_X7_lays_180 hM r75 hr75 l1 l2 s0 l4 S) (And.intro rfl (And.intro rfl (And.intro rfl (And.intro rfl (And.intro rfl trivial)))))
  · refine x_aload_n dX7_lays_113 rfl rfl ?_
    refine x_iload_n dX7_lays_114 rfl rfl ?_
    refine x_iload_n dX7_lays_115 rfl rfl ?_
    refine x_b (fun r6_ S6 e6 => ?_)
    refine x_callVi (As := [.int s0, .int l1]) dX7_lays_116 (aMet_of e6 (m_X7_standingOn hM s0 l1 S)) g_X7_lays_199 rfl hM.1 rfl dd_X7_standingOn rfl rfl (Nat.le_of_ble_eq_true rfl) (Nat.le_of_ble_eq_true rfl) (Nat.le_of_ble_eq_true rfl) ?_
    refine x_istore dX7_lays_119 (Nat.le_of_ble_eq_true rfl) rfl ?_
    refine x_aload_n dX7_lays_121 rfl rfl ?_
    refine x_iload dX7_lays_122 rfl ?_
    refine x_iconst (-1 : Int32) dX7_lays_124 (by decide) ?_
    refine x_icmp_ne (tgt := 133) dX7_lays_125 (by decide) ?_ ?_
    · refine x_iload dX7_lays_133 rfl ?_
      exact x_le (v_X7_lays_135 hM r75 hr75 l1 l2 s0 l4 r6_ r6_ S6) (And.intro rfl (And.intro rfl (And.intro rfl (And.intro rfl (And.intro rfl (And.intro rfl trivial))))))
    · refine x_bipush (-5 : Int32) dX7_lays_128 (by decide) ?_
      refine x_goto (tgt := 135) dX7_lays_130 (by decide) ?_
      exact x_le (v_X7_lays_135 hM r75 hr75 l1 l2 s0 l4 r6_ (-5 : Int32) S6) (And.intro rfl (And.intro rfl (And.intro rfl (And.intro rfl (And.intro rfl (And.intro rfl trivial))))))
def f_X7_lays_75  : Nat → Int32 → Int32 → Int32 → Int32 → aSt → Option (Unit × aSt)
  | 0, _, _, _, _, _ => none
  | n + 1, l1, l2, l3, l4, S => (if l2 ≤ l4 then (some ((), S)) else (if (S.1 (0) 22) = (-5 : Int32) then (if l3 = (-1 : Int32) then (f_X7_lays_107 (fun l1 l2 l3 l4 S => (f_X7_lays_75 n l1 l2 l3 l4 S)) l1 l2 l4 (-1 : Int32) S) else (aB (f_X7_next l3 (S.1 (0) 19) S) (fun r5_ S5 => (f_X7_lays_107 (fun l1 l2 l3 l4 S => (f_X7_lays_75 n l1 l2 l3 l4 S)) l1 l2 l4 r5_ S5)))) else (some ((), S))))
set_option maxRecDepth 20000 in
set_option maxHeartbeats 4000000 in
theorem v_X7_lays_75 {G : aG} (hM : aMo G) : ∀ (n : Nat) (l1 : Int32) (l2 : Int32) (l3 : Int32) (l4 : Int32) (S : aSt), aX G yX7_lays cX7_lays 6 none uX7_lays 4 mk_v (f_X7_lays_75 n l1 l2 l3 l4 S) 75 [some (.ref (0)), some (.int l1), some (.int l2), some (.int l3), some (.int l4), none] [] S := by
  intro n
  induction n with
  | zero => intro l1 l2 l3 l4 S; exact x_none
  | succ n ih =>
    intro l1 l2 l3 l4 S
    unfold f_X7_lays_75
    refine x_iload dX7_lays_75 rfl ?_
    refine x_iload_n dX7_lays_77 rfl rfl ?_
    refine x_icmp_ge (tgt := 186) dX7_lays_78 (by decide) ?_ ?_
    · exact x_vret dX7_lays_186 rfl
    · refine x_aload_n dX7_lays_81 rfl rfl ?_
      refine x_getI (k := 0) (j := 22) dX7_lays_82 hM.1 rfl rfl (Nat.le_of_ble_eq_true rfl) (fun w h => List.mem_cons_of_mem _ (inlX7 w h)) w_X7_lays_f193 ?_
      refine x_bipush (-5 : Int32) dX7_lays_85 (by decide) ?_
      refine x_icmp_ne (tgt := 186) dX7_lays_87 (by decide) ?_ ?_
      · exact x_vret dX7_lays_186 rfl
      · refine x_iload_n dX7_lays_90 rfl rfl ?_
        refine x_iconst (-1 : Int32) dX7_lays_91 (by decide) ?_
        refine x_icmp_ne (tgt := 99) dX7_lays_92 (by decide) ?_ ?_
        · refine x_iload_n dX7_lays_99 rfl rfl ?_
          refine x_aload_n dX7_lays_100 rfl rfl ?_
          refine x_getI (k := 0) (j := 19) dX7_lays_101 hM.1 rfl rfl (Nat.le_of_ble_eq_true rfl) (fun w h => List.mem_cons_of_mem _ (inlX7 w h)) w_X7_lays_f180 ?_
          refine x_b (fun r5_ S5 e5 => ?_)
          refine x_callSi (As := [.int l3, .int (S.1 (0) 19)]) dX7_lays_104 (aMet_of e5 (m_X7_next l3 (S.1 (0) 19) S)) g_X7_lays_196 rfl dd_X7_next rfl rfl (Nat.le_of_ble_eq_true rfl) (Nat.le_of_ble_eq_true rfl) (Nat.le_of_ble_eq_true rfl) ?_
          exact x_le (v_X7_lays_107 hM (fun l1 l2 l3 l4 S => (f_X7_lays_75 n l1 l2 l3 l4 S)) ih l1 l2 l4 r5_ S5) (And.intro rfl (And.intro rfl (And.intro rfl (And.intro rfl trivial))))
        · refine x_iconst (-1 : Int32) dX7_lays_95 (by decide) ?_
          refine x_goto (tgt := 107) dX7_lays_96 (by decide) ?_
          exact x_le (v_X7_lays_107 hM (fun l1 l2 l3 l4 S => (f_X7_lays_75 n l1 l2 l3 l4 S)) ih l1 l2 l4 (-1 : Int32) S) (And.intro rfl (And.intro rfl (And.intro rfl (And.intro rfl trivial))))
def f_X7_lays_61  (l1 : Int32) (s0 : Int32) (S : aSt) : Option (Unit × aSt) := (if ((122 : Int32) + l1) < 0 ∨ 979 ≤ (((122 : Int32) + l1)).toNatClampNeg then none else (aLt (S.1 (1) (((122 : Int32) + l1)).toNatClampNeg) (fun x4 => (f_X7_lays_75 aF l1 s0 x4 (0 : Int32) S))))
set_option maxRecDepth 20000 in
set_option maxHeartbeats 4000000 in
theorem v_X7_lays_61 {G : aG} (hM : aMo G) (l1 : Int32) (s0 : Int32) (S : aSt) : aX G yX7_lays cX7_lays 6 none uX7_lays 4 mk_v (f_X7_lays_61 l1 s0 S) 61 [some (.ref (0)), some (.int l1), none, none, none, none] [.int s0] S := by
  unfold f_X7_lays_61
  refine x_istore_n dX7_lays_61 rfl (Nat.le_of_ble_eq_true rfl) rfl ?_
  refine x_aload_n dX7_lays_62 rfl rfl ?_
  refine x_getR (r := 1) (k := 0) (j := 1) dX7_lays_63 hM.1 rfl rfl (Nat.le_of_ble_eq_true rfl) (fun w h => List.mem_cons_of_mem _ (inlX7 w h)) w_X7_lays_f9 ?_
  refine x_bipush (122 : Int32) dX7_lays_66 (by decide) ?_
  refine x_iload_n dX7_lays_68 rfl rfl ?_
  refine x_iadd dX7_lays_69 ?_
  refine x_iald dX7_lays_70 hM.2.1 ?_
  refine x_lti (fun x4 => ?_)
  refine x_istore_n dX7_lays_71 rfl (Nat.le_of_ble_eq_true rfl) rfl ?_
  refine x_iconst (0 : Int32) dX7_lays_72 (by decide) ?_
  refine x_istore dX7_lays_73 (Nat.le_of_ble_eq_true rfl) rfl ?_
  exact x_le (v_X7_lays_75 hM aF l1 s0 x4 (0 : Int32) S) (And.intro rfl (And.intro rfl (And.intro rfl (And.intro rfl (And.intro rfl trivial)))))
def f_X7_lays (p1 : Int32) (S : aSt) : Option (Unit × aSt) := (aLt (aUl S (0) 20 (0 : Int64)) (fun S1 => (aLt (aUi S1 (0) 21 (0 : Int32)) (fun S2 => (aLt (aUi S2 (0) 22 (-5 : Int32)) (fun S3 => (if (S3.1 (0) 18) = (2 : Int32) then (f_X7_lays_61 p1 (0 : Int32) S3) else (if (S3.1 (0) 18) = (4 : Int32) then (if ((128 : Int32) + p1) < 0 ∨ 979 ≤ (((128 : Int32) + p1)).toNatClampNeg then none else (f_X7_lays_61 p1 ((S3.1 (1) (((128 : Int32) + p1)).toNatClampNeg) - (1 : Int32)) S3)) else (if ((128 : Int32) + p1) < 0 ∨ 979 ≤ (((128 : Int32) + p1)).toNatClampNeg then none else (f_X7_lays_61 p1 (S3.1 (1) (((128 : Int32) + p1)).toNatClampNeg) S3))))))))))
set_option maxRecDepth 20000 in
set_option maxHeartbeats 4000000 in
theorem m_X7_lays {G : aG} (hM : aMo G) (p1 : Int32) (S : aSt) : aMet G yX7_lays uX7_lays 4 mk_v (f_X7_lays p1 S) [.ref (0), .int p1] S := by
  refine x_met (cc := cX7_lays) (nL := 6) (ret := none) (L := [some (.ref (0)), some (.int p1), none, none, none, none]) (by decide +kernel) rfl (And.intro rfl (And.intro rfl trivial)) (Nat.le_of_ble_eq_true rfl) ?_
  unfold f_X7_lays
  refine x_aload_n dX7_lays_0 rfl rfl ?_
  refine x_lconst (0 : Int64) dX7_lays_1 (by decide) ?_
  refine x_putJ (k := 0) (j := 20) dX7_lays_2 hM.1 rfl rfl (Nat.le_of_ble_eq_true rfl) (fun w h => List.mem_cons_of_mem _ (inlX7 w h)) w_X7_lays_f186 tyX7 tyX7_ok nmX7 rfl (by decide +kernel) ?_
  refine x_ltS (fun S1 => ?_)
  refine x_aload_n dX7_lays_5 rfl rfl ?_
  refine x_iconst (0 : Int32) dX7_lays_6 (by decide) ?_
  refine x_putI (k := 0) (j := 21) dX7_lays_7 hM.1 rfl rfl (Nat.le_of_ble_eq_true rfl) (fun w h => List.mem_cons_of_mem _ (inlX7 w h)) w_X7_lays_f190 tyX7 tyX7_ok nmX7 rfl (by decide +kernel) ?_
  refine x_ltS (fun S2 => ?_)
  refine x_aload_n dX7_lays_10 rfl rfl ?_
  refine x_bipush (-5 : Int32) dX7_lays_11 (by decide) ?_
  refine x_putI (k := 0) (j := 22) dX7_lays_13 hM.1 rfl rfl (Nat.le_of_ble_eq_true rfl) (fun w h => List.mem_cons_of_mem _ (inlX7 w h)) w_X7_lays_f193 tyX7 tyX7_ok nmX7 rfl (by decide +kernel) ?_
  refine x_ltS (fun S3 => ?_)
  refine x_aload_n dX7_lays_16 rfl rfl ?_
  refine x_getI (k := 0) (j := 18) dX7_lays_17 hM.1 rfl rfl (Nat.le_of_ble_eq_true rfl) (fun w h => List.mem_cons_of_mem _ (inlX7 w h)) w_X7_lays_f177 ?_
  refine x_iconst (2 : Int32) dX7_lays_20 (by decide) ?_
  refine x_icmp_ne (tgt := 28) dX7_lays_21 (by decide) ?_ ?_
  · refine x_aload_n dX7_lays_28 rfl rfl ?_
    refine x_getI (k := 0) (j := 18) dX7_lays_29 hM.1 rfl rfl (Nat.le_of_ble_eq_true rfl) (fun w h => List.mem_cons_of_mem _ (inlX7 w h)) w_X7_lays_f177 ?_
    refine x_iconst (4 : Int32) dX7_lays_32 (by decide) ?_
    refine x_icmp_ne (tgt := 51) dX7_lays_33 (by decide) ?_ ?_
    · refine x_aload_n dX7_lays_51 rfl rfl ?_
      refine x_getR (r := 1) (k := 0) (j := 1) dX7_lays_52 hM.1 rfl rfl (Nat.le_of_ble_eq_true rfl) (fun w h => List.mem_cons_of_mem _ (inlX7 w h)) w_X7_lays_f9 ?_
      refine x_sipush (128 : Int32) dX7_lays_55 (by decide) ?_
      refine x_iload_n dX7_lays_58 rfl rfl ?_
      refine x_iadd dX7_lays_59 ?_
      refine x_iald dX7_lays_60 hM.2.1 ?_
      exact x_le (v_X7_lays_61 hM p1 (S3.1 (1) (((128 : Int32) + p1)).toNatClampNeg) S3) (And.intro rfl (And.intro rfl trivial))
    · refine x_aload_n dX7_lays_36 rfl rfl ?_
      refine x_getR (r := 1) (k := 0) (j := 1) dX7_lays_37 hM.1 rfl rfl (Nat.le_of_ble_eq_true rfl) (fun w h => List.mem_cons_of_mem _ (inlX7 w h)) w_X7_lays_f9 ?_
      refine x_sipush (128 : Int32) dX7_lays_40 (by decide) ?_
      refine x_iload_n dX7_lays_43 rfl rfl ?_
      refine x_iadd dX7_lays_44 ?_
      refine x_iald dX7_lays_45 hM.2.1 ?_
      refine x_iconst (1 : Int32) dX7_lays_46 (by decide) ?_
      refine x_isub dX7_lays_47 ?_
      refine x_goto (tgt := 61) dX7_lays_48 (by decide) ?_
      exact x_le (v_X7_lays_61 hM p1 ((S3.1 (1) (((128 : Int32) + p1)).toNatClampNeg) - (1 : Int32)) S3) (And.intro rfl (And.intro rfl trivial))
  · refine x_iconst (0 : Int32) dX7_lays_24 (by decide) ?_
    refine x_goto (tgt := 61) dX7_lays_25 (by decide) ?_
    exact x_le (v_X7_lays_61 hM p1 (0 : Int32) S3) (And.intro rfl (And.intro rfl trivial))
theorem w_X7_doesStrike_f186 : Cond.fieldLink yX7_doesStrike.cls 186 (TX7 20).1 (TX7 20).2.1 (TX7 20).2.2.1 ∈ uX7_doesStrike := List.mem_cons_of_mem _ (wU_r26 _ (List.mem_of_getElem? (i := 22) rfl))
theorem w_X7_doesStrike_f9 : Cond.fieldLink yX7_doesStrike.cls 9 (TX7 1).1 (TX7 1).2.1 (TX7 1).2.2.1 ∈ uX7_doesStrike := List.mem_cons_of_mem _ (wU_r4 _ (List.mem_of_getElem? (i := 14) rfl))
def f_X7_doesStrike_46 (r4 : Int32 → Int32 → aSt → Option (Int32 × aSt)) (l2 : Int32) (s0 : Int32) (S : aSt) : Option (Int32 × aSt) := (aLt (l2 + (1 : Int32)) (fun x1 => (r4 s0 x1 S)))
set_option maxRecDepth 20000 in
set_option maxHeartbeats 4000000 in
theorem v_X7_doesStrike_46 {G : aG} (hM : aMo G) (r4 : Int32 → Int32 → aSt → Option (Int32 × aSt)) (hr4 : ∀ (l1 : Int32) (l2 : Int32) (S : aSt), aX G yX7_doesStrike cX7_doesStrike 3 (some .boolean) uX7_doesStrike 2 mk_i (r4 l1 l2 S) 4 [some (.ref (0)), some (.int l1), some (.int l2)] [] S) (l2 : Int32) (s0 : Int32) (S : aSt) : aX G yX7_doesStrike cX7_doesStrike 3 (some .boolean) uX7_doesStrike 2 mk_i (f_X7_doesStrike_46 r4 l2 s0 S) 46 [some (.ref (0)), none, some (.int l2)] [.int s0] S := by
  unfold f_X7_doesStrike_46
  refine x_istore_n dX7_doesStrike_46 rfl (Nat.le_of_ble_eq_true rfl) rfl ?_
  refine x_iincL (w := (1 : Int32)) dX7_doesStrike_47 rfl (by decide) (Nat.le_of_ble_eq_true rfl) rfl (fun x1 => ?_)
  refine x_goto (tgt := 4) dX7_doesStrike_50 (by decide) ?_
  exact x_le (hr4 s0 x1 S) (And.intro rfl (And.intro rfl (And.intro rfl trivial)))
def f_X7_doesStrike_45 (r4 : Int32 → Int32 → aSt → Option (Int32 × aSt)) (l2 : Int32) (S : aSt) : Option (Int32 × aSt) := (f_X7_doesStrike_46 r4 l2 (0 : Int32) S)
set_option maxRecDepth 20000 in
set_option maxHeartbeats 4000000 in
theorem v_X7_doesStrike_45 {G : aG} (hM : aMo G) (r4 : Int32 → Int32 → aSt → Option (Int32 × aSt)) (hr4 : ∀ (l1 : Int32) (l2 : Int32) (S : aSt), aX G yX7_doesStrike cX7_doesStrike 3 (some .boolean) uX7_doesStrike 2 mk_i (r4 l1 l2 S) 4 [some (.ref (0)), some (.int l1), some (.int l2)] [] S) (l2 : Int32) (S : aSt) : aX G yX7_doesStrike cX7_doesStrike 3 (some .boolean) uX7_doesStrike 2 mk_i (f_X7_doesStrike_45 r4 l2 S) 45 [some (.ref (0)), none, some (.int l2)] [] S := by
  unfold f_X7_doesStrike_45
  refine x_iconst (0 : Int32) dX7_doesStrike_45 (by decide) ?_
  exact x_le (v_X7_doesStrike_46 hM r4 hr4 l2 (0 : Int32) S) (And.intro rfl (And.intro rfl trivial))
def f_X7_doesStrike_41 (r4 : Int32 → Int32 → aSt → Option (Int32 × aSt)) (l2 : Int32) (S : aSt) : Option (Int32 × aSt) := (f_X7_doesStrike_46 r4 l2 (1 : Int32) S)
set_option maxRecDepth 20000 in
set_option maxHeartbeats 4000000 in
theorem v_X7_doesStrike_41 {G : aG} (hM : aMo G) (r4 : Int32 → Int32 → aSt → Option (Int32 × aSt)) (hr4 : ∀ (l1 : Int32) (l2 : Int32) (S : aSt), aX G yX7_doesStrike cX7_doesStrike 3 (some .boolean) uX7_doesStrike 2 mk_i (r4 l1 l2 S) 4 [some (.ref (0)), some (.int l1), some (.int l2)] [] S) (l2 : Int32) (S : aSt) : aX G yX7_doesStrike cX7_doesStrike 3 (some .boolean) uX7_doesStrike 2 mk_i (f_X7_doesStrike_41 r4 l2 S) 41 [some (.ref (0)), none, some (.int l2)] [] S := by
  unfold f_X7_doesStrike_41
  refine x_iconst (1 : Int32) dX7_doesStrike_41 (by decide) ?_
  refine x_goto (tgt := 46) dX7_doesStrike_42 (by decide) ?_
  exact x_le (v_X7_doesStrike_46 hM r4 hr4 l2 (1 : Int32) S) (And.intro rfl (And.intro rfl trivial))
def f_X7_doesStrike_4  : Nat → Int32 → Int32 → aSt → Option (Int32 × aSt)
  | 0, _, _, _ => none
  | n + 1, l1, l2, S => (if (64 : Int32) ≤ l2 then (if l1 = 0 ∨ l1 = 1 then some (l1, S) else none) else (if l1 = 0 then (if (lg_cmp (((S.2 (0) 20) >>> ((l2).toInt64 &&& 63)) &&& (1 : Int64)) (1 : Int64)) = 0 then (if ((210 : Int32) + l2) < 0 ∨ 979 ≤ (((210 : Int32) + l2)).toNatClampNeg then none else (if (S.1 (1) (((210 : Int32) + l2)).toNatClampNeg) = (1 : Int32) then (f_X7_doesStrike_41 (fun l1 l2 S => (f_X7_doesStrike_4 n l1 l2 S)) l2 S) else (f_X7_doesStrike_45 (fun l1 l2 S => (f_X7_doesStrike_4 n l1 l2 S)) l2 S))) else (f_X7_doesStrike_45 (fun l1 l2 S => (f_X7_doesStrike_4 n l1 l2 S)) l2 S)) else (f_X7_doesStrike_41 (fun l1 l2 S => (f_X7_doesStrike_4 n l1 l2 S)) l2 S)))
set_option maxRecDepth 20000 in
set_option maxHeartbeats 4000000 in
theorem v_X7_doesStrike_4 {G : aG} (hM : aMo G) : ∀ (n : Nat) (l1 : Int32) (l2 : Int32) (S : aSt), aX G yX7_doesStrike cX7_doesStrike 3 (some .boolean) uX7_doesStrike 2 mk_i (f_X7_doesStrike_4 n l1 l2 S) 4 [some (.ref (0)), some (.int l1), some (.int l2)] [] S := by
  intro n
  induction n with
  | zero => intro l1 l2 S; exact x_none
  | succ n ih =>
    intro l1 l2 S
    unfold f_X7_doesStrike_4
    refine x_iload_n dX7_doesStrike_4 rfl rfl ?_
    refine x_bipush (64 : Int32) dX7_doesStrike_5 (by decide) ?_
    refine x_icmp_ge (tgt := 53) dX7_doesStrike_7 (by decide) ?_ ?_
    · refine x_iload_n dX7_doesStrike_53 rfl rfl ?_
      exact x_zretc dX7_doesStrike_54 rfl
    · refine x_iload_n dX7_doesStrike_10 rfl rfl ?_
      refine x_if_ne (tgt := 41) dX7_doesStrike_11 (by decide) ?_ ?_
      · exact x_le (v_X7_doesStrike_41 hM (fun l1 l2 S => (f_X7_doesStrike_4 n l1 l2 S)) ih l2 S) (And.intro rfl (And.intro rfl trivial))
      · refine x_aload_n dX7_doesStrike_14 rfl rfl ?_
        refine x_getJ (k := 0) (j := 20) dX7_doesStrike_15 hM.1 rfl rfl (Nat.le_of_ble_eq_true rfl) (fun w h => List.mem_cons_of_mem _ (inlX7 w h)) w_X7_doesStrike_f186 ?_
        refine x_iload_n dX7_doesStrike_18 rfl rfl ?_
        refine x_lshr dX7_doesStrike_19 ?_
        refine x_lconst (1 : Int64) dX7_doesStrike_20 (by decide) ?_
        refine x_land dX7_doesStrike_21 ?_
        refine x_lconst (1 : Int64) dX7_doesStrike_22 (by decide) ?_
        refine x_lcmp dX7_doesStrike_23 ?_
        refine x_if_ne (tgt := 45) dX7_doesStrike_24 (by decide) ?_ ?_
        · exact x_le (v_X7_doesStrike_45 hM (fun l1 l2 S => (f_X7_doesStrike_4 n l1 l2 S)) ih l2 S) (And.intro rfl (And.intro rfl trivial))
        · refine x_aload_n dX7_doesStrike_27 rfl rfl ?_
          refine x_getR (r := 1) (k := 0) (j := 1) dX7_doesStrike_28 hM.1 rfl rfl (Nat.le_of_ble_eq_true rfl) (fun w h => List.mem_cons_of_mem _ (inlX7 w h)) w_X7_doesStrike_f9 ?_
          refine x_sipush (210 : Int32) dX7_doesStrike_31 (by decide) ?_
          refine x_iload_n dX7_doesStrike_34 rfl rfl ?_
          refine x_iadd dX7_doesStrike_35 ?_
          refine x_iald dX7_doesStrike_36 hM.2.1 ?_
          refine x_iconst (1 : Int32) dX7_doesStrike_37 (by decide) ?_
          refine x_icmp_ne (tgt := 45) dX7_doesStrike_38 (by decide) ?_ ?_
          · exact x_le (v_X7_doesStrike_45 hM (fun l1 l2 S => (f_X7_doesStrike_4 n l1 l2 S)) ih l2 S) (And.intro rfl (And.intro rfl trivial))
          · exact x_le (v_X7_doesStrike_41 hM (fun l1 l2 S => (f_X7_doesStrike_4 n l1 l2 S)) ih l2 S) (And.intro rfl (And.intro rfl trivial))
def f_X7_doesStrike  (S : aSt) : Option (Int32 × aSt) := (f_X7_doesStrike_4 aF (0 : Int32) (0 : Int32) S)
set_option maxRecDepth 20000 in
set_option maxHeartbeats 4000000 in
theorem m_X7_doesStrike {G : aG} (hM : aMo G)  (S : aSt) : aMet G yX7_doesStrike uX7_doesStrike 2 mk_i (f_X7_doesStrike S) [.ref (0)] S := by
  refine x_met (cc := cX7_doesStrike) (nL := 3) (ret := (some .boolean)) (L := [some (.ref (0)), none, none]) (by decide +kernel) rfl (And.intro rfl trivial) (Nat.le_of_ble_eq_true rfl) ?_
  unfold f_X7_doesStrike
  refine x_iconst (0 : Int32) dX7_doesStrike_0 (by decide) ?_
  refine x_istore_n dX7_doesStrike_1 rfl (Nat.le_of_ble_eq_true rfl) rfl ?_
  refine x_iconst (0 : Int32) dX7_doesStrike_2 (by decide) ?_
  refine x_istore_n dX7_doesStrike_3 rfl (Nat.le_of_ble_eq_true rfl) rfl ?_
  exact x_le (v_X7_doesStrike_4 hM aF (0 : Int32) (0 : Int32) S) (And.intro rfl (And.intro rfl (And.intro rfl trivial)))
theorem dd_X7_goesIn : yX7_goesIn.cls = RX7 ∧ yX7_goesIn.cls ≠ "java/lang/invoke/MethodHandle" ∧ yX7_goesIn.cls ≠ "java/lang/invoke/VarHandle" ∧ (parseMethodDescriptor yX7_goesIn.desc).map (fun d => d.parameters.length) = some 2 := by decide +kernel
theorem dd_X7_lays : yX7_lays.cls = RX7 ∧ yX7_lays.cls ≠ "java/lang/invoke/MethodHandle" ∧ yX7_lays.cls ≠ "java/lang/invoke/VarHandle" ∧ (parseMethodDescriptor yX7_lays.desc).map (fun d => d.parameters.length) = some 1 := by decide +kernel
theorem g_X7_goesNow_202 : GoodIn uX7_goesNow (wsV yX7_goesNow.cls 202 RX7 yX7_goesIn uX7_goesIn) := gU_V (wU_r25 _ (List.mem_of_getElem? (i := 17) rfl)) (wU_r25 _ (List.mem_of_getElem? (i := 18) rfl)) (wU_r25 _ (List.mem_of_getElem? (i := 19) rfl)) (wU_r1 _ (List.mem_of_getElem? (i := 5) rfl)) (wU_r25 _ (List.mem_of_getElem? (i := 20) rfl))
theorem g_X7_goesNow_205 : GoodIn uX7_goesNow (wsV yX7_goesNow.cls 205 RX7 yX7_lays uX7_lays) := gU_V (wU_r26 _ (List.mem_of_getElem? (i := 18) rfl)) (wU_r26 _ (List.mem_of_getElem? (i := 19) rfl)) (wU_r26 _ (List.mem_of_getElem? (i := 20) rfl)) (wU_r1 _ (List.mem_of_getElem? (i := 5) rfl)) (wU_r26 _ (List.mem_of_getElem? (i := 21) rfl))
def f_X7_goesNow (p1 : Int32) (p2 : Int32) (S : aSt) : Option (Unit × aSt) := (aB (f_X7_goesIn p1 p2 S) (fun r1_ S1 => (aB (f_X7_lays p1 S1) (fun r2_ S2 => (some ((), S2))))))
set_option maxRecDepth 20000 in
set_option maxHeartbeats 4000000 in
theorem m_X7_goesNow {G : aG} (hM : aMo G) (p1 : Int32) (p2 : Int32) (S : aSt) : aMet G yX7_goesNow uX7_goesNow 5 mk_v (f_X7_goesNow p1 p2 S) [.ref (0), .int p1, .int p2] S := by
  refine x_met (cc := cX7_goesNow) (nL := 3) (ret := none) (L := [some (.ref (0)), some (.int p1), some (.int p2)]) (by decide +kernel) rfl (And.intro rfl (And.intro rfl (And.intro rfl trivial))) (Nat.le_of_ble_eq_true rfl) ?_
  unfold f_X7_goesNow
  refine x_aload_n dX7_goesNow_0 rfl rfl ?_
  refine x_iload_n dX7_goesNow_1 rfl rfl ?_
  refine x_iload_n dX7_goesNow_2 rfl rfl ?_
  refine x_b (fun r1_ S1 e1 => ?_)
  refine x_callVv (As := [.int p1, .int p2]) dX7_goesNow_3 (aMet_of e1 (m_X7_goesIn hM p1 p2 S)) g_X7_goesNow_202 rfl hM.1 rfl dd_X7_goesIn rfl rfl (Nat.le_of_ble_eq_true rfl) (Nat.le_of_ble_eq_true rfl) (Nat.le_of_ble_eq_true rfl) ?_
  refine x_aload_n dX7_goesNow_6 rfl rfl ?_
  refine x_iload_n dX7_goesNow_7 rfl rfl ?_
  refine x_b (fun r2_ S2 e2 => ?_)
  refine x_callVv (As := [.int p1]) dX7_goesNow_8 (aMet_of e2 (m_X7_lays hM p1 S1)) g_X7_goesNow_205 rfl hM.1 rfl dd_X7_lays rfl rfl (Nat.le_of_ble_eq_true rfl) (Nat.le_of_ble_eq_true rfl) (Nat.le_of_ble_eq_true rfl) ?_
  exact x_vret dX7_goesNow_11 rfl
theorem dd_X7_goesNow : yX7_goesNow.cls = RX7 ∧ yX7_goesNow.cls ≠ "java/lang/invoke/MethodHandle" ∧ yX7_goesNow.cls ≠ "java/lang/invoke/VarHandle" ∧ (parseMethodDescriptor yX7_goesNow.desc).map (fun d => d.parameters.length) = some 2 := by decide +kernel
theorem g_X7_goes_138 : GoodIn uX7_goes (wsV yX7_goes.cls 138 RX7 yX7_isTree uX7_isTree) := gU_V (wU_r19 _ (List.mem_of_getElem? (i := 1) rfl)) (wU_r19 _ (List.mem_of_getElem? (i := 2) rfl)) (wU_r19 _ (List.mem_of_getElem? (i := 3) rfl)) (wU_r1 _ (List.mem_of_getElem? (i := 5) rfl)) (wU_r19 _ (List.mem_of_getElem? (i := 4) rfl))
theorem g_X7_goes_41 : GoodIn uX7_goes (va_wsS yX7_goes.cls 41 yX7_in uX7_in) := gU_S (wU_r6 _ (List.mem_of_getElem? (i := 4) rfl)) (wU_r6 _ (List.mem_of_getElem? (i := 5) rfl)) (wU_r1 _ (List.mem_of_getElem? (i := 5) rfl)) (wU_r6 _ (List.mem_of_getElem? (i := 6) rfl))
theorem g_X7_goes_183 : GoodIn uX7_goes (wsV yX7_goes.cls 183 RX7 yX7_isStanding uX7_isStanding) := gU_V (wU_r25 _ (List.mem_of_getElem? (i := 9) rfl)) (wU_r25 _ (List.mem_of_getElem? (i := 10) rfl)) (wU_r25 _ (List.mem_of_getElem? (i := 11) rfl)) (wU_r1 _ (List.mem_of_getElem? (i := 5) rfl)) (wU_r25 _ (List.mem_of_getElem? (i := 12) rfl))
theorem g_X7_goes_208 : GoodIn uX7_goes (wsV yX7_goes.cls 208 RX7 yX7_goesNow uX7_goesNow) := gU_V (wU_r25 _ (List.mem_of_getElem? (i := 13) rfl)) (wU_r25 _ (List.mem_of_getElem? (i := 14) rfl)) (wU_r25 _ (List.mem_of_getElem? (i := 15) rfl)) (wU_r1 _ (List.mem_of_getElem? (i := 5) rfl)) (wU_r25 _ (List.mem_of_getElem? (i := 16) rfl))
theorem w_X7_goes_f193 : Cond.fieldLink yX7_goes.cls 193 (TX7 22).1 (TX7 22).2.1 (TX7 22).2.2.1 ∈ uX7_goes := List.mem_cons_of_mem _ (wU_r25 _ (List.mem_of_getElem? (i := 8) rfl))
theorem w_X7_goes_f190 : Cond.fieldLink yX7_goes.cls 190 (TX7 21).1 (TX7 21).2.1 (TX7 21).2.2.1 ∈ uX7_goes := List.mem_cons_of_mem _ (wU_r25 _ (List.mem_of_getElem? (i := 7) rfl))
theorem w_X7_goes_f180 : Cond.fieldLink yX7_goes.cls 180 (TX7 19).1 (TX7 19).2.1 (TX7 19).2.2.1 ∈ uX7_goes := List.mem_cons_of_mem _ (wU_r25 _ (List.mem_of_getElem? (i := 6) rfl))
theorem w_X7_goes_f177 : Cond.fieldLink yX7_goes.cls 177 (TX7 18).1 (TX7 18).2.1 (TX7 18).2.2.1 ∈ uX7_goes := List.mem_cons_of_mem _ (wU_r25 _ (List.mem_of_getElem? (i := 5) rfl))
theorem w_X7_goes_f168 : Cond.fieldLink yX7_goes.cls 168 (TX7 17).1 (TX7 17).2.1 (TX7 17).2.2.1 ∈ uX7_goes := List.mem_cons_of_mem _ (wU_r25 _ (List.mem_of_getElem? (i := 4) rfl))
theorem w_X7_goes_f165 : Cond.fieldLink yX7_goes.cls 165 (TX7 16).1 (TX7 16).2.1 (TX7 16).2.2.1 ∈ uX7_goes := List.mem_cons_of_mem _ (wU_r25 _ (List.mem_of_getElem? (i := 3) rfl))
theorem w_X7_goes_f158 : Cond.fieldLink yX7_goes.cls 158 (TX7 15).1 (TX7 15).2.1 (TX7 15).2.2.1 ∈ uX7_goes := List.mem_cons_of_mem _ (wU_r25 _ (List.mem_of_getElem? (i := 2) rfl))
theorem w_X7_goes_f152 : Cond.fieldLink yX7_goes.cls 152 (TX7 14).1 (TX7 14).2.1 (TX7 14).2.2.1 ∈ uX7_goes := List.mem_cons_of_mem _ (wU_r25 _ (List.mem_of_getElem? (i := 1) rfl))
def f_X7_goes (p1 : Int32) (p2 : Int32) (S : aSt) : Option (Int32 × aSt) := (aB (f_X7_isTree p1 S) (fun r1_ S1 => (if r1_ = 0 then (some ((-10001 : Int32), S1)) else (aB (f_X7_in p2 (0 : Int32) (7 : Int32) S1) (fun r2_ S2 => (if r2_ = 0 then (some ((-10001 : Int32), S2)) else (aB (f_X7_isStanding p1 S2) (fun r3_ S3 => (if r3_ = 0 then (some ((-10002 : Int32), S3)) else (aB (f_X7_goesNow p1 (-1 : Int32) S3) (fun r4_ S4 => (if p2 = (0 : Int32) then (some ((S4.1 (0) 14), S4)) else (if p2 = (1 : Int32) then (some ((S4.1 (0) 15), S4)) else (if p2 = (2 : Int32) then (some ((S4.1 (0) 16), S4)) else (if p2 = (3 : Int32) then (some ((S4.1 (0) 17), S4)) else (if p2 = (4 : Int32) then (some ((S4.1 (0) 18), S4)) else (if p2 = (5 : Int32) then (some ((S4.1 (0) 19), S4)) else (if p2 = (6 : Int32) then (some ((S4.1 (0) 21), S4)) else (some ((S4.1 (0) 22), S4))))))))))))))))))))
set_option maxRecDepth 20000 in
set_option maxHeartbeats 4000000 in
theorem m_X7_goes {G : aG} (hM : aMo G) (p1 : Int32) (p2 : Int32) (S : aSt) : aMet G yX7_goes uX7_goes 6 mk_i (f_X7_goes p1 p2 S) [.ref (0), .int p1, .int p2] S := by
  refine x_met (cc := cX7_goes) (nL := 3) (ret := (some .int)) (L := [some (.ref (0)), some (.int p1), some (.int p2)]) (by decide +kernel) rfl (And.intro rfl (And.intro rfl (And.intro rfl trivial))) (Nat.le_of_ble_eq_true rfl) ?_
  unfold f_X7_goes
  refine x_aload_n dX7_goes_0 rfl rfl ?_
  refine x_iload_n dX7_goes_1 rfl rfl ?_
  refine x_b (fun r1_ S1 e1 => ?_)
  refine x_callVi (As := [.int p1]) dX7_goes_2 (aMet_of e1 (m_X7_isTree hM p1 S)) g_X7_goes_138 rfl hM.1 rfl dd_X7_isTree rfl rfl (Nat.le_of_ble_eq_true rfl) (Nat.le_of_ble_eq_true rfl) (Nat.le_of_ble_eq_true rfl) ?_
  refine x_if_eq (tgt := 18) dX7_goes_5 (by decide) ?_ ?_
  · refine x_sipush (-10001 : Int32) dX7_goes_18 (by decide) ?_
    exact x_iret dX7_goes_21 rfl
  · refine x_iload_n dX7_goes_8 rfl rfl ?_
    refine x_iconst (0 : Int32) dX7_goes_9 (by decide) ?_
    refine x_bipush (7 : Int32) dX7_goes_10 (by decide) ?_
    refine x_b (fun r2_ S2 e2 => ?_)
    refine x_callSi (As := [.int p2, .int (0 : Int32), .int (7 : Int32)]) dX7_goes_12 (aMet_of e2 (m_X7_in p2 (0 : Int32) (7 : Int32) S1)) g_X7_goes_41 rfl dd_X7_in rfl rfl (Nat.le_of_ble_eq_true rfl) (Nat.le_of_ble_eq_true rfl) (Nat.le_of_ble_eq_true rfl) ?_
    refine x_if_ne (tgt := 22) dX7_goes_15 (by decide) ?_ ?_
    · refine x_aload_n dX7_goes_22 rfl rfl ?_
      refine x_iload_n dX7_goes_23 rfl rfl ?_
      refine x_b (fun r3_ S3 e3 => ?_)
      refine x_callVi (As := [.int p1]) dX7_goes_24 (aMet_of e3 (m_X7_isStanding hM p1 S2)) g_X7_goes_183 rfl hM.1 rfl dd_X7_isStanding rfl rfl (Nat.le_of_ble_eq_true rfl) (Nat.le_of_ble_eq_true rfl) (Nat.le_of_ble_eq_true rfl) ?_
      refine x_if_ne (tgt := 34) dX7_goes_27 (by decide) ?_ ?_
      · refine x_aload_n dX7_goes_34 rfl rfl ?_
        refine x_iload_n dX7_goes_35 rfl rfl ?_
        refine x_iconst (-1 : Int32) dX7_goes_36 (by decide) ?_
        refine x_b (fun r4_ S4 e4 => ?_)
        refine x_callVv (As := [.int p1, .int (-1 : Int32)]) dX7_goes_37 (aMet_of e4 (m_X7_goesNow hM p1 (-1 : Int32) S3)) g_X7_goes_208 rfl hM.1 rfl dd_X7_goesNow rfl rfl (Nat.le_of_ble_eq_true rfl) (Nat.le_of_ble_eq_true rfl) (Nat.le_of_ble_eq_true rfl) ?_
        refine x_iload_n dX7_goes_40 rfl rfl ?_
        refine x_sw (0 : Int32) ?_ (fun hv0 => ?_)
        · refine x_tabIn (off := 43) (tgt := 84) dX7_goes_41 (by decide) (by decide) (by decide) (by decide) ?_
          refine x_aload_n dX7_goes_84 rfl rfl ?_
          refine x_getI (k := 0) (j := 14) dX7_goes_85 hM.1 rfl rfl (Nat.le_of_ble_eq_true rfl) (fun w h => List.mem_cons_of_mem _ (inlX7 w h)) w_X7_goes_f152 ?_
          exact x_iret dX7_goes_88 rfl
        · refine x_sw (1 : Int32) ?_ (fun hv1 => ?_)
          · refine x_tabIn (off := 48) (tgt := 89) dX7_goes_41 (by decide) (by decide) (by decide) (by decide) ?_
            refine x_aload_n dX7_goes_89 rfl rfl ?_
            refine x_getI (k := 0) (j := 15) dX7_goes_90 hM.1 rfl rfl (Nat.le_of_ble_eq_true rfl) (fun w h => List.mem_cons_of_mem _ (inlX7 w h)) w_X7_goes_f158 ?_
            exact x_iret dX7_goes_93 rfl
          · refine x_sw (2 : Int32) ?_ (fun hv2 => ?_)
            · refine x_tabIn (off := 53) (tgt := 94) dX7_goes_41 (by decide) (by decide) (by decide) (by decide) ?_
              refine x_aload_n dX7_goes_94 rfl rfl ?_
              refine x_getI (k := 0) (j := 16) dX7_goes_95 hM.1 rfl rfl (Nat.le_of_ble_eq_true rfl) (fun w h => List.mem_cons_of_mem _ (inlX7 w h)) w_X7_goes_f165 ?_
              exact x_iret dX7_goes_98 rfl
            · refine x_sw (3 : Int32) ?_ (fun hv3 => ?_)
              · refine x_tabIn (off := 58) (tgt := 99) dX7_goes_41 (by decide) (by decide) (by decide) (by decide) ?_
                refine x_aload_n dX7_goes_99 rfl rfl ?_
                refine x_getI (k := 0) (j := 17) dX7_goes_100 hM.1 rfl rfl (Nat.le_of_ble_eq_true rfl) (fun w h => List.mem_cons_of_mem _ (inlX7 w h)) w_X7_goes_f168 ?_
                exact x_iret dX7_goes_103 rfl
              · refine x_sw (4 : Int32) ?_ (fun hv4 => ?_)
                · refine x_tabIn (off := 63) (tgt := 104) dX7_goes_41 (by decide) (by decide) (by decide) (by decide) ?_
                  refine x_aload_n dX7_goes_104 rfl rfl ?_
                  refine x_getI (k := 0) (j := 18) dX7_goes_105 hM.1 rfl rfl (Nat.le_of_ble_eq_true rfl) (fun w h => List.mem_cons_of_mem _ (inlX7 w h)) w_X7_goes_f177 ?_
                  exact x_iret dX7_goes_108 rfl
                · refine x_sw (5 : Int32) ?_ (fun hv5 => ?_)
                  · refine x_tabIn (off := 68) (tgt := 109) dX7_goes_41 (by decide) (by decide) (by decide) (by decide) ?_
                    refine x_aload_n dX7_goes_109 rfl rfl ?_
                    refine x_getI (k := 0) (j := 19) dX7_goes_110 hM.1 rfl rfl (Nat.le_of_ble_eq_true rfl) (fun w h => List.mem_cons_of_mem _ (inlX7 w h)) w_X7_goes_f180 ?_
                    exact x_iret dX7_goes_113 rfl
                  · refine x_sw (6 : Int32) ?_ (fun hv6 => ?_)
                    · refine x_tabIn (off := 73) (tgt := 114) dX7_goes_41 (by decide) (by decide) (by decide) (by decide) ?_
                      refine x_aload_n dX7_goes_114 rfl rfl ?_
                      refine x_getI (k := 0) (j := 21) dX7_goes_115 hM.1 rfl rfl (Nat.le_of_ble_eq_true rfl) (fun w h => List.mem_cons_of_mem _ (inlX7 w h)) w_X7_goes_f190 ?_
                      exact x_iret dX7_goes_118 rfl
                    · refine x_tabOut (tgt := 119) dX7_goes_41 (a_out 7 [(0 : Int32), (1 : Int32), (2 : Int32), (3 : Int32), (4 : Int32), (5 : Int32), (6 : Int32)] (by decide) (by decide +kernel) (List.forall_mem_cons.mpr ⟨hv0, (List.forall_mem_cons.mpr ⟨hv1, (List.forall_mem_cons.mpr ⟨hv2, (List.forall_mem_cons.mpr ⟨hv3, (List.forall_mem_cons.mpr ⟨hv4, (List.forall_mem_cons.mpr ⟨hv5, (List.forall_mem_cons.mpr ⟨hv6, (fun _ h => absurd h List.not_mem_nil)⟩)⟩)⟩)⟩)⟩)⟩)⟩)) (by decide) ?_
                      refine x_aload_n dX7_goes_119 rfl rfl ?_
                      refine x_getI (k := 0) (j := 22) dX7_goes_120 hM.1 rfl rfl (Nat.le_of_ble_eq_true rfl) (fun w h => List.mem_cons_of_mem _ (inlX7 w h)) w_X7_goes_f193 ?_
                      exact x_iret dX7_goes_123 rfl
      · refine x_sipush (-10002 : Int32) dX7_goes_30 (by decide) ?_
        exact x_iret dX7_goes_33 rfl
    · refine x_sipush (-10001 : Int32) dX7_goes_18 (by decide) ?_
      exact x_iret dX7_goes_21 rfl
theorem g_X7_lies_138 : GoodIn uX7_lies (wsV yX7_lies.cls 138 RX7 yX7_isTree uX7_isTree) := gU_V (wU_r19 _ (List.mem_of_getElem? (i := 1) rfl)) (wU_r19 _ (List.mem_of_getElem? (i := 2) rfl)) (wU_r19 _ (List.mem_of_getElem? (i := 3) rfl)) (wU_r1 _ (List.mem_of_getElem? (i := 5) rfl)) (wU_r19 _ (List.mem_of_getElem? (i := 4) rfl))
theorem w_X7_lies_k211 : Cond.constantLong yX7_lies.cls 211 (-9223372036854775808 : Int64) ∈ uX7_lies := List.mem_cons_of_mem _ (wU_r27 _ (List.mem_of_getElem? (i := 15) rfl))
theorem g_X7_lies_183 : GoodIn uX7_lies (wsV yX7_lies.cls 183 RX7 yX7_isStanding uX7_isStanding) := gU_V (wU_r25 _ (List.mem_of_getElem? (i := 9) rfl)) (wU_r25 _ (List.mem_of_getElem? (i := 10) rfl)) (wU_r25 _ (List.mem_of_getElem? (i := 11) rfl)) (wU_r1 _ (List.mem_of_getElem? (i := 5) rfl)) (wU_r25 _ (List.mem_of_getElem? (i := 12) rfl))
theorem g_X7_lies_208 : GoodIn uX7_lies (wsV yX7_lies.cls 208 RX7 yX7_goesNow uX7_goesNow) := gU_V (wU_r25 _ (List.mem_of_getElem? (i := 13) rfl)) (wU_r25 _ (List.mem_of_getElem? (i := 14) rfl)) (wU_r25 _ (List.mem_of_getElem? (i := 15) rfl)) (wU_r1 _ (List.mem_of_getElem? (i := 5) rfl)) (wU_r25 _ (List.mem_of_getElem? (i := 16) rfl))
theorem w_X7_lies_f186 : Cond.fieldLink yX7_lies.cls 186 (TX7 20).1 (TX7 20).2.1 (TX7 20).2.2.1 ∈ uX7_lies := List.mem_cons_of_mem _ (wU_r26 _ (List.mem_of_getElem? (i := 22) rfl))
def f_X7_lies (p1 : Int32) (S : aSt) : Option (Int64 × aSt) := (aB (f_X7_isTree p1 S) (fun r1_ S1 => (if r1_ = 0 then (some ((-9223372036854775808 : Int64), S1)) else (aB (f_X7_isStanding p1 S1) (fun r2_ S2 => (if r2_ = 0 then (some ((-9223372036854775808 : Int64), S2)) else (aB (f_X7_goesNow p1 (-1 : Int32) S2) (fun r3_ S3 => (some ((S3.2 (0) 20), S3))))))))))
set_option maxRecDepth 20000 in
set_option maxHeartbeats 4000000 in
theorem m_X7_lies {G : aG} (hM : aMo G) (p1 : Int32) (S : aSt) : aMet G yX7_lies uX7_lies 6 mk_l (f_X7_lies p1 S) [.ref (0), .int p1] S := by
  refine x_met (cc := cX7_lies) (nL := 2) (ret := (some .long)) (L := [some (.ref (0)), some (.int p1)]) (by decide +kernel) rfl (And.intro rfl (And.intro rfl trivial)) (Nat.le_of_ble_eq_true rfl) ?_
  unfold f_X7_lies
  refine x_aload_n dX7_lies_0 rfl rfl ?_
  refine x_iload_n dX7_lies_1 rfl rfl ?_
  refine x_b (fun r1_ S1 e1 => ?_)
  refine x_callVi (As := [.int p1]) dX7_lies_2 (aMet_of e1 (m_X7_isTree hM p1 S)) g_X7_lies_138 rfl hM.1 rfl dd_X7_isTree rfl rfl (Nat.le_of_ble_eq_true rfl) (Nat.le_of_ble_eq_true rfl) (Nat.le_of_ble_eq_true rfl) ?_
  refine x_if_eq (tgt := 16) dX7_lies_5 (by decide) ?_ ?_
  · refine x_ldc2 (v := (-9223372036854775808 : Int64)) dX7_lies_16 w_X7_lies_k211 ?_
    exact x_lret dX7_lies_19 rfl
  · refine x_aload_n dX7_lies_8 rfl rfl ?_
    refine x_iload_n dX7_lies_9 rfl rfl ?_
    refine x_b (fun r2_ S2 e2 => ?_)
    refine x_callVi (As := [.int p1]) dX7_lies_10 (aMet_of e2 (m_X7_isStanding hM p1 S1)) g_X7_lies_183 rfl hM.1 rfl dd_X7_isStanding rfl rfl (Nat.le_of_ble_eq_true rfl) (Nat.le_of_ble_eq_true rfl) (Nat.le_of_ble_eq_true rfl) ?_
    refine x_if_ne (tgt := 20) dX7_lies_13 (by decide) ?_ ?_
    · refine x_aload_n dX7_lies_20 rfl rfl ?_
      refine x_iload_n dX7_lies_21 rfl rfl ?_
      refine x_iconst (-1 : Int32) dX7_lies_22 (by decide) ?_
      refine x_b (fun r3_ S3 e3 => ?_)
      refine x_callVv (As := [.int p1, .int (-1 : Int32)]) dX7_lies_23 (aMet_of e3 (m_X7_goesNow hM p1 (-1 : Int32) S2)) g_X7_lies_208 rfl hM.1 rfl dd_X7_goesNow rfl rfl (Nat.le_of_ble_eq_true rfl) (Nat.le_of_ble_eq_true rfl) (Nat.le_of_ble_eq_true rfl) ?_
      refine x_aload_n dX7_lies_26 rfl rfl ?_
      refine x_getJ (k := 0) (j := 20) dX7_lies_27 hM.1 rfl rfl (Nat.le_of_ble_eq_true rfl) (fun w h => List.mem_cons_of_mem _ (inlX7 w h)) w_X7_lies_f186 ?_
      exact x_lret dX7_lies_30 rfl
    · refine x_ldc2 (v := (-9223372036854775808 : Int64)) dX7_lies_16 w_X7_lies_k211 ?_
      exact x_lret dX7_lies_19 rfl
theorem g_X7_fell_138 : GoodIn uX7_fell (wsV yX7_fell.cls 138 RX7 yX7_isTree uX7_isTree) := gU_V (wU_r19 _ (List.mem_of_getElem? (i := 1) rfl)) (wU_r19 _ (List.mem_of_getElem? (i := 2) rfl)) (wU_r19 _ (List.mem_of_getElem? (i := 3) rfl)) (wU_r1 _ (List.mem_of_getElem? (i := 5) rfl)) (wU_r19 _ (List.mem_of_getElem? (i := 4) rfl))
theorem g_X7_fell_183 : GoodIn uX7_fell (wsV yX7_fell.cls 183 RX7 yX7_isStanding uX7_isStanding) := gU_V (wU_r25 _ (List.mem_of_getElem? (i := 9) rfl)) (wU_r25 _ (List.mem_of_getElem? (i := 10) rfl)) (wU_r25 _ (List.mem_of_getElem? (i := 11) rfl)) (wU_r1 _ (List.mem_of_getElem? (i := 5) rfl)) (wU_r25 _ (List.mem_of_getElem? (i := 12) rfl))
theorem g_X7_fell_208 : GoodIn uX7_fell (wsV yX7_fell.cls 208 RX7 yX7_goesNow uX7_goesNow) := gU_V (wU_r25 _ (List.mem_of_getElem? (i := 13) rfl)) (wU_r25 _ (List.mem_of_getElem? (i := 14) rfl)) (wU_r25 _ (List.mem_of_getElem? (i := 15) rfl)) (wU_r1 _ (List.mem_of_getElem? (i := 5) rfl)) (wU_r25 _ (List.mem_of_getElem? (i := 16) rfl))
theorem w_X7_fell_f9 : Cond.fieldLink yX7_fell.cls 9 (TX7 1).1 (TX7 1).2.1 (TX7 1).2.2.1 ∈ uX7_fell := List.mem_cons_of_mem _ (wU_r4 _ (List.mem_of_getElem? (i := 14) rfl))
theorem w_X7_fell_f177 : Cond.fieldLink yX7_fell.cls 177 (TX7 18).1 (TX7 18).2.1 (TX7 18).2.2.1 ∈ uX7_fell := List.mem_cons_of_mem _ (wU_r25 _ (List.mem_of_getElem? (i := 5) rfl))
def f_X7_fell_49  (s0 : Int32) (s1 : Int32) (s2 : Nat) (S : aSt) : Option (Int32 × aSt) := (if s1 < 0 ∨ 979 ≤ (s1).toNatClampNeg then none else (aLt (aUi S (s2) (s1).toNatClampNeg s0) (fun S4 => (some ((S4.1 (0) 18), S4)))))
set_option maxRecDepth 20000 in
set_option maxHeartbeats 4000000 in
theorem v_X7_fell_49 {G : aG} (hM : aMo G) (s0 : Int32) (s1 : Int32) (s2 : Nat) (qs2 : G.2.2.2.2[s2]? = some (.inl (0, 979, none))) (S : aSt) : aX G yX7_fell cX7_fell 2 (some .int) uX7_fell 6 mk_i (f_X7_fell_49 s0 s1 s2 S) 49 [some (.ref (0)), none] [.int s0, .int s1, .ref (s2)] S := by
  unfold f_X7_fell_49
  refine x_iast dX7_fell_49 qs2 ?_
  refine x_ltS (fun S4 => ?_)
  refine x_aload_n dX7_fell_50 rfl rfl ?_
  refine x_getI (k := 0) (j := 18) dX7_fell_51 hM.1 rfl rfl (Nat.le_of_ble_eq_true rfl) (fun w h => List.mem_cons_of_mem _ (inlX7 w h)) w_X7_fell_f177 ?_
  exact x_iret dX7_fell_54 rfl
def f_X7_fell (p1 : Int32) (S : aSt) : Option (Int32 × aSt) := (aB (f_X7_isTree p1 S) (fun r1_ S1 => (if r1_ = 0 then (some ((-1 : Int32), S1)) else (aB (f_X7_isStanding p1 S1) (fun r2_ S2 => (if r2_ = 0 then (some ((-3 : Int32), S2)) else (aB (f_X7_goesNow p1 (-1 : Int32) S2) (fun r3_ S3 => (if (S3.1 (0) 18) = (2 : Int32) then (f_X7_fell_49 (1 : Int32) ((152 : Int32) + p1) (1) S3) else (f_X7_fell_49 (0 : Int32) ((152 : Int32) + p1) (1) S3))))))))))
set_option maxRecDepth 20000 in
set_option maxHeartbeats 4000000 in
theorem m_X7_fell {G : aG} (hM : aMo G) (p1 : Int32) (S : aSt) : aMet G yX7_fell uX7_fell 6 mk_i (f_X7_fell p1 S) [.ref (0), .int p1] S := by
  refine x_met (cc := cX7_fell) (nL := 2) (ret := (some .int)) (L := [some (.ref (0)), some (.int p1)]) (by decide +kernel) rfl (And.intro rfl (And.intro rfl trivial)) (Nat.le_of_ble_eq_true rfl) ?_
  unfold f_X7_fell
  refine x_aload_n dX7_fell_0 rfl rfl ?_
  refine x_iload_n dX7_fell_1 rfl rfl ?_
  refine x_b (fun r1_ S1 e1 => ?_)
  refine x_callVi (As := [.int p1]) dX7_fell_2 (aMet_of e1 (m_X7_isTree hM p1 S)) g_X7_fell_138 rfl hM.1 rfl dd_X7_isTree rfl rfl (Nat.le_of_ble_eq_true rfl) (Nat.le_of_ble_eq_true rfl) (Nat.le_of_ble_eq_true rfl) ?_
  refine x_if_ne (tgt := 10) dX7_fell_5 (by decide) ?_ ?_
  · refine x_aload_n dX7_fell_10 rfl rfl ?_
    refine x_iload_n dX7_fell_11 rfl rfl ?_
    refine x_b (fun r2_ S2 e2 => ?_)
    refine x_callVi (As := [.int p1]) dX7_fell_12 (aMet_of e2 (m_X7_isStanding hM p1 S1)) g_X7_fell_183 rfl hM.1 rfl dd_X7_isStanding rfl rfl (Nat.le_of_ble_eq_true rfl) (Nat.le_of_ble_eq_true rfl) (Nat.le_of_ble_eq_true rfl) ?_
    refine x_if_ne (tgt := 21) dX7_fell_15 (by decide) ?_ ?_
    · refine x_aload_n dX7_fell_21 rfl rfl ?_
      refine x_iload_n dX7_fell_22 rfl rfl ?_
      refine x_iconst (-1 : Int32) dX7_fell_23 (by decide) ?_
      refine x_b (fun r3_ S3 e3 => ?_)
      refine x_callVv (As := [.int p1, .int (-1 : Int32)]) dX7_fell_24 (aMet_of e3 (m_X7_goesNow hM p1 (-1 : Int32) S2)) g_X7_fell_208 rfl hM.1 rfl dd_X7_goesNow rfl rfl (Nat.le_of_ble_eq_true rfl) (Nat.le_of_ble_eq_true rfl) (Nat.le_of_ble_eq_true rfl) ?_
      refine x_aload_n dX7_fell_27 rfl rfl ?_
      refine x_getR (r := 1) (k := 0) (j := 1) dX7_fell_28 hM.1 rfl rfl (Nat.le_of_ble_eq_true rfl) (fun w h => List.mem_cons_of_mem _ (inlX7 w h)) w_X7_fell_f9 ?_
      refine x_sipush (152 : Int32) dX7_fell_31 (by decide) ?_
      refine x_iload_n dX7_fell_34 rfl rfl ?_
      refine x_iadd dX7_fell_35 ?_
      refine x_aload_n dX7_fell_36 rfl rfl ?_
      refine x_getI (k := 0) (j := 18) dX7_fell_37 hM.1 rfl rfl (Nat.le_of_ble_eq_true rfl) (fun w h => List.mem_cons_of_mem _ (inlX7 w h)) w_X7_fell_f177 ?_
      refine x_iconst (2 : Int32) dX7_fell_40 (by decide) ?_
      refine x_icmp_ne (tgt := 48) dX7_fell_41 (by decide) ?_ ?_
      · refine x_iconst (0 : Int32) dX7_fell_48 (by decide) ?_
        exact x_le (v_X7_fell_49 hM (0 : Int32) ((152 : Int32) + p1) (1) hM.2.1 S3) (And.intro rfl trivial)
      · refine x_iconst (1 : Int32) dX7_fell_44 (by decide) ?_
        refine x_goto (tgt := 49) dX7_fell_45 (by decide) ?_
        exact x_le (v_X7_fell_49 hM (1 : Int32) ((152 : Int32) + p1) (1) hM.2.1 S3) (And.intro rfl trivial)
    · refine x_bipush (-3 : Int32) dX7_fell_18 (by decide) ?_
      exact x_iret dX7_fell_20 rfl
  · refine x_iconst (-1 : Int32) dX7_fell_8 (by decide) ?_
    exact x_iret dX7_fell_9 rfl
theorem w_X7_keepsPlans_f25 : Cond.fieldLink yX7_keepsPlans.cls 25 (TX7 23).1 (TX7 23).2.1 (TX7 23).2.2.1 ∈ uX7_keepsPlans := List.mem_cons_of_mem _ (wU_r4 _ (List.mem_of_getElem? (i := 19) rfl))
theorem w_X7_keepsPlans_f9 : Cond.fieldLink yX7_keepsPlans.cls 9 (TX7 1).1 (TX7 1).2.1 (TX7 1).2.2.1 ∈ uX7_keepsPlans := List.mem_cons_of_mem _ (wU_r4 _ (List.mem_of_getElem? (i := 14) rfl))
def f_X7_keepsPlans_2  : Nat → Int32 → aSt → Option (Unit × aSt)
  | 0, _, _ => none
  | n + 1, l1, S => (if (36 : Int32) ≤ l1 then (some ((), S)) else (if ((158 : Int32) + l1) < 0 ∨ 979 ≤ (((158 : Int32) + l1)).toNatClampNeg then none else (if l1 < 0 ∨ 36 ≤ (l1).toNatClampNeg then none else (aLt (aUi S (5) (l1).toNatClampNeg (S.1 (1) (((158 : Int32) + l1)).toNatClampNeg)) (fun S1 => (aLt (l1 + (1 : Int32)) (fun x2 => (f_X7_keepsPlans_2 n x2 S1))))))))
set_option maxRecDepth 20000 in
set_option maxHeartbeats 4000000 in
theorem v_X7_keepsPlans_2 {G : aG} (hM : aMo G) : ∀ (n : Nat) (l1 : Int32) (S : aSt), aX G yX7_keepsPlans cX7_keepsPlans 2 none uX7_keepsPlans 2 mk_v (f_X7_keepsPlans_2 n l1 S) 2 [some (.ref (0)), some (.int l1)] [] S := by
  intro n
  induction n with
  | zero => intro l1 S; exact x_none
  | succ n ih =>
    intro l1 S
    unfold f_X7_keepsPlans_2
    refine x_iload_n dX7_keepsPlans_2 rfl rfl ?_
    refine x_bipush (36 : Int32) dX7_keepsPlans_3 (by decide) ?_
    refine x_icmp_ge (tgt := 30) dX7_keepsPlans_5 (by decide) ?_ ?_
    · exact x_vret dX7_keepsPlans_30 rfl
    · refine x_aload_n dX7_keepsPlans_8 rfl rfl ?_
      refine x_getR (r := 5) (k := 0) (j := 23) dX7_keepsPlans_9 hM.1 rfl rfl (Nat.le_of_ble_eq_true rfl) (fun w h => List.mem_cons_of_mem _ (inlX7 w h)) w_X7_keepsPlans_f25 ?_
      refine x_iload_n dX7_keepsPlans_12 rfl rfl ?_
      refine x_aload_n dX7_keepsPlans_13 rfl rfl ?_
      refine x_getR (r := 1) (k := 0) (j := 1) dX7_keepsPlans_14 hM.1 rfl rfl (Nat.le_of_ble_eq_true rfl) (fun w h => List.mem_cons_of_mem _ (inlX7 w h)) w_X7_keepsPlans_f9 ?_
      refine x_sipush (158 : Int32) dX7_keepsPlans_17 (by decide) ?_
      refine x_iload_n dX7_keepsPlans_20 rfl rfl ?_
      refine x_iadd dX7_keepsPlans_21 ?_
      refine x_iald dX7_keepsPlans_22 hM.2.1 ?_
      refine x_iast dX7_keepsPlans_23 hM.2.2.2.2.2.1 ?_
      refine x_ltS (fun S1 => ?_)
      refine x_iincL (w := (1 : Int32)) dX7_keepsPlans_24 rfl (by decide) (Nat.le_of_ble_eq_true rfl) rfl (fun x2 => ?_)
      refine x_goto (tgt := 2) dX7_keepsPlans_27 (by decide) ?_
      exact x_le (ih x2 S1) (And.intro rfl (And.intro rfl trivial))
def f_X7_keepsPlans  (S : aSt) : Option (Unit × aSt) := (f_X7_keepsPlans_2 aF (0 : Int32) S)
set_option maxRecDepth 20000 in
set_option maxHeartbeats 4000000 in
theorem m_X7_keepsPlans {G : aG} (hM : aMo G)  (S : aSt) : aMet G yX7_keepsPlans uX7_keepsPlans 2 mk_v (f_X7_keepsPlans S) [.ref (0)] S := by
  refine x_met (cc := cX7_keepsPlans) (nL := 2) (ret := none) (L := [some (.ref (0)), none]) (by decide +kernel) rfl (And.intro rfl trivial) (Nat.le_of_ble_eq_true rfl) ?_
  unfold f_X7_keepsPlans
  refine x_iconst (0 : Int32) dX7_keepsPlans_0 (by decide) ?_
  refine x_istore_n dX7_keepsPlans_1 rfl (Nat.le_of_ble_eq_true rfl) rfl ?_
  exact x_le (v_X7_keepsPlans_2 hM aF (0 : Int32) S) (And.intro rfl (And.intro rfl trivial))
theorem w_X7_putsPlansBack_f9 : Cond.fieldLink yX7_putsPlansBack.cls 9 (TX7 1).1 (TX7 1).2.1 (TX7 1).2.2.1 ∈ uX7_putsPlansBack := List.mem_cons_of_mem _ (wU_r4 _ (List.mem_of_getElem? (i := 14) rfl))
theorem w_X7_putsPlansBack_f25 : Cond.fieldLink yX7_putsPlansBack.cls 25 (TX7 23).1 (TX7 23).2.1 (TX7 23).2.2.1 ∈ uX7_putsPlansBack := List.mem_cons_of_mem _ (wU_r4 _ (List.mem_of_getElem? (i := 19) rfl))
def f_X7_putsPlansBack_2  : Nat → Int32 → aSt → Option (Unit × aSt)
  | 0, _, _ => none
  | n + 1, l1, S => (if (36 : Int32) ≤ l1 then (some ((), S)) else (if l1 < 0 ∨ 36 ≤ (l1).toNatClampNeg then none else (if ((158 : Int32) + l1) < 0 ∨ 979 ≤ (((158 : Int32) + l1)).toNatClampNeg then none else (aLt (aUi S (1) (((158 : Int32) + l1)).toNatClampNeg (S.1 (5) (l1).toNatClampNeg)) (fun S1 => (aLt (l1 + (1 : Int32)) (fun x2 => (f_X7_putsPlansBack_2 n x2 S1))))))))
set_option maxRecDepth 20000 in
set_option maxHeartbeats 4000000 in
theorem v_X7_putsPlansBack_2 {G : aG} (hM : aMo G) : ∀ (n : Nat) (l1 : Int32) (S : aSt), aX G yX7_putsPlansBack cX7_putsPlansBack 2 none uX7_putsPlansBack 2 mk_v (f_X7_putsPlansBack_2 n l1 S) 2 [some (.ref (0)), some (.int l1)] [] S := by
  intro n
  induction n with
  | zero => intro l1 S; exact x_none
  | succ n ih =>
    intro l1 S
    unfold f_X7_putsPlansBack_2
    refine x_iload_n dX7_putsPlansBack_2 rfl rfl ?_
    refine x_bipush (36 : Int32) dX7_putsPlansBack_3 (by decide) ?_
    refine x_icmp_ge (tgt := 30) dX7_putsPlansBack_5 (by decide) ?_ ?_
    · exact x_vret dX7_putsPlansBack_30 rfl
    · refine x_aload_n dX7_putsPlansBack_8 rfl rfl ?_
      refine x_getR (r := 1) (k := 0) (j := 1) dX7_putsPlansBack_9 hM.1 rfl rfl (Nat.le_of_ble_eq_true rfl) (fun w h => List.mem_cons_of_mem _ (inlX7 w h)) w_X7_putsPlansBack_f9 ?_
      refine x_sipush (158 : Int32) dX7_putsPlansBack_12 (by decide) ?_
      refine x_iload_n dX7_putsPlansBack_15 rfl rfl ?_
      refine x_iadd dX7_putsPlansBack_16 ?_
      refine x_aload_n dX7_putsPlansBack_17 rfl rfl ?_
      refine x_getR (r := 5) (k := 0) (j := 23) dX7_putsPlansBack_18 hM.1 rfl rfl (Nat.le_of_ble_eq_true rfl) (fun w h => List.mem_cons_of_mem _ (inlX7 w h)) w_X7_putsPlansBack_f25 ?_
      refine x_iload_n dX7_putsPlansBack_21 rfl rfl ?_
      refine x_iald dX7_putsPlansBack_22 hM.2.2.2.2.2.1 ?_
      refine x_iast dX7_putsPlansBack_23 hM.2.1 ?_
      refine x_ltS (fun S1 => ?_)
      refine x_iincL (w := (1 : Int32)) dX7_putsPlansBack_24 rfl (by decide) (Nat.le_of_ble_eq_true rfl) rfl (fun x2 => ?_)
      refine x_goto (tgt := 2) dX7_putsPlansBack_27 (by decide) ?_
      exact x_le (ih x2 S1) (And.intro rfl (And.intro rfl trivial))
def f_X7_putsPlansBack  (S : aSt) : Option (Unit × aSt) := (f_X7_putsPlansBack_2 aF (0 : Int32) S)
set_option maxRecDepth 20000 in
set_option maxHeartbeats 4000000 in
theorem m_X7_putsPlansBack {G : aG} (hM : aMo G)  (S : aSt) : aMet G yX7_putsPlansBack uX7_putsPlansBack 2 mk_v (f_X7_putsPlansBack S) [.ref (0)] S := by
  refine x_met (cc := cX7_putsPlansBack) (nL := 2) (ret := none) (L := [some (.ref (0)), none]) (by decide +kernel) rfl (And.intro rfl trivial) (Nat.le_of_ble_eq_true rfl) ?_
  unfold f_X7_putsPlansBack
  refine x_iconst (0 : Int32) dX7_putsPlansBack_0 (by decide) ?_
  refine x_istore_n dX7_putsPlansBack_1 rfl (Nat.le_of_ble_eq_true rfl) rfl ?_
  exact x_le (v_X7_putsPlansBack_2 hM aF (0 : Int32) S) (And.intro rfl (And.intro rfl trivial))
theorem w_X7_plans_f9 : Cond.fieldLink yX7_plans.cls 9 (TX7 1).1 (TX7 1).2.1 (TX7 1).2.2.1 ∈ uX7_plans := List.mem_cons_of_mem _ (wU_r4 _ (List.mem_of_getElem? (i := 14) rfl))
def f_X7_plans (p1 : Int32) (p2 : Int32) (p3 : Int32) (p4 : Int32) (p5 : Int32) (S : aSt) : Option (Unit × aSt) := (aLt ((158 : Int32) + ((6 : Int32) * p1)) (fun x1 => (if x1 < 0 ∨ 979 ≤ (x1).toNatClampNeg then none else (aLt (aUi S (1) (x1).toNatClampNeg p2) (fun S2 => (if (x1 + (1 : Int32)) < 0 ∨ 979 ≤ ((x1 + (1 : Int32))).toNatClampNeg then none else (aLt (aUi S2 (1) ((x1 + (1 : Int32))).toNatClampNeg p3) (fun S3 => (if (x1 + (2 : Int32)) < 0 ∨ 979 ≤ ((x1 + (2 : Int32))).toNatClampNeg then none else (aLt (aUi S3 (1) ((x1 + (2 : Int32))).toNatClampNeg p4) (fun S4 => (if (x1 + (3 : Int32)) < 0 ∨ 979 ≤ ((x1 + (3 : Int32))).toNatClampNeg then none else (aLt (aUi S4 (1) ((x1 + (3 : Int32))).toNatClampNeg p5) (fun S5 => (if (x1 + (4 : Int32)) < 0 ∨ 979 ≤ ((x1 + (4 : Int32))).toNatClampNeg then none else (aLt (aUi S5 (1) ((x1 + (4 : Int32))).toNatClampNeg (0 : Int32)) (fun S6 => (if (x1 + (5 : Int32)) < 0 ∨ 979 ≤ ((x1 + (5 : Int32))).toNatClampNeg then none else (aLt (aUi S6 (1) ((x1 + (5 : Int32))).toNatClampNeg (0 : Int32)) (fun S7 => (some ((), S7))))))))))))))))))))))
set_option maxRecDepth 20000 in
set_option maxHeartbeats 4000000 in
theorem m_X7_plans {G : aG} (hM : aMo G) (p1 : Int32) (p2 : Int32) (p3 : Int32) (p4 : Int32) (p5 : Int32) (S : aSt) : aMet G yX7_plans uX7_plans 2 mk_v (f_X7_plans p1 p2 p3 p4 p5 S) [.ref (0), .int p1, .int p2, .int p3, .int p4, .int p5] S := by
  refine x_met (cc := cX7_plans) (nL := 7) (ret := none) (L := [some (.ref (0)), some (.int p1), some (.int p2), some (.int p3), some (.int p4), some (.int p5), none]) (by decide +kernel) rfl (And.intro rfl (And.intro rfl (And.intro rfl (And.intro rfl (And.intro rfl (And.intro rfl trivial)))))) (Nat.le_of_ble_eq_true rfl) ?_
  unfold f_X7_plans
  refine x_sipush (158 : Int32) dX7_plans_0 (by decide) ?_
  refine x_bipush (6 : Int32) dX7_plans_3 (by decide) ?_
  refine x_iload_n dX7_plans_5 rfl rfl ?_
  refine x_imul dX7_plans_6 ?_
  refine x_iadd dX7_plans_7 ?_
  refine x_lti (fun x1 => ?_)
  refine x_istore dX7_plans_8 (Nat.le_of_ble_eq_true rfl) rfl ?_
  refine x_aload_n dX7_plans_10 rfl rfl ?_
  refine x_getR (r := 1) (k := 0) (j := 1) dX7_plans_11 hM.1 rfl rfl (Nat.le_of_ble_eq_true rfl) (fun w h => List.mem_cons_of_mem _ (inlX7 w h)) w_X7_plans_f9 ?_
  refine x_iload dX7_plans_14 rfl ?_
  refine x_iload_n dX7_plans_16 rfl rfl ?_
  refine x_iast dX7_plans_17 hM.2.1 ?_
  refine x_ltS (fun S2 => ?_)
  refine x_aload_n dX7_plans_18 rfl rfl ?_
  refine x_getR (r := 1) (k := 0) (j := 1) dX7_plans_19 hM.1 rfl rfl (Nat.le_of_ble_eq_true rfl) (fun w h => List.mem_cons_of_mem _ (inlX7 w h)) w_X7_plans_f9 ?_
  refine x_iload dX7_plans_22 rfl ?_
  refine x_iconst (1 : Int32) dX7_plans_24 (by decide) ?_
  refine x_iadd dX7_plans_25 ?_
  refine x_iload_n dX7_plans_26 rfl rfl ?_
  refine x_iast dX7_plans_27 hM.2.1 ?_
  refine x_ltS (fun S3 => ?_)
  refine x_aload_n dX7_plans_28 rfl rfl ?_
  refine x_getR (r := 1) (k := 0) (j := 1) dX7_plans_29 hM.1 rfl rfl (Nat.le_of_ble_eq_true rfl) (fun w h => List.mem_cons_of_mem _ (inlX7 w h)) w_X7_plans_f9 ?_
  refine x_iload dX7_plans_32 rfl ?_
  refine x_iconst (2 : Int32) dX7_plans_34 (by decide) ?_
  refine x_iadd dX7_plans_35 ?_
  refine x_iload dX7_plans_36 rfl ?_
  refine x_iast dX7_plans_38 hM.2.1 ?_
  refine x_ltS (fun S4 => ?_)
  refine x_aload_n dX7_plans_39 rfl rfl ?_
  refine x_getR (r := 1) (k := 0) (j := 1) dX7_plans_40 hM.1 rfl rfl (Nat.le_of_ble_eq_true rfl) (fun w h => List.mem_cons_of_mem _ (inlX7 w h)) w_X7_plans_f9 ?_
  refine x_iload dX7_plans_43 rfl ?_
  refine x_iconst (3 : Int32) dX7_plans_45 (by decide) ?_
  refine x_iadd dX7_plans_46 ?_
  refine x_iload dX7_plans_47 rfl ?_
  refine x_iast dX7_plans_49 hM.2.1 ?_
  refine x_ltS (fun S5 => ?_)
  refine x_aload_n dX7_plans_50 rfl rfl ?_
  refine x_getR (r := 1) (k := 0) (j := 1) dX7_plans_51 hM.1 rfl rfl (Nat.le_of_ble_eq_true rfl) (fun w h => List.mem_cons_of_mem _ (inlX7 w h)) w_X7_plans_f9 ?_
  refine x_iload dX7_plans_54 rfl ?_
  refine x_iconst (4 : Int32) dX7_plans_56 (by decide) ?_
  refine x_iadd dX7_plans_57 ?_
  refine x_iconst (0 : Int32) dX7_plans_58 (by decide) ?_
  refine x_iast dX7_plans_59 hM.2.1 ?_
  refine x_ltS (fun S6 => ?_)
  refine x_aload_n dX7_plans_60 rfl rfl ?_
  refine x_getR (r := 1) (k := 0) (j := 1) dX7_plans_61 hM.1 rfl rfl (Nat.le_of_ble_eq_true rfl) (fun w h => List.mem_cons_of_mem _ (inlX7 w h)) w_X7_plans_f9 ?_
  refine x_iload dX7_plans_64 rfl ?_
  refine x_iconst (5 : Int32) dX7_plans_66 (by decide) ?_
  refine x_iadd dX7_plans_67 ?_
  refine x_iconst (0 : Int32) dX7_plans_68 (by decide) ?_
  refine x_iast dX7_plans_69 hM.2.1 ?_
  refine x_ltS (fun S7 => ?_)
  exact x_vret dX7_plans_70 rfl
theorem dd_X7_keepsPlans : yX7_keepsPlans.cls = RX7 ∧ yX7_keepsPlans.cls ≠ "java/lang/invoke/MethodHandle" ∧ yX7_keepsPlans.cls ≠ "java/lang/invoke/VarHandle" ∧ (parseMethodDescriptor yX7_keepsPlans.desc).map (fun d => d.parameters.length) = some 0 := by decide +kernel
theorem dd_X7_putsPlansBack : yX7_putsPlansBack.cls = RX7 ∧ yX7_putsPlansBack.cls ≠ "java/lang/invoke/MethodHandle" ∧ yX7_putsPlansBack.cls ≠ "java/lang/invoke/VarHandle" ∧ (parseMethodDescriptor yX7_putsPlansBack.desc).map (fun d => d.parameters.length) = some 0 := by decide +kernel
theorem dd_X7_plans : yX7_plans.cls = RX7 ∧ yX7_plans.cls ≠ "java/lang/invoke/MethodHandle" ∧ yX7_plans.cls ≠ "java/lang/invoke/VarHandle" ∧ (parseMethodDescriptor yX7_plans.desc).map (fun d => d.parameters.length) = some 5 := by decide +kernel
theorem g_X7_wide_138 : GoodIn uX7_wide (wsV yX7_wide.cls 138 RX7 yX7_isTree uX7_isTree) := gU_V (wU_r19 _ (List.mem_of_getElem? (i := 1) rfl)) (wU_r19 _ (List.mem_of_getElem? (i := 2) rfl)) (wU_r19 _ (List.mem_of_getElem? (i := 3) rfl)) (wU_r1 _ (List.mem_of_getElem? (i := 5) rfl)) (wU_r19 _ (List.mem_of_getElem? (i := 4) rfl))
theorem g_X7_wide_41 : GoodIn uX7_wide (va_wsS yX7_wide.cls 41 yX7_in uX7_in) := gU_S (wU_r6 _ (List.mem_of_getElem? (i := 4) rfl)) (wU_r6 _ (List.mem_of_getElem? (i := 5) rfl)) (wU_r1 _ (List.mem_of_getElem? (i := 5) rfl)) (wU_r6 _ (List.mem_of_getElem? (i := 6) rfl))
theorem g_X7_wide_183 : GoodIn uX7_wide (wsV yX7_wide.cls 183 RX7 yX7_isStanding uX7_isStanding) := gU_V (wU_r25 _ (List.mem_of_getElem? (i := 9) rfl)) (wU_r25 _ (List.mem_of_getElem? (i := 10) rfl)) (wU_r25 _ (List.mem_of_getElem? (i := 11) rfl)) (wU_r1 _ (List.mem_of_getElem? (i := 5) rfl)) (wU_r25 _ (List.mem_of_getElem? (i := 12) rfl))
theorem g_X7_wide_213 : GoodIn uX7_wide (wsV yX7_wide.cls 213 RX7 yX7_keepsPlans uX7_keepsPlans) := gU_V (wU_r29 _ (List.mem_of_getElem? (i := 2) rfl)) (wU_r29 _ (List.mem_of_getElem? (i := 3) rfl)) (wU_r29 _ (List.mem_of_getElem? (i := 4) rfl)) (wU_r1 _ (List.mem_of_getElem? (i := 5) rfl)) (wU_r29 _ (List.mem_of_getElem? (i := 5) rfl))
theorem g_X7_wide_220 : GoodIn uX7_wide (wsV yX7_wide.cls 220 RX7 yX7_putsPlansBack uX7_putsPlansBack) := gU_V (wU_r29 _ (List.mem_of_getElem? (i := 10) rfl)) (wU_r29 _ (List.mem_of_getElem? (i := 11) rfl)) (wU_r29 _ (List.mem_of_getElem? (i := 12) rfl)) (wU_r1 _ (List.mem_of_getElem? (i := 5) rfl)) (wU_r29 _ (List.mem_of_getElem? (i := 13) rfl))
theorem g_X7_wide_216 : GoodIn uX7_wide (wsV yX7_wide.cls 216 RX7 yX7_plans uX7_plans) := gU_V (wU_r29 _ (List.mem_of_getElem? (i := 6) rfl)) (wU_r29 _ (List.mem_of_getElem? (i := 7) rfl)) (wU_r29 _ (List.mem_of_getElem? (i := 8) rfl)) (wU_r1 _ (List.mem_of_getElem? (i := 5) rfl)) (wU_r29 _ (List.mem_of_getElem? (i := 9) rfl))
theorem g_X7_wide_202 : GoodIn uX7_wide (wsV yX7_wide.cls 202 RX7 yX7_goesIn uX7_goesIn) := gU_V (wU_r25 _ (List.mem_of_getElem? (i := 17) rfl)) (wU_r25 _ (List.mem_of_getElem? (i := 18) rfl)) (wU_r25 _ (List.mem_of_getElem? (i := 19) rfl)) (wU_r1 _ (List.mem_of_getElem? (i := 5) rfl)) (wU_r25 _ (List.mem_of_getElem? (i := 20) rfl))
theorem w_X7_wide_f180 : Cond.fieldLink yX7_wide.cls 180 (TX7 19).1 (TX7 19).2.1 (TX7 19).2.2.1 ∈ uX7_wide := List.mem_cons_of_mem _ (wU_r25 _ (List.mem_of_getElem? (i := 6) rfl))
def f_X7_wide_113 (r43 : Int32 → Int32 → Int32 → Int32 → aSt → Option (Int32 × aSt)) (l1 : Int32) (l2 : Int32) (l4 : Int32) (s0 : Int32) (s1 : Int32) (S : aSt) : Option (Int32 × aSt) := (aLt (s1 ||| s0) (fun x8 => (aLt (l4 + (1 : Int32)) (fun x9 => (r43 l1 l2 x8 x9 S)))))
set_option maxRecDepth 20000 in
set_option maxHeartbeats 4000000 in
theorem v_X7_wide_113 {G : aG} (hM : aMo G) (r43 : Int32 → Int32 → Int32 → Int32 → aSt → Option (Int32 × aSt)) (hr43 : ∀ (l1 : Int32) (l2 : Int32) (l3 : Int32) (l4 : Int32) (S : aSt), aX G yX7_wide cX7_wide 5 (some .int) uX7_wide 5 mk_i (r43 l1 l2 l3 l4 S) 43 [some (.ref (0)), some (.int l1), some (.int l2), some (.int l3), some (.int l4)] [] S) (l1 : Int32) (l2 : Int32) (l4 : Int32) (s0 : Int32) (s1 : Int32) (S : aSt) : aX G yX7_wide cX7_wide 5 (some .int) uX7_wide 5 mk_i (f_X7_wide_113 r43 l1 l2 l4 s0 s1 S) 113 [some (.ref (0)), some (.int l1), some (.int l2), none, some (.int l4)] [.int s0, .int s1] S := by
  unfold f_X7_wide_113
  refine x_ior dX7_wide_113 ?_
  refine x_lti (fun x8 => ?_)
  refine x_istore_n dX7_wide_114 rfl (Nat.le_of_ble_eq_true rfl) rfl ?_
  refine x_iincL (w := (1 : Int32)) dX7_wide_115 rfl (by decide) (Nat.le_of_ble_eq_true rfl) rfl (fun x9 => ?_)
  refine x_goto (tgt := 43) dX7_wide_118 (by decide) ?_
  exact x_le (hr43 l1 l2 x8 x9 S) (And.intro rfl (And.intro rfl (And.intro rfl (And.intro rfl (And.intro rfl trivial)))))
def f_X7_wide_43  : Nat → Int32 → Int32 → Int32 → Int32 → aSt → Option (Int32 × aSt)
  | 0, _, _, _, _, _ => none
  | n + 1, l1, l2, l3, l4, S => (if ((800 : Int32) * (l2 + (1 : Int32))) ≤ l4 then (aB (f_X7_putsPlansBack S) (fun r5_ S5 => (some (l3, S5)))) else (aB (f_X7_plans l1 ((l4 / (100 : Int32)) - (l4 / (100 : Int32)) / (8 : Int32) * (8 : Int32)) ((l4 / (10 : Int32)) - (l4 / (10 : Int32)) / (10 : Int32) * (10 : Int32)) (l4 - l4 / (10 : Int32) * (10 : Int32)) (l4 / (800 : Int32)) S) (fun r6_ S6 => (aB (f_X7_goesIn l1 (-1 : Int32) S6) (fun r7_ S7 => (if (S7.1 (0) 19) = (-5 : Int32) then (f_X7_wide_113 (fun l1 l2 l3 l4 S => (f_X7_wide_43 n l1 l2 l3 l4 S)) l1 l2 l4 (0 : Int32) l3 S7) else (f_X7_wide_113 (fun l1 l2 l3 l4 S => (f_X7_wide_43 n l1 l2 l3 l4 S)) l1 l2 l4 ((1 : Int32) <<< ((S7.1 (0) 19) &&& 31)) l3 S7)))))))
set_option maxRecDepth 20000 in
set_option maxHeartbeats 4000000 in
theorem v_X7_wide_43 {G : aG} (hM : aMo G) : ∀ (n : Nat) (l1 : Int32) (l2 : Int32) (l3 : Int32) (l4 : Int32) (S : aSt), aX G yX7_wide cX7_wide 5 (some .int) uX7_wide 5 mk_i (f_X7_wide_43 n l1 l2 l3 l4 S) 43 [some (.ref (0)), some (.int l1), some (.int l2), some (.int l3), some (.int l4)] [] S := by
  intro n
  induction n with
  | zero => intro l1 l2 l3 l4 S; exact x_none
  | succ n ih =>
    intro l1 l2 l3 l4 S
    unfold f_X7_wide_43
    refine x_iload dX7_wide_43 rfl ?_
    refine x_sipush (800 : Int32) dX7_wide_45 (by decide) ?_
    refine x_iload_n dX7_wide_48 rfl rfl ?_
    refine x_iconst (1 : Int32) dX7_wide_49 (by decide) ?_
    refine x_iadd dX7_wide_50 ?_
    refine x_imul dX7_wide_51 ?_
    refine x_icmp_ge (tgt := 121) dX7_wide_52 (by decide) ?_ ?_
    · refine x_aload_n dX7_wide_121 rfl rfl ?_
      refine x_b (fun r5_ S5 e5 => ?_)
      refine x_callVv (As := []) dX7_wide_122 (aMet_of e5 (m_X7_putsPlansBack hM S)) g_X7_wide_220 rfl hM.1 rfl dd_X7_putsPlansBack rfl rfl (Nat.le_of_ble_eq_true rfl) (Nat.le_of_ble_eq_true rfl) (Nat.le_of_ble_eq_true rfl) ?_
      refine x_iload_n dX7_wide_125 rfl rfl ?_
      exact x_iret dX7_wide_126 rfl
    · refine x_aload_n dX7_wide_55 rfl rfl ?_
      refine x_iload_n dX7_wide_56 rfl rfl ?_
      refine x_iload dX7_wide_57 rfl ?_
      refine x_bipush (100 : Int32) dX7_wide_59 (by decide) ?_
      refine x_idivc dX7_wide_61 (by decide) ?_
      refine x_bipush (8 : Int32) dX7_wide_62 (by decide) ?_
      refine x_iremc dX7_wide_64 (by decide) ?_
      refine x_iload dX7_wide_65 rfl ?_
      refine x_bipush (10 : Int32) dX7_wide_67 (by decide) ?_
      refine x_idivc dX7_wide_69 (by decide) ?_
      refine x_bipush (10 : Int32) dX7_wide_70 (by decide) ?_
      refine x_iremc dX7_wide_72 (by decide) ?_
      refine x_iload dX7_wide_73 rfl ?_
      refine x_bipush (10 : Int32) dX7_wide_75 (by decide) ?_
      refine x_iremc dX7_wide_77 (by decide) ?_
      refine x_iload dX7_wide_78 rfl ?_
      refine x_sipush (800 : Int32) dX7_wide_80 (by decide) ?_
      refine x_idivc dX7_wide_83 (by decide) ?_
      refine x_b (fun r6_ S6 e6 => ?_)
      refine x_callVv (As := [.int l1, .int ((l4 / (100 : Int32)) - (l4 / (100 : Int32)) / (8 : Int32) * (8 : Int32)), .int ((l4 / (10 : Int32)) - (l4 / (10 : Int32)) / (10 : Int32) * (10 : Int32)), .int (l4 - l4 / (10 : Int32) * (10 : Int32)), .int (l4 / (800 : Int32))]) dX7_wide_84 (aMet_of e6 (m_X7_plans hM l1 ((l4 / (100 : Int32)) - (l4 / (100 : Int32)) / (8 : Int32) * (8 : Int32)) ((l4 / (10 : Int32)) - (l4 / (10 : Int32)) / (10 : Int32) * (10 : Int32)) (l4 - l4 / (10 : Int32) * (10 : Int32)) (l4 / (800 : Int32)) S)) g_X7_wide_216 rfl hM.1 rfl dd_X7_plans rfl rfl (Nat.le_of_ble_eq_true rfl) (Nat.le_of_ble_eq_true rfl) (Nat.le_of_ble_eq_true rfl) ?_
      refine x_aload_n dX7_wide_87 rfl rfl ?_
      refine x_iload_n dX7_wide_88 rfl rfl ?_
      refine x_iconst (-1 : Int32) dX7_wide_89 (by decide) ?_
      refine x_b (fun r7_ S7 e7 => ?_)
      refine x_callVv (As := [.int l1, .int (-1 : Int32)]) dX7_wide_90 (aMet_of e7 (m_X7_goesIn hM l1 (-1 : Int32) S6)) g_X7_wide_202 rfl hM.1 rfl dd_X7_goesIn rfl rfl (Nat.le_of_ble_eq_true rfl) (Nat.le_of_ble_eq_true rfl) (Nat.le_of_ble_eq_true rfl) ?_
      refine x_iload_n dX7_wide_93 rfl rfl ?_
      refine x_aload_n dX7_wide_94 rfl rfl ?_
      refine x_getI (k := 0) (j := 19) dX7_wide_95 hM.1 rfl rfl (Nat.le_of_ble_eq_true rfl) (fun w h => List.mem_cons_of_mem _ (inlX7 w h)) w_X7_wide_f180 ?_
      refine x_bipush (-5 : Int32) dX7_wide_98 (by decide) ?_
      refine x_icmp_ne (tgt := 107) dX7_wide_100 (by decide) ?_ ?_
      · refine x_iconst (1 : Int32) dX7_wide_107 (by decide) ?_
        refine x_aload_n dX7_wide_108 rfl rfl ?_
        refine x_getI (k := 0) (j := 19) dX7_wide_109 hM.1 rfl rfl (Nat.le_of_ble_eq_true rfl) (fun w h => List.mem_cons_of_mem _ (inlX7 w h)) w_X7_wide_f180 ?_
        refine x_ishl dX7_wide_112 ?_
        exact x_le (v_X7_wide_113 hM (fun l1 l2 l3 l4 S => (f_X7_wide_43 n l1 l2 l3 l4 S)) ih l1 l2 l4 ((1 : Int32) <<< ((S7.1 (0) 19) &&& 31)) l3 S7) (And.intro rfl (And.intro rfl (And.intro rfl (And.intro rfl trivial))))
      · refine x_iconst (0 : Int32) dX7_wide_103 (by decide) ?_
        refine x_goto (tgt := 113) dX7_wide_104 (by decide) ?_
        exact x_le (v_X7_wide_113 hM (fun l1 l2 l3 l4 S => (f_X7_wide_43 n l1 l2 l3 l4 S)) ih l1 l2 l4 (0 : Int32) l3 S7) (And.intro rfl (And.intro rfl (And.intro rfl (And.intro rfl trivial))))
def f_X7_wide (p1 : Int32) (p2 : Int32) (S : aSt) : Option (Int32 × aSt) := (aB (f_X7_isTree p1 S) (fun r1_ S1 => (if r1_ = 0 then (some ((-1 : Int32), S1)) else (aB (f_X7_in p2 (0 : Int32) (9 : Int32) S1) (fun r2_ S2 => (if r2_ = 0 then (some ((-2 : Int32), S2)) else (aB (f_X7_isStanding p1 S2) (fun r3_ S3 => (if r3_ = 0 then (some ((-3 : Int32), S3)) else (aB (f_X7_keepsPlans S3) (fun r4_ S4 => (f_X7_wide_43 aF p1 p2 (0 : Int32) (0 : Int32) S4))))))))))))
set_option maxRecDepth 20000 in
set_option maxHeartbeats 4000000 in
theorem m_X7_wide {G : aG} (hM : aMo G) (p1 : Int32) (p2 : Int32) (S : aSt) : aMet G yX7_wide uX7_wide 5 mk_i (f_X7_wide p1 p2 S) [.ref (0), .int p1, .int p2] S := by
  refine x_met (cc := cX7_wide) (nL := 5) (ret := (some .int)) (L := [some (.ref (0)), some (.int p1), some (.int p2), none, none]) (by decide +kernel) rfl (And.intro rfl (And.intro rfl (And.intro rfl trivial))) (Nat.le_of_ble_eq_true rfl) ?_
  unfold f_X7_wide
  refine x_aload_n dX7_wide_0 rfl rfl ?_
  refine x_iload_n dX7_wide_1 rfl rfl ?_
  refine x_b (fun r1_ S1 e1 => ?_)
  refine x_callVi (As := [.int p1]) dX7_wide_2 (aMet_of e1 (m_X7_isTree hM p1 S)) g_X7_wide_138 rfl hM.1 rfl dd_X7_isTree rfl rfl (Nat.le_of_ble_eq_true rfl) (Nat.le_of_ble_eq_true rfl) (Nat.le_of_ble_eq_true rfl) ?_
  refine x_if_ne (tgt := 10) dX7_wide_5 (by decide) ?_ ?_
  · refine x_iload_n dX7_wide_10 rfl rfl ?_
    refine x_iconst (0 : Int32) dX7_wide_11 (by decide) ?_
    refine x_bipush (9 : Int32) dX7_wide_12 (by decide) ?_
    refine x_b (fun r2_ S2 e2 => ?_)
    refine x_callSi (As := [.int p2, .int (0 : Int32), .int (9 : Int32)]) dX7_wide_14 (aMet_of e2 (m_X7_in p2 (0 : Int32) (9 : Int32) S1)) g_X7_wide_41 rfl dd_X7_in rfl rfl (Nat.le_of_ble_eq_true rfl) (Nat.le_of_ble_eq_true rfl) (Nat.le_of_ble_eq_true rfl) ?_
    refine x_if_ne (tgt := 23) dX7_wide_17 (by decide) ?_ ?_
    · refine x_aload_n dX7_wide_23 rfl rfl ?_
      refine x_iload_n dX7_wide_24 rfl rfl ?_
      refine x_b (fun r3_ S3 e3 => ?_)
      refine x_callVi (As := [.int p1]) dX7_wide_25 (aMet_of e3 (m_X7_isStanding hM p1 S2)) g_X7_wide_183 rfl hM.1 rfl dd_X7_isStanding rfl rfl (Nat.le_of_ble_eq_true rfl) (Nat.le_of_ble_eq_true rfl) (Nat.le_of_ble_eq_true rfl) ?_
      refine x_if_ne (tgt := 34) dX7_wide_28 (by decide) ?_ ?_
      · refine x_aload_n dX7_wide_34 rfl rfl ?_
        refine x_b (fun r4_ S4 e4 => ?_)
        refine x_callVv (As := []) dX7_wide_35 (aMet_of e4 (m_X7_keepsPlans hM S3)) g_X7_wide_213 rfl hM.1 rfl dd_X7_keepsPlans rfl rfl (Nat.le_of_ble_eq_true rfl) (Nat.le_of_ble_eq_true rfl) (Nat.le_of_ble_eq_true rfl) ?_
        refine x_iconst (0 : Int32) dX7_wide_38 (by decide) ?_
        refine x_istore_n dX7_wide_39 rfl (Nat.le_of_ble_eq_true rfl) rfl ?_
        refine x_iconst (0 : Int32) dX7_wide_40 (by decide) ?_
        refine x_istore dX7_wide_41 (Nat.le_of_ble_eq_true rfl) rfl ?_
        exact x_le (v_X7_wide_43 hM aF p1 p2 (0 : Int32) (0 : Int32) S4) (And.intro rfl (And.intro rfl (And.intro rfl (And.intro rfl (And.intro rfl trivial)))))
      · refine x_bipush (-3 : Int32) dX7_wide_31 (by decide) ?_
        exact x_iret dX7_wide_33 rfl
    · refine x_bipush (-2 : Int32) dX7_wide_20 (by decide) ?_
      exact x_iret dX7_wide_22 rfl
  · refine x_iconst (-1 : Int32) dX7_wide_8 (by decide) ?_
    exact x_iret dX7_wide_9 rfl
theorem g_X7_least_138 : GoodIn uX7_least (wsV yX7_least.cls 138 RX7 yX7_isTree uX7_isTree) := gU_V (wU_r19 _ (List.mem_of_getElem? (i := 1) rfl)) (wU_r19 _ (List.mem_of_getElem? (i := 2) rfl)) (wU_r19 _ (List.mem_of_getElem? (i := 3) rfl)) (wU_r1 _ (List.mem_of_getElem? (i := 5) rfl)) (wU_r19 _ (List.mem_of_getElem? (i := 4) rfl))
theorem g_X7_least_142 : GoodIn uX7_least (va_wsS yX7_least.cls 142 yX7_isWay uX7_isWay) := gU_S (wU_r19 _ (List.mem_of_getElem? (i := 5) rfl)) (wU_r19 _ (List.mem_of_getElem? (i := 6) rfl)) (wU_r1 _ (List.mem_of_getElem? (i := 5) rfl)) (wU_r19 _ (List.mem_of_getElem? (i := 7) rfl))
theorem g_X7_least_183 : GoodIn uX7_least (wsV yX7_least.cls 183 RX7 yX7_isStanding uX7_isStanding) := gU_V (wU_r25 _ (List.mem_of_getElem? (i := 9) rfl)) (wU_r25 _ (List.mem_of_getElem? (i := 10) rfl)) (wU_r25 _ (List.mem_of_getElem? (i := 11) rfl)) (wU_r1 _ (List.mem_of_getElem? (i := 5) rfl)) (wU_r25 _ (List.mem_of_getElem? (i := 12) rfl))
theorem g_X7_least_213 : GoodIn uX7_least (wsV yX7_least.cls 213 RX7 yX7_keepsPlans uX7_keepsPlans) := gU_V (wU_r29 _ (List.mem_of_getElem? (i := 2) rfl)) (wU_r29 _ (List.mem_of_getElem? (i := 3) rfl)) (wU_r29 _ (List.mem_of_getElem? (i := 4) rfl)) (wU_r1 _ (List.mem_of_getElem? (i := 5) rfl)) (wU_r29 _ (List.mem_of_getElem? (i := 5) rfl))
theorem g_X7_least_216 : GoodIn uX7_least (wsV yX7_least.cls 216 RX7 yX7_plans uX7_plans) := gU_V (wU_r29 _ (List.mem_of_getElem? (i := 6) rfl)) (wU_r29 _ (List.mem_of_getElem? (i := 7) rfl)) (wU_r29 _ (List.mem_of_getElem? (i := 8) rfl)) (wU_r1 _ (List.mem_of_getElem? (i := 5) rfl)) (wU_r29 _ (List.mem_of_getElem? (i := 9) rfl))
theorem g_X7_least_202 : GoodIn uX7_least (wsV yX7_least.cls 202 RX7 yX7_goesIn uX7_goesIn) := gU_V (wU_r25 _ (List.mem_of_getElem? (i := 17) rfl)) (wU_r25 _ (List.mem_of_getElem? (i := 18) rfl)) (wU_r25 _ (List.mem_of_getElem? (i := 19) rfl)) (wU_r1 _ (List.mem_of_getElem? (i := 5) rfl)) (wU_r25 _ (List.mem_of_getElem? (i := 20) rfl))
theorem w_X7_least_f177 : Cond.fieldLink yX7_least.cls 177 (TX7 18).1 (TX7 18).2.1 (TX7 18).2.2.1 ∈ uX7_least := List.mem_cons_of_mem _ (wU_r25 _ (List.mem_of_getElem? (i := 5) rfl))
theorem g_X7_least_220 : GoodIn uX7_least (wsV yX7_least.cls 220 RX7 yX7_putsPlansBack uX7_putsPlansBack) := gU_V (wU_r29 _ (List.mem_of_getElem? (i := 10) rfl)) (wU_r29 _ (List.mem_of_getElem? (i := 11) rfl)) (wU_r29 _ (List.mem_of_getElem? (i := 12) rfl)) (wU_r1 _ (List.mem_of_getElem? (i := 5) rfl)) (wU_r29 _ (List.mem_of_getElem? (i := 13) rfl))
def f_X7_least_102  (l3 : Int32) (S : aSt) : Option (Int32 × aSt) := (aB (f_X7_putsPlansBack S) (fun r7_ S7 => (some (l3, S7))))
set_option maxRecDepth 20000 in
set_option maxHeartbeats 4000000 in
theorem v_X7_least_102 {G : aG} (hM : aMo G) (l3 : Int32) (S : aSt) : aX G yX7_least cX7_least 5 (some .int) uX7_least 5 mk_i (f_X7_least_102 l3 S) 102 [some (.ref (0)), none, none, some (.int l3), none] [] S := by
  unfold f_X7_least_102
  refine x_aload_n dX7_least_102 rfl rfl ?_
  refine x_b (fun r7_ S7 e7 => ?_)
  refine x_callVv (As := []) dX7_least_103 (aMet_of e7 (m_X7_putsPlansBack hM S)) g_X7_least_220 rfl hM.1 rfl dd_X7_putsPlansBack rfl rfl (Nat.le_of_ble_eq_true rfl) (Nat.le_of_ble_eq_true rfl) (Nat.le_of_ble_eq_true rfl) ?_
  refine x_iload_n dX7_least_106 rfl rfl ?_
  exact x_iret dX7_least_107 rfl
def f_X7_least_95 (r38 : Int32 → Int32 → Int32 → Int32 → aSt → Option (Int32 × aSt)) (l1 : Int32) (l2 : Int32) (l4 : Int32) (s0 : Int32) (S : aSt) : Option (Int32 × aSt) := (aLt (l4 + (1 : Int32)) (fun x8 => (r38 l1 l2 s0 x8 S)))
set_option maxRecDepth 20000 in
set_option maxHeartbeats 4000000 in
theorem v_X7_least_95 {G : aG} (hM : aMo G) (r38 : Int32 → Int32 → Int32 → Int32 → aSt → Option (Int32 × aSt)) (hr38 : ∀ (l1 : Int32) (l2 : Int32) (l3 : Int32) (l4 : Int32) (S : aSt), aX G yX7_least cX7_least 5 (some .int) uX7_least 5 mk_i (r38 l1 l2 l3 l4 S) 38 [some (.ref (0)), some (.int l1), some (.int l2), some (.int l3), some (.int l4)] [] S) (l1 : Int32) (l2 : Int32) (l4 : Int32) (s0 : Int32) (S : aSt) : aX G yX7_least cX7_least 5 (some .int) uX7_least 5 mk_i (f_X7_least_95 r38 l1 l2 l4 s0 S) 95 [some (.ref (0)), some (.int l1), some (.int l2), none, some (.int l4)] [.int s0] S := by
  unfold f_X7_least_95
  refine x_istore_n dX7_least_95 rfl (Nat.le_of_ble_eq_true rfl) rfl ?_
  refine x_iincL (w := (1 : Int32)) dX7_least_96 rfl (by decide) (Nat.le_of_ble_eq_true rfl) rfl (fun x8 => ?_)
  refine x_goto (tgt := 38) dX7_least_99 (by decide) ?_
  exact x_le (hr38 l1 l2 s0 x8 S) (And.intro rfl (And.intro rfl (And.intro rfl (And.intro rfl (And.intro rfl trivial)))))
def f_X7_least_38  : Nat → Int32 → Int32 → Int32 → Int32 → aSt → Option (Int32 × aSt)
  | 0, _, _, _, _, _ => none
  | n + 1, l1, l2, l3, l4, S => (if (1000 : Int32) ≤ l4 then (f_X7_least_102 l3 S) else (if l3 = (-5 : Int32) then (aB (f_X7_plans l1 l2 ((l4 / (10 : Int32)) - (l4 / (10 : Int32)) / (10 : Int32) * (10 : Int32)) (l4 - l4 / (10 : Int32) * (10 : Int32)) (l4 / (100 : Int32)) S) (fun r5_ S5 => (aB (f_X7_goesIn l1 (-1 : Int32) S5) (fun r6_ S6 => (if (S6.1 (0) 18) = 0 then (f_X7_least_95 (fun l1 l2 l3 l4 S => (f_X7_least_38 n l1 l2 l3 l4 S)) l1 l2 l4 l4 S6) else (f_X7_least_95 (fun l1 l2 l3 l4 S => (f_X7_least_38 n l1 l2 l3 l4 S)) l1 l2 l4 l3 S6)))))) else (f_X7_least_102 l3 S)))
set_option maxRecDepth 20000 in
set_option maxHeartbeats 4000000 in
theorem v_X7_least_38 {G : aG} (hM : aMo G) : ∀ (n : Nat) (l1 : Int32) (l2 : Int32) (l3 : Int32) (l4 : Int32) (S : aSt), aX G yX7_least cX7_least 5 (some .int) uX7_least 5 mk_i (f_X7_least_38 n l1 l2 l3 l4 S) 38 [some (.ref (0)), some (.int l1), some (.int l2), some (.int l3), some (.int l4)] [] S := by
  intro n
  induction n with
  | zero => intro l1 l2 l3 l4 S; exact x_none
  | succ n ih =>
    intro l1 l2 l3 l4 S
    unfold f_X7_least_38
    refine x_iload dX7_least_38 rfl ?_
    refine x_sipush (1000 : Int32) dX7_least_40 (by decide) ?_
    refine x_icmp_ge (tgt := 102) dX7_least_43 (by decide) ?_ ?_
    · exact x_le (v_X7_least_102 hM l3 S) (And.intro rfl (And.intro rfl trivial))
    · refine x_iload_n dX7_least_46 rfl rfl ?_
      refine x_bipush (-5 : Int32) dX7_least_47 (by decide) ?_
      refine x_icmp_ne (tgt := 102) dX7_least_49 (by decide) ?_ ?_
      · exact x_le (v_X7_least_102 hM l3 S) (And.intro rfl (And.intro rfl trivial))
      · refine x_aload_n dX7_least_52 rfl rfl ?_
        refine x_iload_n dX7_least_53 rfl rfl ?_
        refine x_iload_n dX7_least_54 rfl rfl ?_
        refine x_iload dX7_least_55 rfl ?_
        refine x_bipush (10 : Int32) dX7_least_57 (by decide) ?_
        refine x_idivc dX7_least_59 (by decide) ?_
        refine x_bipush (10 : Int32) dX7_least_60 (by decide) ?_
        refine x_iremc dX7_least_62 (by decide) ?_
        refine x_iload dX7_least_63 rfl ?_
        refine x_bipush (10 : Int32) dX7_least_65 (by decide) ?_
        refine x_iremc dX7_least_67 (by decide) ?_
        refine x_iload dX7_least_68 rfl ?_
        refine x_bipush (100 : Int32) dX7_least_70 (by decide) ?_
        refine x_idivc dX7_least_72 (by decide) ?_
        refine x_b (fun r5_ S5 e5 => ?_)
        refine x_callVv (As := [.int l1, .int l2, .int ((l4 / (10 : Int32)) - (l4 / (10 : Int32)) / (10 : Int32) * (10 : Int32)), .int (l4 - l4 / (10 : Int32) * (10 : Int32)), .int (l4 / (100 : Int32))]) dX7_least_73 (aMet_of e5 (m_X7_plans hM l1 l2 ((l4 / (10 : Int32)) - (l4 / (10 : Int32)) / (10 : Int32) * (10 : Int32)) (l4 - l4 / (10 : Int32) * (10 : Int32)) (l4 / (100 : Int32)) S)) g_X7_least_216 rfl hM.1 rfl dd_X7_plans rfl rfl (Nat.le_of_ble_eq_true rfl) (Nat.le_of_ble_eq_true rfl) (Nat.le_of_ble_eq_true rfl) ?_
        refine x_aload_n dX7_least_76 rfl rfl ?_
        refine x_iload_n dX7_least_77 rfl rfl ?_
        refine x_iconst (-1 : Int32) dX7_least_78 (by decide) ?_
        refine x_b (fun r6_ S6 e6 => ?_)
        refine x_callVv (As := [.int l1, .int (-1 : Int32)]) dX7_least_79 (aMet_of e6 (m_X7_goesIn hM l1 (-1 : Int32) S5)) g_X7_least_202 rfl hM.1 rfl dd_X7_goesIn rfl rfl (Nat.le_of_ble_eq_true rfl) (Nat.le_of_ble_eq_true rfl) (Nat.le_of_ble_eq_true rfl) ?_
        refine x_aload_n dX7_least_82 rfl rfl ?_
        refine x_getI (k := 0) (j := 18) dX7_least_83 hM.1 rfl rfl (Nat.le_of_ble_eq_true rfl) (fun w h => List.mem_cons_of_mem _ (inlX7 w h)) w_X7_least_f177 ?_
        refine x_if_ne (tgt := 94) dX7_least_86 (by decide) ?_ ?_
        · refine x_iload_n dX7_least_94 rfl rfl ?_
          exact x_le (v_X7_least_95 hM (fun l1 l2 l3 l4 S => (f_X7_least_38 n l1 l2 l3 l4 S)) ih l1 l2 l4 l3 S6) (And.intro rfl (And.intro rfl (And.intro rfl (And.intro rfl trivial))))
        · refine x_iload dX7_least_89 rfl ?_
          refine x_goto (tgt := 95) dX7_least_91 (by decide) ?_
          exact x_le (v_X7_least_95 hM (fun l1 l2 l3 l4 S => (f_X7_least_38 n l1 l2 l3 l4 S)) ih l1 l2 l4 l4 S6) (And.intro rfl (And.intro rfl (And.intro rfl (And.intro rfl trivial))))
def f_X7_least (p1 : Int32) (p2 : Int32) (S : aSt) : Option (Int32 × aSt) := (aB (f_X7_isTree p1 S) (fun r1_ S1 => (if r1_ = 0 then (some ((-1 : Int32), S1)) else (aB (f_X7_isWay p2 S1) (fun r2_ S2 => (if r2_ = 0 then (some ((-1 : Int32), S2)) else (aB (f_X7_isStanding p1 S2) (fun r3_ S3 => (if r3_ = 0 then (some ((-3 : Int32), S3)) else (aB (f_X7_keepsPlans S3) (fun r4_ S4 => (f_X7_least_38 aF p1 p2 (-5 : Int32) (0 : Int32) S4))))))))))))
set_option maxRecDepth 20000 in
set_option maxHeartbeats 4000000 in
theorem m_X7_least {G : aG} (hM : aMo G) (p1 : Int32) (p2 : Int32) (S : aSt) : aMet G yX7_least uX7_least 5 mk_i (f_X7_least p1 p2 S) [.ref (0), .int p1, .int p2] S := by
  refine x_met (cc := cX7_least) (nL := 5) (ret := (some .int)) (L := [some (.ref (0)), some (.int p1), some (.int p2), none, none]) (by decide +kernel) rfl (And.intro rfl (And.intro rfl (And.intro rfl trivial))) (Nat.le_of_ble_eq_true rfl) ?_
  unfold f_X7_least
  refine x_aload_n dX7_least_0 rfl rfl ?_
  refine x_iload_n dX7_least_1 rfl rfl ?_
  refine x_b (fun r1_ S1 e1 => ?_)
  refine x_callVi (As := [.int p1]) dX7_least_2 (aMet_of e1 (m_X7_isTree hM p1 S)) g_X7_least_138 rfl hM.1 rfl dd_X7_isTree rfl rfl (Nat.le_of_ble_eq_true rfl) (Nat.le_of_ble_eq_true rfl) (Nat.le_of_ble_eq_true rfl) ?_
  refine x_if_eq (tgt := 15) dX7_least_5 (by decide) ?_ ?_
  · refine x_iconst (-1 : Int32) dX7_least_15 (by decide) ?_
    exact x_iret dX7_least_16 rfl
  · refine x_iload_n dX7_least_8 rfl rfl ?_
    refine x_b (fun r2_ S2 e2 => ?_)
    refine x_callSi (As := [.int p2]) dX7_least_9 (aMet_of e2 (m_X7_isWay p2 S1)) g_X7_least_142 rfl dd_X7_isWay rfl rfl (Nat.le_of_ble_eq_true rfl) (Nat.le_of_ble_eq_true rfl) (Nat.le_of_ble_eq_true rfl) ?_
    refine x_if_ne (tgt := 17) dX7_least_12 (by decide) ?_ ?_
    · refine x_aload_n dX7_least_17 rfl rfl ?_
      refine x_iload_n dX7_least_18 rfl rfl ?_
      refine x_b (fun r3_ S3 e3 => ?_)
      refine x_callVi (As := [.int p1]) dX7_least_19 (aMet_of e3 (m_X7_isStanding hM p1 S2)) g_X7_least_183 rfl hM.1 rfl dd_X7_isStanding rfl rfl (Nat.le_of_ble_eq_true rfl) (Nat.le_of_ble_eq_true rfl) (Nat.le_of_ble_eq_true rfl) ?_
      refine x_if_ne (tgt := 28) dX7_least_22 (by decide) ?_ ?_
      · refine x_aload_n dX7_least_28 rfl rfl ?_
        refine x_b (fun r4_ S4 e4 => ?_)
        refine x_callVv (As := []) dX7_least_29 (aMet_of e4 (m_X7_keepsPlans hM S3)) g_X7_least_213 rfl hM.1 rfl dd_X7_keepsPlans rfl rfl (Nat.le_of_ble_eq_true rfl) (Nat.le_of_ble_eq_true rfl) (Nat.le_of_ble_eq_true rfl) ?_
        refine x_bipush (-5 : Int32) dX7_least_32 (by decide) ?_
        refine x_istore_n dX7_least_34 rfl (Nat.le_of_ble_eq_true rfl) rfl ?_
        refine x_iconst (0 : Int32) dX7_least_35 (by decide) ?_
        refine x_istore dX7_least_36 (Nat.le_of_ble_eq_true rfl) rfl ?_
        exact x_le (v_X7_least_38 hM aF p1 p2 (-5 : Int32) (0 : Int32) S4) (And.intro rfl (And.intro rfl (And.intro rfl (And.intro rfl (And.intro rfl trivial)))))
      · refine x_bipush (-3 : Int32) dX7_least_25 (by decide) ?_
        exact x_iret dX7_least_27 rfl
    · refine x_iconst (-1 : Int32) dX7_least_15 (by decide) ?_
      exact x_iret dX7_least_16 rfl
theorem g_X7_gusts_41 : GoodIn uX7_gusts (va_wsS yX7_gusts.cls 41 yX7_in uX7_in) := gU_S (wU_r6 _ (List.mem_of_getElem? (i := 4) rfl)) (wU_r6 _ (List.mem_of_getElem? (i := 5) rfl)) (wU_r1 _ (List.mem_of_getElem? (i := 5) rfl)) (wU_r6 _ (List.mem_of_getElem? (i := 6) rfl))
theorem w_X7_gusts_f9 : Cond.fieldLink yX7_gusts.cls 9 (TX7 1).1 (TX7 1).2.1 (TX7 1).2.2.1 ∈ uX7_gusts := List.mem_cons_of_mem _ (wU_r4 _ (List.mem_of_getElem? (i := 14) rfl))
def f_X7_gusts (p1 : Int32) (S : aSt) : Option (Int32 × aSt) := (aB (f_X7_in p1 (0 : Int32) (10 : Int32) S) (fun r1_ S1 => (if r1_ = 0 then (some ((-2 : Int32), S1)) else (aLt (S1.1 (1) 5) (fun x2 => (aLt (aUi S1 (1) 5 p1) (fun S3 => (some (x2, S3)))))))))
set_option maxRecDepth 20000 in
set_option maxHeartbeats 4000000 in
theorem m_X7_gusts {G : aG} (hM : aMo G) (p1 : Int32) (S : aSt) : aMet G yX7_gusts uX7_gusts 3 mk_i (f_X7_gusts p1 S) [.ref (0), .int p1] S := by
  refine x_met (cc := cX7_gusts) (nL := 3) (ret := (some .int)) (L := [some (.ref (0)), some (.int p1), none]) (by decide +kernel) rfl (And.intro rfl (And.intro rfl trivial)) (Nat.le_of_ble_eq_true rfl) ?_
  unfold f_X7_gusts
  refine x_iload_n dX7_gusts_0 rfl rfl ?_
  refine x_iconst (0 : Int32) dX7_gusts_1 (by decide) ?_
  refine x_bipush (10 : Int32) dX7_gusts_2 (by decide) ?_
  refine x_b (fun r1_ S1 e1 => ?_)
  refine x_callSi (As := [.int p1, .int (0 : Int32), .int (10 : Int32)]) dX7_gusts_4 (aMet_of e1 (m_X7_in p1 (0 : Int32) (10 : Int32) S)) g_X7_gusts_41 rfl dd_X7_in rfl rfl (Nat.le_of_ble_eq_true rfl) (Nat.le_of_ble_eq_true rfl) (Nat.le_of_ble_eq_true rfl) ?_
  refine x_if_ne (tgt := 13) dX7_gusts_7 (by decide) ?_ ?_
  · refine x_aload_n dX7_gusts_13 rfl rfl ?_
    refine x_getR (r := 1) (k := 0) (j := 1) dX7_gusts_14 hM.1 rfl rfl (Nat.le_of_ble_eq_true rfl) (fun w h => List.mem_cons_of_mem _ (inlX7 w h)) w_X7_gusts_f9 ?_
    refine x_iconst (5 : Int32) dX7_gusts_17 (by decide) ?_
    refine x_ialdc (j := 5) dX7_gusts_18 hM.2.1 (by unfold vp_in; decide) (by decide) ?_
    refine x_lti (fun x2 => ?_)
    refine x_istore_n dX7_gusts_19 rfl (Nat.le_of_ble_eq_true rfl) rfl ?_
    refine x_aload_n dX7_gusts_20 rfl rfl ?_
    refine x_getR (r := 1) (k := 0) (j := 1) dX7_gusts_21 hM.1 rfl rfl (Nat.le_of_ble_eq_true rfl) (fun w h => List.mem_cons_of_mem _ (inlX7 w h)) w_X7_gusts_f9 ?_
    refine x_iconst (5 : Int32) dX7_gusts_24 (by decide) ?_
    refine x_iload_n dX7_gusts_25 rfl rfl ?_
    refine x_iastc (j := 5) dX7_gusts_26 hM.2.1 (by unfold vp_in; decide) (by decide) ?_
    refine x_ltS (fun S3 => ?_)
    refine x_iload_n dX7_gusts_27 rfl rfl ?_
    exact x_iret dX7_gusts_28 rfl
  · refine x_bipush (-2 : Int32) dX7_gusts_10 (by decide) ?_
    exact x_iret dX7_gusts_12 rfl
def f_X7_divisor_4  : Nat → Int32 → Int32 → aSt → Option (Int32 × aSt)
  | 0, _, _, _ => none
  | n + 1, l2, l3, S => (if l3 = 0 then (some (l2, S)) else (if l3 = 0 then none else (aLt (l2 - l2 / l3 * l3) (fun x1 => (f_X7_divisor_4 n l3 x1 S)))))
set_option maxRecDepth 20000 in
set_option maxHeartbeats 4000000 in
theorem v_X7_divisor_4 {G : aG} : ∀ (n : Nat) (l2 : Int32) (l3 : Int32) (S : aSt), aX G yX7_divisor cX7_divisor 5 (some .int) uX7_divisor 2 mk_i (f_X7_divisor_4 n l2 l3 S) 4 [none, none, some (.int l2), some (.int l3), none] [] S := by
  intro n
  induction n with
  | zero => intro l2 l3 S; exact x_none
  | succ n ih =>
    intro l2 l3 S
    unfold f_X7_divisor_4
    refine x_iload_n dX7_divisor_4 rfl rfl ?_
    refine x_if_eq (tgt := 21) dX7_divisor_5 (by decide) ?_ ?_
    · refine x_iload_n dX7_divisor_21 rfl rfl ?_
      exact x_iret dX7_divisor_22 rfl
    · refine x_iload_n dX7_divisor_8 rfl rfl ?_
      refine x_iload_n dX7_divisor_9 rfl rfl ?_
      refine x_irem dX7_divisor_10 ?_
      refine x_lti (fun x1 => ?_)
      refine x_istore dX7_divisor_11 (Nat.le_of_ble_eq_true rfl) rfl ?_
      refine x_iload_n dX7_divisor_13 rfl rfl ?_
      refine x_istore_n dX7_divisor_14 rfl (Nat.le_of_ble_eq_true rfl) rfl ?_
      refine x_iload dX7_divisor_15 rfl ?_
      refine x_istore_n dX7_divisor_17 rfl (Nat.le_of_ble_eq_true rfl) rfl ?_
      refine x_goto (tgt := 4) dX7_divisor_18 (by decide) ?_
      exact x_le (ih l3 x1 S) (And.intro rfl (And.intro rfl trivial))
def f_X7_divisor (p0 : Int32) (p1 : Int32) (S : aSt) : Option (Int32 × aSt) := (f_X7_divisor_4 aF p0 p1 S)
set_option maxRecDepth 20000 in
set_option maxHeartbeats 4000000 in
theorem m_X7_divisor {G : aG} (p0 : Int32) (p1 : Int32) (S : aSt) : aMet G yX7_divisor uX7_divisor 2 mk_i (f_X7_divisor p0 p1 S) [.int p0, .int p1] S := by
  refine x_met (cc := cX7_divisor) (nL := 5) (ret := (some .int)) (L := [some (.int p0), some (.int p1), none, none, none]) (by decide +kernel) rfl (And.intro rfl (And.intro rfl trivial)) (Nat.le_of_ble_eq_true rfl) ?_
  unfold f_X7_divisor
  refine x_iload_n dX7_divisor_0 rfl rfl ?_
  refine x_istore_n dX7_divisor_1 rfl (Nat.le_of_ble_eq_true rfl) rfl ?_
  refine x_iload_n dX7_divisor_2 rfl rfl ?_
  refine x_istore_n dX7_divisor_3 rfl (Nat.le_of_ble_eq_true rfl) rfl ?_
  exact x_le (v_X7_divisor_4 aF p0 p1 S) (And.intro rfl (And.intro rfl trivial))
theorem w_X7_oftenOf_f9 : Cond.fieldLink yX7_oftenOf.cls 9 (TX7 1).1 (TX7 1).2.1 (TX7 1).2.2.1 ∈ uX7_oftenOf := List.mem_cons_of_mem _ (wU_r4 _ (List.mem_of_getElem? (i := 14) rfl))
def f_X7_oftenOf (p1 : Int32) (S : aSt) : Option (Int32 × aSt) := (if p1 = (-1 : Int32) then (some (((8 : Int32) * ((10 : Int32) - (S.1 (1) 5))), S)) else (some ((S.1 (1) 5), S)))
set_option maxRecDepth 20000 in
set_option maxHeartbeats 4000000 in
theorem m_X7_oftenOf {G : aG} (hM : aMo G) (p1 : Int32) (S : aSt) : aMet G yX7_oftenOf uX7_oftenOf 2 mk_i (f_X7_oftenOf p1 S) [.ref (0), .int p1] S := by
  refine x_met (cc := cX7_oftenOf) (nL := 2) (ret := (some .int)) (L := [some (.ref (0)), some (.int p1)]) (by decide +kernel) rfl (And.intro rfl (And.intro rfl trivial)) (Nat.le_of_ble_eq_true rfl) ?_
  unfold f_X7_oftenOf
  refine x_iload_n dX7_oftenOf_0 rfl rfl ?_
  refine x_iconst (-1 : Int32) dX7_oftenOf_1 (by decide) ?_
  refine x_icmp_ne (tgt := 20) dX7_oftenOf_2 (by decide) ?_ ?_
  · refine x_aload_n dX7_oftenOf_20 rfl rfl ?_
    refine x_getR (r := 1) (k := 0) (j := 1) dX7_oftenOf_21 hM.1 rfl rfl (Nat.le_of_ble_eq_true rfl) (fun w h => List.mem_cons_of_mem _ (inlX7 w h)) w_X7_oftenOf_f9 ?_
    refine x_iconst (5 : Int32) dX7_oftenOf_24 (by decide) ?_
    refine x_ialdc (j := 5) dX7_oftenOf_25 hM.2.1 (by unfold vp_in; decide) (by decide) ?_
    exact x_iret dX7_oftenOf_26 rfl
  · refine x_bipush (8 : Int32) dX7_oftenOf_5 (by decide) ?_
    refine x_bipush (10 : Int32) dX7_oftenOf_7 (by decide) ?_
    refine x_aload_n dX7_oftenOf_9 rfl rfl ?_
    refine x_getR (r := 1) (k := 0) (j := 1) dX7_oftenOf_10 hM.1 rfl rfl (Nat.le_of_ble_eq_true rfl) (fun w h => List.mem_cons_of_mem _ (inlX7 w h)) w_X7_oftenOf_f9 ?_
    refine x_iconst (5 : Int32) dX7_oftenOf_13 (by decide) ?_
    refine x_ialdc (j := 5) dX7_oftenOf_14 hM.2.1 (by unfold vp_in; decide) (by decide) ?_
    refine x_isub dX7_oftenOf_15 ?_
    refine x_imul dX7_oftenOf_16 ?_
    refine x_goto (tgt := 26) dX7_oftenOf_17 (by decide) ?_
    exact x_iret dX7_oftenOf_26 rfl
theorem dd_X7_doesStrike : yX7_doesStrike.cls = RX7 ∧ yX7_doesStrike.cls ≠ "java/lang/invoke/MethodHandle" ∧ yX7_doesStrike.cls ≠ "java/lang/invoke/VarHandle" ∧ (parseMethodDescriptor yX7_doesStrike.desc).map (fun d => d.parameters.length) = some 0 := by decide +kernel
theorem dd_X7_divisor : yX7_divisor.cls ≠ "java/lang/invoke/MethodHandle" ∧ yX7_divisor.cls ≠ "java/lang/invoke/VarHandle" ∧ (parseMethodDescriptor yX7_divisor.desc).map (fun d => d.parameters.length) = some 2 := by decide +kernel
theorem dd_X7_oftenOf : yX7_oftenOf.cls = RX7 ∧ yX7_oftenOf.cls ≠ "java/lang/invoke/MethodHandle" ∧ yX7_oftenOf.cls ≠ "java/lang/invoke/VarHandle" ∧ (parseMethodDescriptor yX7_oftenOf.desc).map (fun d => d.parameters.length) = some 1 := by decide +kernel
theorem g_X7_sure_138 : GoodIn uX7_sure (wsV yX7_sure.cls 138 RX7 yX7_isTree uX7_isTree) := gU_V (wU_r19 _ (List.mem_of_getElem? (i := 1) rfl)) (wU_r19 _ (List.mem_of_getElem? (i := 2) rfl)) (wU_r19 _ (List.mem_of_getElem? (i := 3) rfl)) (wU_r1 _ (List.mem_of_getElem? (i := 5) rfl)) (wU_r19 _ (List.mem_of_getElem? (i := 4) rfl))
theorem w_X7_sure_k211 : Cond.constantLong yX7_sure.cls 211 (-9223372036854775808 : Int64) ∈ uX7_sure := List.mem_cons_of_mem _ (wU_r27 _ (List.mem_of_getElem? (i := 15) rfl))
theorem g_X7_sure_41 : GoodIn uX7_sure (va_wsS yX7_sure.cls 41 yX7_in uX7_in) := gU_S (wU_r6 _ (List.mem_of_getElem? (i := 4) rfl)) (wU_r6 _ (List.mem_of_getElem? (i := 5) rfl)) (wU_r1 _ (List.mem_of_getElem? (i := 5) rfl)) (wU_r6 _ (List.mem_of_getElem? (i := 6) rfl))
theorem g_X7_sure_183 : GoodIn uX7_sure (wsV yX7_sure.cls 183 RX7 yX7_isStanding uX7_isStanding) := gU_V (wU_r25 _ (List.mem_of_getElem? (i := 9) rfl)) (wU_r25 _ (List.mem_of_getElem? (i := 10) rfl)) (wU_r25 _ (List.mem_of_getElem? (i := 11) rfl)) (wU_r1 _ (List.mem_of_getElem? (i := 5) rfl)) (wU_r25 _ (List.mem_of_getElem? (i := 12) rfl))
theorem g_X7_sure_208 : GoodIn uX7_sure (wsV yX7_sure.cls 208 RX7 yX7_goesNow uX7_goesNow) := gU_V (wU_r25 _ (List.mem_of_getElem? (i := 13) rfl)) (wU_r25 _ (List.mem_of_getElem? (i := 14) rfl)) (wU_r25 _ (List.mem_of_getElem? (i := 15) rfl)) (wU_r1 _ (List.mem_of_getElem? (i := 5) rfl)) (wU_r25 _ (List.mem_of_getElem? (i := 16) rfl))
theorem g_X7_sure_223 : GoodIn uX7_sure (wsV yX7_sure.cls 223 RX7 yX7_doesStrike uX7_doesStrike) := gU_V (wU_r31 _ (List.mem_of_getElem? (i := 2) rfl)) (wU_r31 _ (List.mem_of_getElem? (i := 3) rfl)) (wU_r31 _ (List.mem_of_getElem? (i := 4) rfl)) (wU_r1 _ (List.mem_of_getElem? (i := 5) rfl)) (wU_r31 _ (List.mem_of_getElem? (i := 5) rfl))
theorem w_X7_sure_f177 : Cond.fieldLink yX7_sure.cls 177 (TX7 18).1 (TX7 18).2.1 (TX7 18).2.2.1 ∈ uX7_sure := List.mem_cons_of_mem _ (wU_r25 _ (List.mem_of_getElem? (i := 5) rfl))
theorem g_X7_sure_230 : GoodIn uX7_sure (va_wsS yX7_sure.cls 230 yX7_divisor uX7_divisor) := gU_S (wU_r31 _ (List.mem_of_getElem? (i := 10) rfl)) (wU_r31 _ (List.mem_of_getElem? (i := 11) rfl)) (wU_r1 _ (List.mem_of_getElem? (i := 5) rfl)) (wU_r31 _ (List.mem_of_getElem? (i := 12) rfl))
theorem g_X7_sure_227 : GoodIn uX7_sure (wsV yX7_sure.cls 227 RX7 yX7_oftenOf uX7_oftenOf) := gU_V (wU_r31 _ (List.mem_of_getElem? (i := 6) rfl)) (wU_r31 _ (List.mem_of_getElem? (i := 7) rfl)) (wU_r31 _ (List.mem_of_getElem? (i := 8) rfl)) (wU_r1 _ (List.mem_of_getElem? (i := 5) rfl)) (wU_r31 _ (List.mem_of_getElem? (i := 9) rfl))
def f_X7_sure_120  (l4 : Int32) (s0 : Int32) (S : aSt) : Option (Int64 × aSt) := (aB (f_X7_divisor l4 (80 : Int32) S) (fun r7_ S7 => (if r7_ = 0 then none else (some (((s0 / r7_)).toInt64, S7)))))
set_option maxRecDepth 20000 in
set_option maxHeartbeats 4000000 in
theorem v_X7_sure_120 {G : aG} (hM : aMo G) (l4 : Int32) (s0 : Int32) (S : aSt) : aX G yX7_sure cX7_sure 7 (some .long) uX7_sure 6 mk_l (f_X7_sure_120 l4 s0 S) 120 [none, none, none, none, some (.int l4), none, none] [.int s0] S := by
  unfold f_X7_sure_120
  refine x_iload dX7_sure_120 rfl ?_
  refine x_bipush (80 : Int32) dX7_sure_122 (by decide) ?_
  refine x_b (fun r7_ S7 e7 => ?_)
  refine x_callSi (As := [.int l4, .int (80 : Int32)]) dX7_sure_124 (aMet_of e7 (m_X7_divisor l4 (80 : Int32) S)) g_X7_sure_230 rfl dd_X7_divisor rfl rfl (Nat.le_of_ble_eq_true rfl) (Nat.le_of_ble_eq_true rfl) (Nat.le_of_ble_eq_true rfl) ?_
  refine x_idiv dX7_sure_127 ?_
  refine x_i2l dX7_sure_128 ?_
  exact x_lret dX7_sure_129 rfl
def f_X7_sure_100 (r44 : Int32 → Int32 → Int32 → Int32 → Int32 → aSt → Option (Int64 × aSt)) (l1 : Int32) (l2 : Int32) (l3 : Int32) (l5 : Int32) (s0 : Int32) (s1 : Int32) (S : aSt) : Option (Int64 × aSt) := (aLt (s1 + s0) (fun x9 => (aLt (l5 + (1 : Int32)) (fun x10 => (r44 l1 l2 l3 x9 x10 S)))))
set_option maxRecDepth 20000 in
set_option maxHeartbeats 4000000 in
theorem v_X7_sure_100 {G : aG} (hM : aMo G) (r44 : Int32 → Int32 → Int32 → Int32 → Int32 → aSt → Option (Int64 × aSt)) (hr44 : ∀ (l1 : Int32) (l2 : Int32) (l3 : Int32) (l4 : Int32) (l5 : Int32) (S : aSt), aX G yX7_sure cX7_sure 7 (some .long) uX7_sure 6 mk_l (r44 l1 l2 l3 l4 l5 S) 44 [some (.ref (0)), some (.int l1), some (.int l2), some (.int l3), some (.int l4), some (.int l5), none] [] S) (l1 : Int32) (l2 : Int32) (l3 : Int32) (l5 : Int32) (s0 : Int32) (s1 : Int32) (S : aSt) : aX G yX7_sure cX7_sure 7 (some .long) uX7_sure 6 mk_l (f_X7_sure_100 r44 l1 l2 l3 l5 s0 s1 S) 100 [some (.ref (0)), some (.int l1), some (.int l2), some (.int l3), none, some (.int l5), none] [.int s0, .int s1] S := by
  unfold f_X7_sure_100
  refine x_iadd dX7_sure_100 ?_
  refine x_lti (fun x9 => ?_)
  refine x_istore dX7_sure_101 (Nat.le_of_ble_eq_true rfl) rfl ?_
  refine x_iincL (w := (1 : Int32)) dX7_sure_103 rfl (by decide) (Nat.le_of_ble_eq_true rfl) rfl (fun x10 => ?_)
  refine x_goto (tgt := 44) dX7_sure_106 (by decide) ?_
  exact x_le (hr44 l1 l2 l3 x9 x10 S) (And.intro rfl (And.intro rfl (And.intro rfl (And.intro rfl (And.intro rfl (And.intro rfl trivial))))))
def f_X7_sure_81 (r44 : Int32 → Int32 → Int32 → Int32 → Int32 → aSt → Option (Int64 × aSt)) (l1 : Int32) (l2 : Int32) (l3 : Int32) (l4 : Int32) (l5 : Int32) (s0 : Int32) (S : aSt) : Option (Int64 × aSt) := (if s0 = 0 then (f_X7_sure_100 r44 l1 l2 l3 l5 (0 : Int32) l4 S) else (aB (f_X7_oftenOf l5 S) (fun r8_ S8 => (f_X7_sure_100 r44 l1 l2 l3 l5 r8_ l4 S8))))
set_option maxRecDepth 20000 in
set_option maxHeartbeats 4000000 in
theorem v_X7_sure_81 {G : aG} (hM : aMo G) (r44 : Int32 → Int32 → Int32 → Int32 → Int32 → aSt → Option (Int64 × aSt)) (hr44 : ∀ (l1 : Int32) (l2 : Int32) (l3 : Int32) (l4 : Int32) (l5 : Int32) (S : aSt), aX G yX7_sure cX7_sure 7 (some .long) uX7_sure 6 mk_l (r44 l1 l2 l3 l4 l5 S) 44 [some (.ref (0)), some (.int l1), some (.int l2), some (.int l3), some (.int l4), some (.int l5), none] [] S) (l1 : Int32) (l2 : Int32) (l3 : Int32) (l4 : Int32) (l5 : Int32) (s0 : Int32) (S : aSt) : aX G yX7_sure cX7_sure 7 (some .long) uX7_sure 6 mk_l (f_X7_sure_81 r44 l1 l2 l3 l4 l5 s0 S) 81 [some (.ref (0)), some (.int l1), some (.int l2), some (.int l3), some (.int l4), some (.int l5), none] [.int s0] S := by
  unfold f_X7_sure_81
  refine x_istore dX7_sure_81 (Nat.le_of_ble_eq_true rfl) rfl ?_
  refine x_iload dX7_sure_83 rfl ?_
  refine x_iload dX7_sure_85 rfl ?_
  refine x_if_eq (tgt := 99) dX7_sure_87 (by decide) ?_ ?_
  · refine x_iconst (0 : Int32) dX7_sure_99 (by decide) ?_
    exact x_le (v_X7_sure_100 hM r44 hr44 l1 l2 l3 l5 (0 : Int32) l4 S) (And.intro rfl (And.intro rfl (And.intro rfl (And.intro rfl (And.intro rfl trivial)))))
  · refine x_aload_n dX7_sure_90 rfl rfl ?_
    refine x_iload dX7_sure_91 rfl ?_
    refine x_b (fun r8_ S8 e8 => ?_)
    refine x_callVi (As := [.int l5]) dX7_sure_93 (aMet_of e8 (m_X7_oftenOf hM l5 S)) g_X7_sure_227 rfl hM.1 rfl dd_X7_oftenOf rfl rfl (Nat.le_of_ble_eq_true rfl) (Nat.le_of_ble_eq_true rfl) (Nat.le_of_ble_eq_true rfl) ?_
    refine x_goto (tgt := 100) dX7_sure_96 (by decide) ?_
    exact x_le (v_X7_sure_100 hM r44 hr44 l1 l2 l3 l5 r8_ l4 S8) (And.intro rfl (And.intro rfl (And.intro rfl (And.intro rfl (And.intro rfl trivial)))))
def f_X7_sure_44  : Nat → Int32 → Int32 → Int32 → Int32 → Int32 → aSt → Option (Int64 × aSt)
  | 0, _, _, _, _, _, _ => none
  | n + 1, l1, l2, l3, l4, l5, S => (if (8 : Int32) ≤ l5 then (if l3 = 0 then (f_X7_sure_120 l4 l4 S) else (f_X7_sure_120 l4 (80 : Int32) S)) else (aB (f_X7_goesNow l1 l5 S) (fun r5_ S5 => (if l2 = 0 then (if (S5.1 (0) 18) = 0 then (f_X7_sure_81 (fun l1 l2 l3 l4 l5 S => (f_X7_sure_44 n l1 l2 l3 l4 l5 S)) l1 l2 l3 l4 l5 (1 : Int32) S5) else (f_X7_sure_81 (fun l1 l2 l3 l4 l5 S => (f_X7_sure_44 n l1 l2 l3 l4 l5 S)) l1 l2 l3 l4 l5 (0 : Int32) S5)) else (aB (f_X7_doesStrike S5) (fun r6_ S6 => (f_X7_sure_81 (fun l1 l2 l3 l4 l5 S => (f_X7_sure_44 n l1 l2 l3 l4 l5 S)) l1 l2 l3 l4 l5 r6_ S6)))))))
set_option maxRecDepth 20000 in
set_option maxHeartbeats 4000000 in
theorem v_X7_sure_44 {G : aG} (hM : aMo G) : ∀ (n : Nat) (l1 : Int32) (l2 : Int32) (l3 : Int32) (l4 : Int32) (l5 : Int32) (S : aSt), aX G yX7_sure cX7_sure 7 (some .long) uX7_sure 6 mk_l (f_X7_sure_44 n l1 l2 l3 l4 l5 S) 44 [some (.ref (0)), some (.int l1), some (.int l2), some (.int l3), some (.int l4), some (.int l5), none] [] S := by
  intro n
  induction n with
  | zero => intro l1 l2 l3 l4 l5 S; exact x_none
  | succ n ih =>
    intro l1 l2 l3 l4 l5 S
    unfold f_X7_sure_44
    refine x_iload dX7_sure_44 rfl ?_
    refine x_bipush (8 : Int32) dX7_sure_46 (by decide) ?_
    refine x_icmp_ge (tgt := 109) dX7_sure_48 (by decide) ?_ ?_
    · refine x_iload_n dX7_sure_109 rfl rfl ?_
      refine x_if_ne (tgt := 118) dX7_sure_110 (by decide) ?_ ?_
      · refine x_bipush (80 : Int32) dX7_sure_118 (by decide) ?_
        exact x_le (v_X7_sure_120 hM l4 (80 : Int32) S) (And.intro rfl trivial)
      · refine x_iload dX7_sure_113 rfl ?_
        refine x_goto (tgt := 120) dX7_sure_115 (by decide) ?_
        exact x_le (v_X7_sure_120 hM l4 l4 S) (And.intro rfl trivial)
    · refine x_aload_n dX7_sure_51 rfl rfl ?_
      refine x_iload_n dX7_sure_52 rfl rfl ?_
      refine x_iload dX7_sure_53 rfl ?_
      refine x_b (fun r5_ S5 e5 => ?_)
      refine x_callVv (As := [.int l1, .int l5]) dX7_sure_55 (aMet_of e5 (m_X7_goesNow hM l1 l5 S)) g_X7_sure_208 rfl hM.1 rfl dd_X7_goesNow rfl rfl (Nat.le_of_ble_eq_true rfl) (Nat.le_of_ble_eq_true rfl) (Nat.le_of_ble_eq_true rfl) ?_
      refine x_iload_n dX7_sure_58 rfl rfl ?_
      refine x_if_ne (tgt := 77) dX7_sure_59 (by decide) ?_ ?_
      · refine x_aload_n dX7_sure_77 rfl rfl ?_
        refine x_b (fun r6_ S6 e6 => ?_)
        refine x_callVi (As := []) dX7_sure_78 (aMet_of e6 (m_X7_doesStrike hM S5)) g_X7_sure_223 rfl hM.1 rfl dd_X7_doesStrike rfl rfl (Nat.le_of_ble_eq_true rfl) (Nat.le_of_ble_eq_true rfl) (Nat.le_of_ble_eq_true rfl) ?_
        exact x_le (v_X7_sure_81 hM (fun l1 l2 l3 l4 l5 S => (f_X7_sure_44 n l1 l2 l3 l4 l5 S)) ih l1 l2 l3 l4 l5 r6_ S6) (And.intro rfl (And.intro rfl (And.intro rfl (And.intro rfl (And.intro rfl (And.intro rfl trivial))))))
      · refine x_aload_n dX7_sure_62 rfl rfl ?_
        refine x_getI (k := 0) (j := 18) dX7_sure_63 hM.1 rfl rfl (Nat.le_of_ble_eq_true rfl) (fun w h => List.mem_cons_of_mem _ (inlX7 w h)) w_X7_sure_f177 ?_
        refine x_if_ne (tgt := 73) dX7_sure_66 (by decide) ?_ ?_
        · refine x_iconst (0 : Int32) dX7_sure_73 (by decide) ?_
          refine x_goto (tgt := 81) dX7_sure_74 (by decide) ?_
          exact x_le (v_X7_sure_81 hM (fun l1 l2 l3 l4 l5 S => (f_X7_sure_44 n l1 l2 l3 l4 l5 S)) ih l1 l2 l3 l4 l5 (0 : Int32) S5) (And.intro rfl (And.intro rfl (And.intro rfl (And.intro rfl (And.intro rfl (And.intro rfl trivial))))))
        · refine x_iconst (1 : Int32) dX7_sure_69 (by decide) ?_
          refine x_goto (tgt := 81) dX7_sure_70 (by decide) ?_
          exact x_le (v_X7_sure_81 hM (fun l1 l2 l3 l4 l5 S => (f_X7_sure_44 n l1 l2 l3 l4 l5 S)) ih l1 l2 l3 l4 l5 (1 : Int32) S5) (And.intro rfl (And.intro rfl (And.intro rfl (And.intro rfl (And.intro rfl (And.intro rfl trivial))))))
def f_X7_sure (p1 : Int32) (p2 : Int32) (p3 : Int32) (S : aSt) : Option (Int64 × aSt) := (aB (f_X7_isTree p1 S) (fun r1_ S1 => (if r1_ = 0 then (some ((-9223372036854775808 : Int64), S1)) else (aB (f_X7_in p2 (0 : Int32) (1 : Int32) S1) (fun r2_ S2 => (if r2_ = 0 then (some ((-9223372036854775808 : Int64), S2)) else (aB (f_X7_in p3 (0 : Int32) (1 : Int32) S2) (fun r3_ S3 => (if r3_ = 0 then (some ((-9223372036854775808 : Int64), S3)) else (aB (f_X7_isStanding p1 S3) (fun r4_ S4 => (if r4_ = 0 then (some ((-9223372036854775808 : Int64), S4)) else (f_X7_sure_44 aF p1 p2 p3 (0 : Int32) (-1 : Int32) S4)))))))))))))
set_option maxRecDepth 20000 in
set_option maxHeartbeats 4000000 in
theorem m_X7_sure {G : aG} (hM : aMo G) (p1 : Int32) (p2 : Int32) (p3 : Int32) (S : aSt) : aMet G yX7_sure uX7_sure 6 mk_l (f_X7_sure p1 p2 p3 S) [.ref (0), .int p1, .int p2, .int p3] S := by
  refine x_met (cc := cX7_sure) (nL := 7) (ret := (some .long)) (L := [some (.ref (0)), some (.int p1), some (.int p2), some (.int p3), none, none, none]) (by decide +kernel) rfl (And.intro rfl (And.intro rfl (And.intro rfl (And.intro rfl trivial)))) (Nat.le_of_ble_eq_true rfl) ?_
  unfold f_X7_sure
  refine x_aload_n dX7_sure_0 rfl rfl ?_
  refine x_iload_n dX7_sure_1 rfl rfl ?_
  refine x_b (fun r1_ S1 e1 => ?_)
  refine x_callVi (As := [.int p1]) dX7_sure_2 (aMet_of e1 (m_X7_isTree hM p1 S)) g_X7_sure_138 rfl hM.1 rfl dd_X7_isTree rfl rfl (Nat.le_of_ble_eq_true rfl) (Nat.le_of_ble_eq_true rfl) (Nat.le_of_ble_eq_true rfl) ?_
  refine x_if_eq (tgt := 34) dX7_sure_5 (by decide) ?_ ?_
  · refine x_ldc2 (v := (-9223372036854775808 : Int64)) dX7_sure_34 w_X7_sure_k211 ?_
    exact x_lret dX7_sure_37 rfl
  · refine x_iload_n dX7_sure_8 rfl rfl ?_
    refine x_iconst (0 : Int32) dX7_sure_9 (by decide) ?_
    refine x_iconst (1 : Int32) dX7_sure_10 (by decide) ?_
    refine x_b (fun r2_ S2 e2 => ?_)
    refine x_callSi (As := [.int p2, .int (0 : Int32), .int (1 : Int32)]) dX7_sure_11 (aMet_of e2 (m_X7_in p2 (0 : Int32) (1 : Int32) S1)) g_X7_sure_41 rfl dd_X7_in rfl rfl (Nat.le_of_ble_eq_true rfl) (Nat.le_of_ble_eq_true rfl) (Nat.le_of_ble_eq_true rfl) ?_
    refine x_if_eq (tgt := 34) dX7_sure_14 (by decide) ?_ ?_
    · refine x_ldc2 (v := (-9223372036854775808 : Int64)) dX7_sure_34 w_X7_sure_k211 ?_
      exact x_lret dX7_sure_37 rfl
    · refine x_iload_n dX7_sure_17 rfl rfl ?_
      refine x_iconst (0 : Int32) dX7_sure_18 (by decide) ?_
      refine x_iconst (1 : Int32) dX7_sure_19 (by decide) ?_
      refine x_b (fun r3_ S3 e3 => ?_)
      refine x_callSi (As := [.int p3, .int (0 : Int32), .int (1 : Int32)]) dX7_sure_20 (aMet_of e3 (m_X7_in p3 (0 : Int32) (1 : Int32) S2)) g_X7_sure_41 rfl dd_X7_in rfl rfl (Nat.le_of_ble_eq_true rfl) (Nat.le_of_ble_eq_true rfl) (Nat.le_of_ble_eq_true rfl) ?_
      refine x_if_eq (tgt := 34) dX7_sure_23 (by decide) ?_ ?_
      · refine x_ldc2 (v := (-9223372036854775808 : Int64)) dX7_sure_34 w_X7_sure_k211 ?_
        exact x_lret dX7_sure_37 rfl
      · refine x_aload_n dX7_sure_26 rfl rfl ?_
        refine x_iload_n dX7_sure_27 rfl rfl ?_
        refine x_b (fun r4_ S4 e4 => ?_)
        refine x_callVi (As := [.int p1]) dX7_sure_28 (aMet_of e4 (m_X7_isStanding hM p1 S3)) g_X7_sure_183 rfl hM.1 rfl dd_X7_isStanding rfl rfl (Nat.le_of_ble_eq_true rfl) (Nat.le_of_ble_eq_true rfl) (Nat.le_of_ble_eq_true rfl) ?_
        refine x_if_ne (tgt := 38) dX7_sure_31 (by decide) ?_ ?_
        · refine x_iconst (0 : Int32) dX7_sure_38 (by decide) ?_
          refine x_istore dX7_sure_39 (Nat.le_of_ble_eq_true rfl) rfl ?_
          refine x_iconst (-1 : Int32) dX7_sure_41 (by decide) ?_
          refine x_istore dX7_sure_42 (Nat.le_of_ble_eq_true rfl) rfl ?_
          exact x_le (v_X7_sure_44 hM aF p1 p2 p3 (0 : Int32) (-1 : Int32) S4) (And.intro rfl (And.intro rfl (And.intro rfl (And.intro rfl (And.intro rfl (And.intro rfl trivial))))))
        · refine x_ldc2 (v := (-9223372036854775808 : Int64)) dX7_sure_34 w_X7_sure_k211 ?_
          exact x_lret dX7_sure_37 rfl
theorem g_X7_stand_138 : GoodIn uX7_stand (wsV yX7_stand.cls 138 RX7 yX7_isTree uX7_isTree) := gU_V (wU_r19 _ (List.mem_of_getElem? (i := 1) rfl)) (wU_r19 _ (List.mem_of_getElem? (i := 2) rfl)) (wU_r19 _ (List.mem_of_getElem? (i := 3) rfl)) (wU_r1 _ (List.mem_of_getElem? (i := 5) rfl)) (wU_r19 _ (List.mem_of_getElem? (i := 4) rfl))
theorem w_X7_stand_k211 : Cond.constantLong yX7_stand.cls 211 (-9223372036854775808 : Int64) ∈ uX7_stand := List.mem_cons_of_mem _ (wU_r27 _ (List.mem_of_getElem? (i := 15) rfl))
theorem g_X7_stand_183 : GoodIn uX7_stand (wsV yX7_stand.cls 183 RX7 yX7_isStanding uX7_isStanding) := gU_V (wU_r25 _ (List.mem_of_getElem? (i := 9) rfl)) (wU_r25 _ (List.mem_of_getElem? (i := 10) rfl)) (wU_r25 _ (List.mem_of_getElem? (i := 11) rfl)) (wU_r1 _ (List.mem_of_getElem? (i := 5) rfl)) (wU_r25 _ (List.mem_of_getElem? (i := 12) rfl))
theorem w_X7_stand_f9 : Cond.fieldLink yX7_stand.cls 9 (TX7 1).1 (TX7 1).2.1 (TX7 1).2.2.1 ∈ uX7_stand := List.mem_cons_of_mem _ (wU_r4 _ (List.mem_of_getElem? (i := 14) rfl))
theorem g_X7_stand_208 : GoodIn uX7_stand (wsV yX7_stand.cls 208 RX7 yX7_goesNow uX7_goesNow) := gU_V (wU_r25 _ (List.mem_of_getElem? (i := 13) rfl)) (wU_r25 _ (List.mem_of_getElem? (i := 14) rfl)) (wU_r25 _ (List.mem_of_getElem? (i := 15) rfl)) (wU_r1 _ (List.mem_of_getElem? (i := 5) rfl)) (wU_r25 _ (List.mem_of_getElem? (i := 16) rfl))
theorem g_X7_stand_227 : GoodIn uX7_stand (wsV yX7_stand.cls 227 RX7 yX7_oftenOf uX7_oftenOf) := gU_V (wU_r31 _ (List.mem_of_getElem? (i := 6) rfl)) (wU_r31 _ (List.mem_of_getElem? (i := 7) rfl)) (wU_r31 _ (List.mem_of_getElem? (i := 8) rfl)) (wU_r1 _ (List.mem_of_getElem? (i := 5) rfl)) (wU_r31 _ (List.mem_of_getElem? (i := 9) rfl))
theorem w_X7_stand_f186 : Cond.fieldLink yX7_stand.cls 186 (TX7 20).1 (TX7 20).2.1 (TX7 20).2.2.1 ∈ uX7_stand := List.mem_cons_of_mem _ (wU_r26 _ (List.mem_of_getElem? (i := 22) rfl))
theorem g_X7_stand_174 : GoodIn uX7_stand (va_wsS yX7_stand.cls 174 yX7_size uX7_size) := gU_S (wU_r26 _ (List.mem_of_getElem? (i := 15) rfl)) (wU_r26 _ (List.mem_of_getElem? (i := 16) rfl)) (wU_r1 _ (List.mem_of_getElem? (i := 5) rfl)) (wU_r26 _ (List.mem_of_getElem? (i := 17) rfl))
theorem g_X7_stand_199 : GoodIn uX7_stand (wsV yX7_stand.cls 199 RX7 yX7_standingOn uX7_standingOn) := gU_V (wU_r27 _ (List.mem_of_getElem? (i := 2) rfl)) (wU_r27 _ (List.mem_of_getElem? (i := 3) rfl)) (wU_r27 _ (List.mem_of_getElem? (i := 4) rfl)) (wU_r1 _ (List.mem_of_getElem? (i := 5) rfl)) (wU_r27 _ (List.mem_of_getElem? (i := 5) rfl))
def f_X7_stand_169 (r82 : Int64 → Int64 → Int32 → Int32 → aSt → Option (Int64 × aSt)) (l2 : Int64) (l6 : Int32) (l7 : Int32) (s0 : Int64) (s1 : Int64) (S : aSt) : Option (Int64 × aSt) := (aLt (s1 ||| s0) (fun x11 => (aLt (l7 + (1 : Int32)) (fun x12 => (r82 l2 x11 l6 x12 S)))))
set_option maxRecDepth 20000 in
set_option maxHeartbeats 4000000 in
theorem v_X7_stand_169 {G : aG} (hM : aMo G) (r82 : Int64 → Int64 → Int32 → Int32 → aSt → Option (Int64 × aSt)) (hr82 : ∀ (l2 : Int64) (l4 : Int64) (l6 : Int32) (l7 : Int32) (S : aSt), aX G yX7_stand cX7_stand 9 (some .long) uX7_stand 6 mk_l (r82 l2 l4 l6 l7 S) 82 [some (.ref (0)), none, some (.long l2), none, some (.long l4), none, some (.int l6), some (.int l7), none] [] S) (l2 : Int64) (l6 : Int32) (l7 : Int32) (s0 : Int64) (s1 : Int64) (S : aSt) : aX G yX7_stand cX7_stand 9 (some .long) uX7_stand 6 mk_l (f_X7_stand_169 r82 l2 l6 l7 s0 s1 S) 169 [some (.ref (0)), none, some (.long l2), none, none, none, some (.int l6), some (.int l7), none] [.long s0, .long s1] S := by
  unfold f_X7_stand_169
  refine x_lor dX7_stand_169 ?_
  refine x_ltj (fun x11 => ?_)
  refine x_lstore dX7_stand_170 (Nat.le_of_ble_eq_true rfl) rfl ?_
  refine x_iincL (w := (1 : Int32)) dX7_stand_172 rfl (by decide) (Nat.le_of_ble_eq_true rfl) rfl (fun x12 => ?_)
  refine x_goto (tgt := 82) dX7_stand_175 (by decide) ?_
  exact x_le (hr82 l2 x11 l6 x12 S) (And.intro rfl (And.intro rfl (And.intro rfl (And.intro rfl (And.intro rfl trivial)))))
def f_X7_stand_57 (r25 : Int32 → Int64 → Int32 → aSt → Option (Int64 × aSt)) (l1 : Int32) (l4 : Int32) (s0 : Int64) (s1 : Int64) (S : aSt) : Option (Int64 × aSt) := (aLt (s1 ||| s0) (fun x8 => (aLt (l4 + (1 : Int32)) (fun x9 => (r25 l1 x8 x9 S)))))
set_option maxRecDepth 20000 in
set_option maxHeartbeats 4000000 in
theorem v_X7_stand_57 {G : aG} (hM : aMo G) (r25 : Int32 → Int64 → Int32 → aSt → Option (Int64 × aSt)) (hr25 : ∀ (l1 : Int32) (l2 : Int64) (l4 : Int32) (S : aSt), aX G yX7_stand cX7_stand 9 (some .long) uX7_stand 6 mk_l (r25 l1 l2 l4 S) 25 [some (.ref (0)), some (.int l1), some (.long l2), none, some (.int l4), none, none, none, none] [] S) (l1 : Int32) (l4 : Int32) (s0 : Int64) (s1 : Int64) (S : aSt) : aX G yX7_stand cX7_stand 9 (some .long) uX7_stand 6 mk_l (f_X7_stand_57 r25 l1 l4 s0 s1 S) 57 [some (.ref (0)), some (.int l1), none, none, some (.int l4), none, none, none, none] [.long s0, .long s1] S := by
  unfold f_X7_stand_57
  refine x_lor dX7_stand_57 ?_
  refine x_ltj (fun x8 => ?_)
  refine x_lstore_n dX7_stand_58 rfl (Nat.le_of_ble_eq_true rfl) rfl ?_
  refine x_iincL (w := (1 : Int32)) dX7_stand_59 rfl (by decide) (Nat.le_of_ble_eq_true rfl) rfl (fun x9 => ?_)
  refine x_goto (tgt := 25) dX7_stand_62 (by decide) ?_
  exact x_le (hr25 l1 x8 x9 S) (And.intro rfl (And.intro rfl (And.intro rfl (And.intro rfl trivial))))
def f_X7_stand_168 (r82 : Int64 → Int64 → Int32 → Int32 → aSt → Option (Int64 × aSt)) (l2 : Int64) (l6 : Int32) (l7 : Int32) (s0 : Int64) (S : aSt) : Option (Int64 × aSt) := (f_X7_stand_169 r82 l2 l6 l7 (0 : Int64) s0 S)
set_option maxRecDepth 20000 in
set_option maxHeartbeats 4000000 in
theorem v_X7_stand_168 {G : aG} (hM : aMo G) (r82 : Int64 → Int64 → Int32 → Int32 → aSt → Option (Int64 × aSt)) (hr82 : ∀ (l2 : Int64) (l4 : Int64) (l6 : Int32) (l7 : Int32) (S : aSt), aX G yX7_stand cX7_stand 9 (some .long) uX7_stand 6 mk_l (r82 l2 l4 l6 l7 S) 82 [some (.ref (0)), none, some (.long l2), none, some (.long l4), none, some (.int l6), some (.int l7), none] [] S) (l2 : Int64) (l6 : Int32) (l7 : Int32) (s0 : Int64) (S : aSt) : aX G yX7_stand cX7_stand 9 (some .long) uX7_stand 6 mk_l (f_X7_stand_168 r82 l2 l6 l7 s0 S) 168 [some (.ref (0)), none, some (.long l2), none, none, none, some (.int l6), some (.int l7), none] [.long s0] S := by
  unfold f_X7_stand_168
  refine x_lconst (0 : Int64) dX7_stand_168 (by decide) ?_
  exact x_le (v_X7_stand_169 hM r82 hr82 l2 l6 l7 (0 : Int64) s0 S) (And.intro rfl (And.intro rfl (And.intro rfl (And.intro rfl trivial))))
def f_X7_stand_130 (r82 : Int64 → Int64 → Int32 → Int32 → aSt → Option (Int64 × aSt)) (l2 : Int64) (l4 : Int64) (l6 : Int32) (l7 : Int32) (s0 : Int32) (S : aSt) : Option (Int64 × aSt) := (if s0 = 0 then (aB (f_X7_standingOn l7 (-1 : Int32) S) (fun r10_ S10 => (if r10_ = (-1 : Int32) then (if (lg_cmp ((l2 >>> ((l7).toInt64 &&& 63)) &&& (1 : Int64)) (0 : Int64)) = 0 then (f_X7_stand_169 r82 l2 l6 l7 ((1 : Int64) <<< ((l7).toInt64 &&& 63)) l4 S10) else (f_X7_stand_168 r82 l2 l6 l7 l4 S10)) else (f_X7_stand_168 r82 l2 l6 l7 l4 S10)))) else (f_X7_stand_168 r82 l2 l6 l7 l4 S))
set_option maxRecDepth 20000 in
set_option maxHeartbeats 4000000 in
theorem v_X7_stand_130 {G : aG} (hM : aMo G) (r82 : Int64 → Int64 → Int32 → Int32 → aSt → Option (Int64 × aSt)) (hr82 : ∀ (l2 : Int64) (l4 : Int64) (l6 : Int32) (l7 : Int32) (S : aSt), aX G yX7_stand cX7_stand 9 (some .long) uX7_stand 6 mk_l (r82 l2 l4 l6 l7 S) 82 [some (.ref (0)), none, some (.long l2), none, some (.long l4), none, some (.int l6), some (.int l7), none] [] S) (l2 : Int64) (l4 : Int64) (l6 : Int32) (l7 : Int32) (s0 : Int32) (S : aSt) : aX G yX7_stand cX7_stand 9 (some .long) uX7_stand 6 mk_l (f_X7_stand_130 r82 l2 l4 l6 l7 s0 S) 130 [some (.ref (0)), none, some (.long l2), none, some (.long l4), none, some (.int l6), some (.int l7), none] [.int s0] S := by
  unfold f_X7_stand_130
  refine x_istore dX7_stand_130 (Nat.le_of_ble_eq_true rfl) rfl ?_
  refine x_lload dX7_stand_132 rfl ?_
  refine x_iload dX7_stand_134 rfl ?_
  refine x_if_ne (tgt := 168) dX7_stand_136 (by decide) ?_ ?_
  · exact x_le (v_X7_stand_168 hM r82 hr82 l2 l6 l7 l4 S) (And.intro rfl (And.intro rfl (And.intro rfl (And.intro rfl trivial))))
  · refine x_aload_n dX7_stand_139 rfl rfl ?_
    refine x_iload dX7_stand_140 rfl ?_
    refine x_iconst (-1 : Int32) dX7_stand_142 (by decide) ?_
    refine x_b (fun r10_ S10 e10 => ?_)
    refine x_callVi (As := [.int l7, .int (-1 : Int32)]) dX7_stand_143 (aMet_of e10 (m_X7_standingOn hM l7 (-1 : Int32) S)) g_X7_stand_199 rfl hM.1 rfl dd_X7_standingOn rfl rfl (Nat.le_of_ble_eq_true rfl) (Nat.le_of_ble_eq_true rfl) (Nat.le_of_ble_eq_true rfl) ?_
    refine x_iconst (-1 : Int32) dX7_stand_146 (by decide) ?_
    refine x_icmp_ne (tgt := 168) dX7_stand_147 (by decide) ?_ ?_
    · exact x_le (v_X7_stand_168 hM r82 hr82 l2 l6 l7 l4 S10) (And.intro rfl (And.intro rfl (And.intro rfl (And.intro rfl trivial))))
    · refine x_lload_n dX7_stand_150 rfl rfl ?_
      refine x_iload dX7_stand_151 rfl ?_
      refine x_lshr dX7_stand_153 ?_
      refine x_lconst (1 : Int64) dX7_stand_154 (by decide) ?_
      refine x_land dX7_stand_155 ?_
      refine x_lconst (0 : Int64) dX7_stand_156 (by decide) ?_
      refine x_lcmp dX7_stand_157 ?_
      refine x_if_ne (tgt := 168) dX7_stand_158 (by decide) ?_ ?_
      · exact x_le (v_X7_stand_168 hM r82 hr82 l2 l6 l7 l4 S10) (And.intro rfl (And.intro rfl (And.intro rfl (And.intro rfl trivial))))
      · refine x_lconst (1 : Int64) dX7_stand_161 (by decide) ?_
        refine x_iload dX7_stand_162 rfl ?_
        refine x_lshl dX7_stand_164 ?_
        refine x_goto (tgt := 169) dX7_stand_165 (by decide) ?_
        exact x_le (v_X7_stand_169 hM r82 hr82 l2 l6 l7 ((1 : Int64) <<< ((l7).toInt64 &&& 63)) l4 S10) (And.intro rfl (And.intro rfl (And.intro rfl (And.intro rfl trivial))))
def f_X7_stand_129 (r82 : Int64 → Int64 → Int32 → Int32 → aSt → Option (Int64 × aSt)) (l2 : Int64) (l4 : Int64) (l6 : Int32) (l7 : Int32) (S : aSt) : Option (Int64 × aSt) := (f_X7_stand_130 r82 l2 l4 l6 l7 (0 : Int32) S)
set_option maxRecDepth 20000 in
set_option maxHeartbeats 4000000 in
theorem v_X7_stand_129 {G : aG} (hM : aMo G) (r82 : Int64 → Int64 → Int32 → Int32 → aSt → Option (Int64 × aSt)) (hr82 : ∀ (l2 : Int64) (l4 : Int64) (l6 : Int32) (l7 : Int32) (S : aSt), aX G yX7_stand cX7_stand 9 (some .long) uX7_stand 6 mk_l (r82 l2 l4 l6 l7 S) 82 [some (.ref (0)), none, some (.long l2), none, some (.long l4), none, some (.int l6), some (.int l7), none] [] S) (l2 : Int64) (l4 : Int64) (l6 : Int32) (l7 : Int32) (S : aSt) : aX G yX7_stand cX7_stand 9 (some .long) uX7_stand 6 mk_l (f_X7_stand_129 r82 l2 l4 l6 l7 S) 129 [some (.ref (0)), none, some (.long l2), none, some (.long l4), none, some (.int l6), some (.int l7), none] [] S := by
  unfold f_X7_stand_129
  refine x_iconst (0 : Int32) dX7_stand_129 (by decide) ?_
  exact x_le (v_X7_stand_130 hM r82 hr82 l2 l4 l6 l7 (0 : Int32) S) (And.intro rfl (And.intro rfl (And.intro rfl (And.intro rfl (And.intro rfl trivial)))))
def f_X7_stand_82  : Nat → Int64 → Int64 → Int32 → Int32 → aSt → Option (Int64 × aSt)
  | 0, _, _, _, _, _ => none
  | n + 1, l2, l4, l6, l7, S => (if (64 : Int32) ≤ l7 then (some (l4, S)) else (aB (f_X7_size ((l7 / (8 : Int32)) - (l6 / (8 : Int32))) S) (fun r6_ S6 => (if (1 : Int32) < r6_ then (f_X7_stand_129 (fun l2 l4 l6 l7 S => (f_X7_stand_82 n l2 l4 l6 l7 S)) l2 l4 l6 l7 S6) else (aB (f_X7_size ((l7 - l7 / (8 : Int32) * (8 : Int32)) - (l6 - l6 / (8 : Int32) * (8 : Int32))) S6) (fun r7_ S7 => (if (1 : Int32) < r7_ then (f_X7_stand_129 (fun l2 l4 l6 l7 S => (f_X7_stand_82 n l2 l4 l6 l7 S)) l2 l4 l6 l7 S7) else (f_X7_stand_130 (fun l2 l4 l6 l7 S => (f_X7_stand_82 n l2 l4 l6 l7 S)) l2 l4 l6 l7 (1 : Int32) S7))))))))
set_option maxRecDepth 20000 in
set_option maxHeartbeats 4000000 in
theorem v_X7_stand_82 {G : aG} (hM : aMo G) : ∀ (n : Nat) (l2 : Int64) (l4 : Int64) (l6 : Int32) (l7 : Int32) (S : aSt), aX G yX7_stand cX7_stand 9 (some .long) uX7_stand 6 mk_l (f_X7_stand_82 n l2 l4 l6 l7 S) 82 [some (.ref (0)), none, some (.long l2), none, some (.long l4), none, some (.int l6), some (.int l7), none] [] S := by
  intro n
  induction n with
  | zero => intro l2 l4 l6 l7 S; exact x_none
  | succ n ih =>
    intro l2 l4 l6 l7 S
    unfold f_X7_stand_82
    refine x_iload dX7_stand_82 rfl ?_
    refine x_bipush (64 : Int32) dX7_stand_84 (by decide) ?_
    refine x_icmp_ge (tgt := 178) dX7_stand_86 (by decide) ?_ ?_
    · refine x_lload dX7_stand_178 rfl ?_
      exact x_lret dX7_stand_180 rfl
    · refine x_iload dX7_stand_89 rfl ?_
      refine x_bipush (8 : Int32) dX7_stand_91 (by decide) ?_
      refine x_idivc dX7_stand_93 (by decide) ?_
      refine x_iload dX7_stand_94 rfl ?_
      refine x_bipush (8 : Int32) dX7_stand_96 (by decide) ?_
      refine x_idivc dX7_stand_98 (by decide) ?_
      refine x_isub dX7_stand_99 ?_
      refine x_b (fun r6_ S6 e6 => ?_)
      refine x_callSi (As := [.int ((l7 / (8 : Int32)) - (l6 / (8 : Int32)))]) dX7_stand_100 (aMet_of e6 (m_X7_size ((l7 / (8 : Int32)) - (l6 / (8 : Int32))) S)) g_X7_stand_174 rfl dd_X7_size rfl rfl (Nat.le_of_ble_eq_true rfl) (Nat.le_of_ble_eq_true rfl) (Nat.le_of_ble_eq_true rfl) ?_
      refine x_iconst (1 : Int32) dX7_stand_103 (by decide) ?_
      refine x_icmp_gt (tgt := 129) dX7_stand_104 (by decide) ?_ ?_
      · exact x_le (v_X7_stand_129 hM (fun l2 l4 l6 l7 S => (f_X7_stand_82 n l2 l4 l6 l7 S)) ih l2 l4 l6 l7 S6) (And.intro rfl (And.intro rfl (And.intro rfl (And.intro rfl (And.intro rfl trivial)))))
      · refine x_iload dX7_stand_107 rfl ?_
        refine x_bipush (8 : Int32) dX7_stand_109 (by decide) ?_
        refine x_iremc dX7_stand_111 (by decide) ?_
        refine x_iload dX7_stand_112 rfl ?_
        refine x_bipush (8 : Int32) dX7_stand_114 (by decide) ?_
        refine x_iremc dX7_stand_116 (by decide) ?_
        refine x_isub dX7_stand_117 ?_
        refine x_b (fun r7_ S7 e7 => ?_)
        refine x_callSi (As := [.int ((l7 - l7 / (8 : Int32) * (8 : Int32)) - (l6 - l6 / (8 : Int32) * (8 : Int32)))]) dX7_stand_118 (aMet_of e7 (m_X7_size ((l7 - l7 / (8 : Int32) * (8 : Int32)) - (l6 - l6 / (8 : Int32) * (8 : Int32))) S6)) g_X7_stand_174 rfl dd_X7_size rfl rfl (Nat.le_of_ble_eq_true rfl) (Nat.le_of_ble_eq_true rfl) (Nat.le_of_ble_eq_true rfl) ?_
        refine x_iconst (1 : Int32) dX7_stand_121 (by decide) ?_
        refine x_icmp_gt (tgt := 129) dX7_stand_122 (by decide) ?_ ?_
        · exact x_le (v_X7_stand_129 hM (fun l2 l4 l6 l7 S => (f_X7_stand_82 n l2 l4 l6 l7 S)) ih l2 l4 l6 l7 S7) (And.intro rfl (And.intro rfl (And.intro rfl (And.intro rfl (And.intro rfl trivial)))))
        · refine x_iconst (1 : Int32) dX7_stand_125 (by decide) ?_
          refine x_goto (tgt := 130) dX7_stand_126 (by decide) ?_
          exact x_le (v_X7_stand_130 hM (fun l2 l4 l6 l7 S => (f_X7_stand_82 n l2 l4 l6 l7 S)) ih l2 l4 l6 l7 (1 : Int32) S7) (And.intro rfl (And.intro rfl (And.intro rfl (And.intro rfl (And.intro rfl trivial)))))
def f_X7_stand_25  : Nat → Int32 → Int64 → Int32 → aSt → Option (Int64 × aSt)
  | 0, _, _, _, _ => none
  | n + 1, l1, l2, l4, S => (if (8 : Int32) ≤ l4 then (if ((122 : Int32) + l1) < 0 ∨ 979 ≤ (((122 : Int32) + l1)).toNatClampNeg then none else (aLt (S.1 (1) (((122 : Int32) + l1)).toNatClampNeg) (fun x3 => (f_X7_stand_82 aF l2 (0 : Int64) x3 (0 : Int32) S)))) else (aB (f_X7_goesNow l1 l4 S) (fun r4_ S4 => (aB (f_X7_oftenOf l4 S4) (fun r5_ S5 => (if r5_ ≤ 0 then (f_X7_stand_57 (fun l1 l2 l4 S => (f_X7_stand_25 n l1 l2 l4 S)) l1 l4 (0 : Int64) l2 S5) else (f_X7_stand_57 (fun l1 l2 l4 S => (f_X7_stand_25 n l1 l2 l4 S)) l1 l4 (S5.2 (0) 20) l2 S5)))))))
set_option maxRecDepth 20000 in
set_option maxHeartbeats 4000000 in
theorem v_X7_stand_25 {G : aG} (hM : aMo G) : ∀ (n : Nat) (l1 : Int32) (l2 : Int64) (l4 : Int32) (S : aSt), aX G yX7_stand cX7_stand 9 (some .long) uX7_stand 6 mk_l (f_X7_stand_25 n l1 l2 l4 S) 25 [some (.ref (0)), some (.int l1), some (.long l2), none, some (.int l4), none, none, none, none] [] S := by
  intro n
  induction n with
  | zero => intro l1 l2 l4 S; exact x_none
  | succ n ih =>
    intro l1 l2 l4 S
    unfold f_X7_stand_25
    refine x_iload dX7_stand_25 rfl ?_
    refine x_bipush (8 : Int32) dX7_stand_27 (by decide) ?_
    refine x_icmp_ge (tgt := 65) dX7_stand_29 (by decide) ?_ ?_
    · refine x_lconst (0 : Int64) dX7_stand_65 (by decide) ?_
      refine x_lstore dX7_stand_66 (Nat.le_of_ble_eq_true rfl) rfl ?_
      refine x_aload_n dX7_stand_68 rfl rfl ?_
      refine x_getR (r := 1) (k := 0) (j := 1) dX7_stand_69 hM.1 rfl rfl (Nat.le_of_ble_eq_true rfl) (fun w h => List.mem_cons_of_mem _ (inlX7 w h)) w_X7_stand_f9 ?_
      refine x_bipush (122 : Int32) dX7_stand_72 (by decide) ?_
      refine x_iload_n dX7_stand_74 rfl rfl ?_
      refine x_iadd dX7_stand_75 ?_
      refine x_iald dX7_stand_76 hM.2.1 ?_
      refine x_lti (fun x3 => ?_)
      refine x_istore dX7_stand_77 (Nat.le_of_ble_eq_true rfl) rfl ?_
      refine x_iconst (0 : Int32) dX7_stand_79 (by decide) ?_
      refine x_istore dX7_stand_80 (Nat.le_of_ble_eq_true rfl) rfl ?_
      exact x_le (v_X7_stand_82 hM aF l2 (0 : Int64) x3 (0 : Int32) S) (And.intro rfl (And.intro rfl (And.intro rfl (And.intro rfl (And.intro rfl trivial)))))
    · refine x_aload_n dX7_stand_32 rfl rfl ?_
      refine x_iload_n dX7_stand_33 rfl rfl ?_
      refine x_iload dX7_stand_34 rfl ?_
      refine x_b (fun r4_ S4 e4 => ?_)
      refine x_callVv (As := [.int l1, .int l4]) dX7_stand_36 (aMet_of e4 (m_X7_goesNow hM l1 l4 S)) g_X7_stand_208 rfl hM.1 rfl dd_X7_goesNow rfl rfl (Nat.le_of_ble_eq_true rfl) (Nat.le_of_ble_eq_true rfl) (Nat.le_of_ble_eq_true rfl) ?_
      refine x_lload_n dX7_stand_39 rfl rfl ?_
      refine x_aload_n dX7_stand_40 rfl rfl ?_
      refine x_iload dX7_stand_41 rfl ?_
      refine x_b (fun r5_ S5 e5 => ?_)
      refine x_callVi (As := [.int l4]) dX7_stand_43 (aMet_of e5 (m_X7_oftenOf hM l4 S4)) g_X7_stand_227 rfl hM.1 rfl dd_X7_oftenOf rfl rfl (Nat.le_of_ble_eq_true rfl) (Nat.le_of_ble_eq_true rfl) (Nat.le_of_ble_eq_true rfl) ?_
      refine x_if_le (tgt := 56) dX7_stand_46 (by decide) ?_ ?_
      · refine x_lconst (0 : Int64) dX7_stand_56 (by decide) ?_
        exact x_le (v_X7_stand_57 hM (fun l1 l2 l4 S => (f_X7_stand_25 n l1 l2 l4 S)) ih l1 l4 (0 : Int64) l2 S5) (And.intro rfl (And.intro rfl (And.intro rfl trivial)))
      · refine x_aload_n dX7_stand_49 rfl rfl ?_
        refine x_getJ (k := 0) (j := 20) dX7_stand_50 hM.1 rfl rfl (Nat.le_of_ble_eq_true rfl) (fun w h => List.mem_cons_of_mem _ (inlX7 w h)) w_X7_stand_f186 ?_
        refine x_goto (tgt := 57) dX7_stand_53 (by decide) ?_
        exact x_le (v_X7_stand_57 hM (fun l1 l2 l4 S => (f_X7_stand_25 n l1 l2 l4 S)) ih l1 l4 (S5.2 (0) 20) l2 S5) (And.intro rfl (And.intro rfl (And.intro rfl trivial)))
def f_X7_stand (p1 : Int32) (S : aSt) : Option (Int64 × aSt) := (aB (f_X7_isTree p1 S) (fun r1_ S1 => (if r1_ = 0 then (some ((-9223372036854775808 : Int64), S1)) else (aB (f_X7_isStanding p1 S1) (fun r2_ S2 => (if r2_ = 0 then (some ((-9223372036854775808 : Int64), S2)) else (f_X7_stand_25 aF p1 (0 : Int64) (-1 : Int32) S2)))))))
set_option maxRecDepth 20000 in
set_option maxHeartbeats 4000000 in
theorem m_X7_stand {G : aG} (hM : aMo G) (p1 : Int32) (S : aSt) : aMet G yX7_stand uX7_stand 6 mk_l (f_X7_stand p1 S) [.ref (0), .int p1] S := by
  refine x_met (cc := cX7_stand) (nL := 9) (ret := (some .long)) (L := [some (.ref (0)), some (.int p1), none, none, none, none, none, none, none]) (by decide +kernel) rfl (And.intro rfl (And.intro rfl trivial)) (Nat.le_of_ble_eq_true rfl) ?_
  unfold f_X7_stand
  refine x_aload_n dX7_stand_0 rfl rfl ?_
  refine x_iload_n dX7_stand_1 rfl rfl ?_
  refine x_b (fun r1_ S1 e1 => ?_)
  refine x_callVi (As := [.int p1]) dX7_stand_2 (aMet_of e1 (m_X7_isTree hM p1 S)) g_X7_stand_138 rfl hM.1 rfl dd_X7_isTree rfl rfl (Nat.le_of_ble_eq_true rfl) (Nat.le_of_ble_eq_true rfl) (Nat.le_of_ble_eq_true rfl) ?_
  refine x_if_eq (tgt := 16) dX7_stand_5 (by decide) ?_ ?_
  · refine x_ldc2 (v := (-9223372036854775808 : Int64)) dX7_stand_16 w_X7_stand_k211 ?_
    exact x_lret dX7_stand_19 rfl
  · refine x_aload_n dX7_stand_8 rfl rfl ?_
    refine x_iload_n dX7_stand_9 rfl rfl ?_
    refine x_b (fun r2_ S2 e2 => ?_)
    refine x_callVi (As := [.int p1]) dX7_stand_10 (aMet_of e2 (m_X7_isStanding hM p1 S1)) g_X7_stand_183 rfl hM.1 rfl dd_X7_isStanding rfl rfl (Nat.le_of_ble_eq_true rfl) (Nat.le_of_ble_eq_true rfl) (Nat.le_of_ble_eq_true rfl) ?_
    refine x_if_ne (tgt := 20) dX7_stand_13 (by decide) ?_ ?_
    · refine x_lconst (0 : Int64) dX7_stand_20 (by decide) ?_
      refine x_lstore_n dX7_stand_21 rfl (Nat.le_of_ble_eq_true rfl) rfl ?_
      refine x_iconst (-1 : Int32) dX7_stand_22 (by decide) ?_
      refine x_istore dX7_stand_23 (Nat.le_of_ble_eq_true rfl) rfl ?_
      exact x_le (v_X7_stand_25 hM aF p1 (0 : Int64) (-1 : Int32) S2) (And.intro rfl (And.intro rfl (And.intro rfl (And.intro rfl trivial))))
    · refine x_ldc2 (v := (-9223372036854775808 : Int64)) dX7_stand_16 w_X7_stand_k211 ?_
      exact x_lret dX7_stand_19 rfl
theorem w_X7_standingMany_f9 : Cond.fieldLink yX7_standingMany.cls 9 (TX7 1).1 (TX7 1).2.1 (TX7 1).2.2.1 ∈ uX7_standingMany := List.mem_cons_of_mem _ (wU_r4 _ (List.mem_of_getElem? (i := 14) rfl))
def f_X7_standingMany_4  : Nat → Int32 → Int32 → aSt → Option (Int32 × aSt)
  | 0, _, _, _ => none
  | n + 1, l1, l2, S => (if (S.1 (1) 0) ≤ l2 then (some (l1, S)) else (if ((152 : Int32) + l2) < 0 ∨ 979 ≤ (((152 : Int32) + l2)).toNatClampNeg then none else (aLt (l1 + (S.1 (1) (((152 : Int32) + l2)).toNatClampNeg)) (fun x1 => (aLt (l2 + (1 : Int32)) (fun x2 => (f_X7_standingMany_4 n x1 x2 S)))))))
set_option maxRecDepth 20000 in
set_option maxHeartbeats 4000000 in
theorem v_X7_standingMany_4 {G : aG} (hM : aMo G) : ∀ (n : Nat) (l1 : Int32) (l2 : Int32) (S : aSt), aX G yX7_standingMany cX7_standingMany 3 (some .int) uX7_standingMany 2 mk_i (f_X7_standingMany_4 n l1 l2 S) 4 [some (.ref (0)), some (.int l1), some (.int l2)] [] S := by
  intro n
  induction n with
  | zero => intro l1 l2 S; exact x_none
  | succ n ih =>
    intro l1 l2 S
    unfold f_X7_standingMany_4
    refine x_iload_n dX7_standingMany_4 rfl rfl ?_
    refine x_aload_n dX7_standingMany_5 rfl rfl ?_
    refine x_getR (r := 1) (k := 0) (j := 1) dX7_standingMany_6 hM.1 rfl rfl (Nat.le_of_ble_eq_true rfl) (fun w h => List.mem_cons_of_mem _ (inlX7 w h)) w_X7_standingMany_f9 ?_
    refine x_iconst (0 : Int32) dX7_standingMany_9 (by decide) ?_
    refine x_ialdc (j := 0) dX7_standingMany_10 hM.2.1 (by unfold vp_in; decide) (by decide) ?_
    refine x_icmp_ge (tgt := 33) dX7_standingMany_11 (by decide) ?_ ?_
    · refine x_iload_n dX7_standingMany_33 rfl rfl ?_
      exact x_iret dX7_standingMany_34 rfl
    · refine x_iload_n dX7_standingMany_14 rfl rfl ?_
      refine x_aload_n dX7_standingMany_15 rfl rfl ?_
      refine x_getR (r := 1) (k := 0) (j := 1) dX7_standingMany_16 hM.1 rfl rfl (Nat.le_of_ble_eq_true rfl) (fun w h => List.mem_cons_of_mem _ (inlX7 w h)) w_X7_standingMany_f9 ?_
      refine x_sipush (152 : Int32) dX7_standingMany_19 (by decide) ?_
      refine x_iload_n dX7_standingMany_22 rfl rfl ?_
      refine x_iadd dX7_standingMany_23 ?_
      refine x_iald dX7_standingMany_24 hM.2.1 ?_
      refine x_iadd dX7_standingMany_25 ?_
      refine x_lti (fun x1 => ?_)
      refine x_istore_n dX7_standingMany_26 rfl (Nat.le_of_ble_eq_true rfl) rfl ?_
      refine x_iincL (w := (1 : Int32)) dX7_standingMany_27 rfl (by decide) (Nat.le_of_ble_eq_true rfl) rfl (fun x2 => ?_)
      refine x_goto (tgt := 4) dX7_standingMany_30 (by decide) ?_
      exact x_le (ih x1 x2 S) (And.intro rfl (And.intro rfl (And.intro rfl trivial)))
def f_X7_standingMany  (S : aSt) : Option (Int32 × aSt) := (f_X7_standingMany_4 aF (0 : Int32) (0 : Int32) S)
set_option maxRecDepth 20000 in
set_option maxHeartbeats 4000000 in
theorem m_X7_standingMany {G : aG} (hM : aMo G)  (S : aSt) : aMet G yX7_standingMany uX7_standingMany 2 mk_i (f_X7_standingMany S) [.ref (0)] S := by
  refine x_met (cc := cX7_standingMany) (nL := 3) (ret := (some .int)) (L := [some (.ref (0)), none, none]) (by decide +kernel) rfl (And.intro rfl trivial) (Nat.le_of_ble_eq_true rfl) ?_
  unfold f_X7_standingMany
  refine x_iconst (0 : Int32) dX7_standingMany_0 (by decide) ?_
  refine x_istore_n dX7_standingMany_1 rfl (Nat.le_of_ble_eq_true rfl) rfl ?_
  refine x_iconst (0 : Int32) dX7_standingMany_2 (by decide) ?_
  refine x_istore_n dX7_standingMany_3 rfl (Nat.le_of_ble_eq_true rfl) rfl ?_
  exact x_le (v_X7_standingMany_4 hM aF (0 : Int32) (0 : Int32) S) (And.intro rfl (And.intro rfl (And.intro rfl trivial)))

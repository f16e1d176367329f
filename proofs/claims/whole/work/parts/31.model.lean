/-! written by program: what the bytecode does, and the walk -/
theorem w_X7_tellsOf_f9 : Cond.fieldLink yX7_tellsOf.cls 9 (TX7 1).1 (TX7 1).2.1 (TX7 1).2.2.1 ∈ uX7_tellsOf := List.mem_cons_of_mem _ (wU_r4 _ (List.mem_of_getElem? (i := 14) rfl))
def f_X7_tellsOf (p1 : Int32) (p2 : Int32) (S : aSt) : Option (Int32 × aSt) := (if (S.1 (1) 4) = (-1 : Int32) then (some (p2, S)) else (if (p1 + (S.1 (1) 4)) < 0 ∨ 979 ≤ ((p1 + (S.1 (1) 4))).toNatClampNeg then none else (some ((S.1 (1) ((p1 + (S.1 (1) 4))).toNatClampNeg), S))))
set_option maxRecDepth 20000 in
set_option maxHeartbeats 4000000 in
theorem m_X7_tellsOf {G : aG} (hM : aMo G) (p1 : Int32) (p2 : Int32) (S : aSt) : aMet G yX7_tellsOf uX7_tellsOf 2 mk_i (f_X7_tellsOf p1 p2 S) [.ref (0), .int p1, .int p2] S := by
  refine x_met (cc := cX7_tellsOf) (nL := 3) (ret := (some .int)) (L := [some (.ref (0)), some (.int p1), some (.int p2)]) (by decide +kernel) rfl (And.intro rfl (And.intro rfl (And.intro rfl trivial))) (Nat.le_of_ble_eq_true rfl) ?_
  unfold f_X7_tellsOf
  refine x_aload_n dX7_tellsOf_0 rfl rfl ?_
  refine x_getR (r := 1) (k := 0) (j := 1) dX7_tellsOf_1 hM.1 rfl rfl (Nat.le_of_ble_eq_true rfl) (fun w h => List.mem_cons_of_mem _ (inlX7 w h)) w_X7_tellsOf_f9 ?_
  refine x_iconst (4 : Int32) dX7_tellsOf_4 (by decide) ?_
  refine x_ialdc (j := 4) dX7_tellsOf_5 hM.2.1 (by unfold vp_in; decide) (by decide) ?_
  refine x_iconst (-1 : Int32) dX7_tellsOf_6 (by decide) ?_
  refine x_icmp_ne (tgt := 14) dX7_tellsOf_7 (by decide) ?_ ?_
  · refine x_aload_n dX7_tellsOf_14 rfl rfl ?_
    refine x_getR (r := 1) (k := 0) (j := 1) dX7_tellsOf_15 hM.1 rfl rfl (Nat.le_of_ble_eq_true rfl) (fun w h => List.mem_cons_of_mem _ (inlX7 w h)) w_X7_tellsOf_f9 ?_
    refine x_iload_n dX7_tellsOf_18 rfl rfl ?_
    refine x_aload_n dX7_tellsOf_19 rfl rfl ?_
    refine x_getR (r := 1) (k := 0) (j := 1) dX7_tellsOf_20 hM.1 rfl rfl (Nat.le_of_ble_eq_true rfl) (fun w h => List.mem_cons_of_mem _ (inlX7 w h)) w_X7_tellsOf_f9 ?_
    refine x_iconst (4 : Int32) dX7_tellsOf_23 (by decide) ?_
    refine x_ialdc (j := 4) dX7_tellsOf_24 hM.2.1 (by unfold vp_in; decide) (by decide) ?_
    refine x_iadd dX7_tellsOf_25 ?_
    refine x_iald dX7_tellsOf_26 hM.2.1 ?_
    exact x_iret dX7_tellsOf_27 rfl
  · refine x_iload_n dX7_tellsOf_10 rfl rfl ?_
    refine x_goto (tgt := 27) dX7_tellsOf_11 (by decide) ?_
    exact x_iret dX7_tellsOf_27 rfl
theorem dd_X7_tellsOf : yX7_tellsOf.cls = RX7 ∧ yX7_tellsOf.cls ≠ "java/lang/invoke/MethodHandle" ∧ yX7_tellsOf.cls ≠ "java/lang/invoke/VarHandle" ∧ (parseMethodDescriptor yX7_tellsOf.desc).map (fun d => d.parameters.length) = some 2 := by decide +kernel
theorem w_X7_told_f9 : Cond.fieldLink yX7_told.cls 9 (TX7 1).1 (TX7 1).2.1 (TX7 1).2.2.1 ∈ uX7_told := List.mem_cons_of_mem _ (wU_r4 _ (List.mem_of_getElem? (i := 14) rfl))
theorem g_X7_told_125 : GoodIn uX7_told (wsV yX7_told.cls 125 RX7 yX7_tellsOf uX7_tellsOf) := gU_V (wU_r17 _ (List.mem_of_getElem? (i := 1) rfl)) (wU_r17 _ (List.mem_of_getElem? (i := 2) rfl)) (wU_r17 _ (List.mem_of_getElem? (i := 3) rfl)) (wU_r1 _ (List.mem_of_getElem? (i := 5) rfl)) (wU_r17 _ (List.mem_of_getElem? (i := 4) rfl))
def f_X7_told (p1 : Int32) (S : aSt) : Option (Int32 × aSt) := (if p1 = (0 : Int32) then (aB (f_X7_tellsOf (200 : Int32) (3 : Int32) S) (fun r2_ S2 => (some (r2_, S2)))) else (if p1 = (1 : Int32) then (aB (f_X7_tellsOf (205 : Int32) (2 : Int32) S) (fun r1_ S1 => (some (r1_, S1)))) else (if p1 = (2 : Int32) then (some ((S.1 (1) 5), S)) else (some ((-1 : Int32), S)))))
set_option maxRecDepth 20000 in
set_option maxHeartbeats 4000000 in
theorem m_X7_told {G : aG} (hM : aMo G) (p1 : Int32) (S : aSt) : aMet G yX7_told uX7_told 3 mk_i (f_X7_told p1 S) [.ref (0), .int p1] S := by
  refine x_met (cc := cX7_told) (nL := 2) (ret := (some .int)) (L := [some (.ref (0)), some (.int p1)]) (by decide +kernel) rfl (And.intro rfl (And.intro rfl trivial)) (Nat.le_of_ble_eq_true rfl) ?_
  unfold f_X7_told
  refine x_iload_n dX7_told_0 rfl rfl ?_
  refine x_sw (0 : Int32) ?_ (fun hv0 => ?_)
  · refine x_tabIn (off := 27) (tgt := 28) dX7_told_1 (by decide) (by decide) (by decide) (by decide) ?_
    refine x_aload_n dX7_told_28 rfl rfl ?_
    refine x_sipush (200 : Int32) dX7_told_29 (by decide) ?_
    refine x_iconst (3 : Int32) dX7_told_32 (by decide) ?_
    refine x_b (fun r2_ S2 e2 => ?_)
    refine x_callVi (As := [.int (200 : Int32), .int (3 : Int32)]) dX7_told_33 (aMet_of e2 (m_X7_tellsOf hM (200 : Int32) (3 : Int32) S)) g_X7_told_125 rfl hM.1 rfl dd_X7_tellsOf rfl rfl (Nat.le_of_ble_eq_true rfl) (Nat.le_of_ble_eq_true rfl) (Nat.le_of_ble_eq_true rfl) ?_
    exact x_iret dX7_told_36 rfl
  · refine x_sw (1 : Int32) ?_ (fun hv1 => ?_)
    · refine x_tabIn (off := 36) (tgt := 37) dX7_told_1 (by decide) (by decide) (by decide) (by decide) ?_
      refine x_aload_n dX7_told_37 rfl rfl ?_
      refine x_sipush (205 : Int32) dX7_told_38 (by decide) ?_
      refine x_iconst (2 : Int32) dX7_told_41 (by decide) ?_
      refine x_b (fun r1_ S1 e1 => ?_)
      refine x_callVi (As := [.int (205 : Int32), .int (2 : Int32)]) dX7_told_42 (aMet_of e1 (m_X7_tellsOf hM (205 : Int32) (2 : Int32) S)) g_X7_told_125 rfl hM.1 rfl dd_X7_tellsOf rfl rfl (Nat.le_of_ble_eq_true rfl) (Nat.le_of_ble_eq_true rfl) (Nat.le_of_ble_eq_true rfl) ?_
      exact x_iret dX7_told_45 rfl
    · refine x_sw (2 : Int32) ?_ (fun hv2 => ?_)
      · refine x_tabIn (off := 45) (tgt := 46) dX7_told_1 (by decide) (by decide) (by decide) (by decide) ?_
        refine x_aload_n dX7_told_46 rfl rfl ?_
        refine x_getR (r := 1) (k := 0) (j := 1) dX7_told_47 hM.1 rfl rfl (Nat.le_of_ble_eq_true rfl) (fun w h => List.mem_cons_of_mem _ (inlX7 w h)) w_X7_told_f9 ?_
        refine x_iconst (5 : Int32) dX7_told_50 (by decide) ?_
        refine x_ialdc (j := 5) dX7_told_51 hM.2.1 (by unfold vp_in; decide) (by decide) ?_
        exact x_iret dX7_told_52 rfl
      · refine x_tabOut (tgt := 53) dX7_told_1 (a_out 3 [(0 : Int32), (1 : Int32), (2 : Int32)] (by decide) (by decide +kernel) (List.forall_mem_cons.mpr ⟨hv0, (List.forall_mem_cons.mpr ⟨hv1, (List.forall_mem_cons.mpr ⟨hv2, (fun _ h => absurd h List.not_mem_nil)⟩)⟩)⟩)) (by decide) ?_
        refine x_iconst (-1 : Int32) dX7_told_53 (by decide) ?_
        exact x_iret dX7_told_54 rfl
theorem w_X7_looks_f18 : Cond.fieldLink yX7_looks.cls 18 (TX7 9).1 (TX7 9).2.1 (TX7 9).2.2.1 ∈ uX7_looks := List.mem_cons_of_mem _ (wU_r4 _ (List.mem_of_getElem? (i := 16) rfl))
theorem w_X7_looks_f9 : Cond.fieldLink yX7_looks.cls 9 (TX7 1).1 (TX7 1).2.1 (TX7 1).2.2.1 ∈ uX7_looks := List.mem_cons_of_mem _ (wU_r4 _ (List.mem_of_getElem? (i := 14) rfl))
theorem w_X7_looks_f129 : Cond.fieldLink yX7_looks.cls 129 (TX7 11).1 (TX7 11).2.1 (TX7 11).2.2.1 ∈ uX7_looks := List.mem_cons_of_mem _ (wU_r25 _ (List.mem_of_getElem? (i := 22) rfl))
theorem w_X7_looks_f132 : Cond.fieldLink yX7_looks.cls 132 (TX7 12).1 (TX7 12).2.1 (TX7 12).2.2.1 ∈ uX7_looks := List.mem_cons_of_mem _ (wU_r25 _ (List.mem_of_getElem? (i := 23) rfl))
theorem w_X7_looks_f135 : Cond.fieldLink yX7_looks.cls 135 (TX7 13).1 (TX7 13).2.1 (TX7 13).2.2.1 ∈ uX7_looks := List.mem_cons_of_mem _ (wU_r25 _ (List.mem_of_getElem? (i := 21) rfl))
theorem g_X7_looks_125 : GoodIn uX7_looks (wsV yX7_looks.cls 125 RX7 yX7_tellsOf uX7_tellsOf) := gU_V (wU_r17 _ (List.mem_of_getElem? (i := 1) rfl)) (wU_r17 _ (List.mem_of_getElem? (i := 2) rfl)) (wU_r17 _ (List.mem_of_getElem? (i := 3) rfl)) (wU_r1 _ (List.mem_of_getElem? (i := 5) rfl)) (wU_r17 _ (List.mem_of_getElem? (i := 4) rfl))
theorem w_X7_looks_f21 : Cond.fieldLink yX7_looks.cls 21 (TX7 10).1 (TX7 10).2.1 (TX7 10).2.2.1 ∈ uX7_looks := List.mem_cons_of_mem _ (wU_r4 _ (List.mem_of_getElem? (i := 18) rfl))
def f_X7_looks_499  (s0 : Int32) (S : aSt) : Option (Unit × aSt) := (aLt (aUi S (0) 12 s0) (fun S18 => (some ((), S18))))
set_option maxRecDepth 20000 in
set_option maxHeartbeats 4000000 in
theorem v_X7_looks_499 {G : aG} (hM : aMo G) (s0 : Int32) (S : aSt) : aX G yX7_looks cX7_looks 11 none uX7_looks 3 mk_v (f_X7_looks_499 s0 S) 499 [none, none, none, none, none, none, none, none, none, none, none] [.int s0, .ref (0)] S := by
  unfold f_X7_looks_499
  refine x_putI (k := 0) (j := 12) dX7_looks_499 hM.1 rfl rfl (Nat.le_of_ble_eq_true rfl) (fun w h => List.mem_cons_of_mem _ (inlX7 w h)) w_X7_looks_f132 tyX7 tyX7_ok nmX7 rfl (by decide +kernel) ?_
  refine x_ltS (fun S18 => ?_)
  exact x_vret dX7_looks_502 rfl
def f_X7_looks_477 (r125 : Int32 → Int32 → Int32 → Int32 → aSt → Option (Unit × aSt)) (l3 : Int32) (l4 : Int32) (l5 : Int32) (l6 : Int32) (S : aSt) : Option (Unit × aSt) := (aLt (l6 + (1 : Int32)) (fun x25 => (r125 l3 l4 l5 x25 S)))
set_option maxRecDepth 20000 in
set_option maxHeartbeats 4000000 in
theorem v_X7_looks_477 {G : aG} (hM : aMo G) (r125 : Int32 → Int32 → Int32 → Int32 → aSt → Option (Unit × aSt)) (hr125 : ∀ (l3 : Int32) (l4 : Int32) (l5 : Int32) (l6 : Int32) (S : aSt), aX G yX7_looks cX7_looks 11 none uX7_looks 3 mk_v (r125 l3 l4 l5 l6 S) 125 [some (.ref (0)), none, none, some (.int l3), some (.int l4), some (.int l5), some (.int l6), none, none, none, none] [] S) (l3 : Int32) (l4 : Int32) (l5 : Int32) (l6 : Int32) (S : aSt) : aX G yX7_looks cX7_looks 11 none uX7_looks 3 mk_v (f_X7_looks_477 r125 l3 l4 l5 l6 S) 477 [some (.ref (0)), none, none, some (.int l3), some (.int l4), some (.int l5), some (.int l6), none, none, none, none] [] S := by
  unfold f_X7_looks_477
  refine x_iincL (w := (1 : Int32)) dX7_looks_477 rfl (by decide) (Nat.le_of_ble_eq_true rfl) rfl (fun x25 => ?_)
  refine x_goto (tgt := 125) dX7_looks_480 (by decide) ?_
  exact x_le (hr125 l3 l4 l5 x25 S) (And.intro rfl (And.intro rfl (And.intro rfl (And.intro rfl (And.intro rfl trivial)))))
def f_X7_looks_473 (r125 : Int32 → Int32 → Int32 → Int32 → aSt → Option (Unit × aSt)) (l3 : Int32) (l4 : Int32) (l5 : Int32) (l6 : Int32) (s0 : Int32) (s1 : Int32) (S : aSt) : Option (Unit × aSt) := (aLt (aUi S (0) 13 (s1 + s0)) (fun S26 => (f_X7_looks_477 r125 l3 l4 l5 l6 S26)))
set_option maxRecDepth 20000 in
set_option maxHeartbeats 4000000 in
theorem v_X7_looks_473 {G : aG} (hM : aMo G) (r125 : Int32 → Int32 → Int32 → Int32 → aSt → Option (Unit × aSt)) (hr125 : ∀ (l3 : Int32) (l4 : Int32) (l5 : Int32) (l6 : Int32) (S : aSt), aX G yX7_looks cX7_looks 11 none uX7_looks 3 mk_v (r125 l3 l4 l5 l6 S) 125 [some (.ref (0)), none, none, some (.int l3), some (.int l4), some (.int l5), some (.int l6), none, none, none, none] [] S) (l3 : Int32) (l4 : Int32) (l5 : Int32) (l6 : Int32) (s0 : Int32) (s1 : Int32) (S : aSt) : aX G yX7_looks cX7_looks 11 none uX7_looks 3 mk_v (f_X7_looks_473 r125 l3 l4 l5 l6 s0 s1 S) 473 [some (.ref (0)), none, none, some (.int l3), some (.int l4), some (.int l5), some (.int l6), none, none, none, none] [.int s0, .int s1, .ref (0)] S := by
  unfold f_X7_looks_473
  refine x_iadd dX7_looks_473 ?_
  refine x_putI (k := 0) (j := 13) dX7_looks_474 hM.1 rfl rfl (Nat.le_of_ble_eq_true rfl) (fun w h => List.mem_cons_of_mem _ (inlX7 w h)) w_X7_looks_f135 tyX7 tyX7_ok nmX7 rfl (by decide +kernel) ?_
  refine x_ltS (fun S26 => ?_)
  exact x_le (v_X7_looks_477 hM r125 hr125 l3 l4 l5 l6 S26) (And.intro rfl (And.intro rfl (And.intro rfl (And.intro rfl (And.intro rfl trivial)))))
def f_X7_looks_359 (r125 : Int32 → Int32 → Int32 → Int32 → aSt → Option (Unit × aSt)) (l3 : Int32) (l4 : Int32) (l5 : Int32) (l6 : Int32) (s0 : Int32) (s1 : Int32) (s2 : Nat) (S : aSt) : Option (Unit × aSt) := (if s1 < 0 ∨ 64 ≤ (s1).toNatClampNeg then none else (aLt (aUi S (s2) (s1).toNatClampNeg (vp_nar .boolean s0)) (fun S20 => (f_X7_looks_477 r125 l3 l4 l5 l6 S20))))
set_option maxRecDepth 20000 in
set_option maxHeartbeats 4000000 in
theorem v_X7_looks_359 {G : aG} (hM : aMo G) (r125 : Int32 → Int32 → Int32 → Int32 → aSt → Option (Unit × aSt)) (hr125 : ∀ (l3 : Int32) (l4 : Int32) (l5 : Int32) (l6 : Int32) (S : aSt), aX G yX7_looks cX7_looks 11 none uX7_looks 3 mk_v (r125 l3 l4 l5 l6 S) 125 [some (.ref (0)), none, none, some (.int l3), some (.int l4), some (.int l5), some (.int l6), none, none, none, none] [] S) (l3 : Int32) (l4 : Int32) (l5 : Int32) (l6 : Int32) (s0 : Int32) (s1 : Int32) (s2 : Nat) (qs2 : G.2.2.2.2[s2]? = some (.inl (2, 64, none))) (S : aSt) : aX G yX7_looks cX7_looks 11 none uX7_looks 3 mk_v (f_X7_looks_359 r125 l3 l4 l5 l6 s0 s1 s2 S) 359 [some (.ref (0)), none, none, some (.int l3), some (.int l4), some (.int l5), some (.int l6), none, none, none, none] [.int s0, .int s1, .ref (s2)] S := by
  unfold f_X7_looks_359
  refine x_zast dX7_looks_359 qs2 ?_
  refine x_ltS (fun S20 => ?_)
  refine x_goto (tgt := 477) dX7_looks_360 (by decide) ?_
  exact x_le (v_X7_looks_477 hM r125 hr125 l3 l4 l5 l6 S20) (And.intro rfl (And.intro rfl (And.intro rfl (And.intro rfl (And.intro rfl trivial)))))
def f_X7_looks_273 (r125 : Int32 → Int32 → Int32 → Int32 → aSt → Option (Unit × aSt)) (l3 : Int32) (l4 : Int32) (l5 : Int32) (l6 : Int32) (s0 : Int32) (s1 : Int32) (s2 : Nat) (S : aSt) : Option (Unit × aSt) := (if s1 < 0 ∨ 64 ≤ (s1).toNatClampNeg then none else (aLt (aUi S (s2) (s1).toNatClampNeg (vp_nar .boolean s0)) (fun S21 => (f_X7_looks_477 r125 l3 l4 l5 l6 S21))))
set_option maxRecDepth 20000 in
set_option maxHeartbeats 4000000 in
theorem v_X7_looks_273 {G : aG} (hM : aMo G) (r125 : Int32 → Int32 → Int32 → Int32 → aSt → Option (Unit × aSt)) (hr125 : ∀ (l3 : Int32) (l4 : Int32) (l5 : Int32) (l6 : Int32) (S : aSt), aX G yX7_looks cX7_looks 11 none uX7_looks 3 mk_v (r125 l3 l4 l5 l6 S) 125 [some (.ref (0)), none, none, some (.int l3), some (.int l4), some (.int l5), some (.int l6), none, none, none, none] [] S) (l3 : Int32) (l4 : Int32) (l5 : Int32) (l6 : Int32) (s0 : Int32) (s1 : Int32) (s2 : Nat) (qs2 : G.2.2.2.2[s2]? = some (.inl (2, 64, none))) (S : aSt) : aX G yX7_looks cX7_looks 11 none uX7_looks 3 mk_v (f_X7_looks_273 r125 l3 l4 l5 l6 s0 s1 s2 S) 273 [some (.ref (0)), none, none, some (.int l3), some (.int l4), some (.int l5), some (.int l6), none, none, none, none] [.int s0, .int s1, .ref (s2)] S := by
  unfold f_X7_looks_273
  refine x_zast dX7_looks_273 qs2 ?_
  refine x_ltS (fun S21 => ?_)
  refine x_goto (tgt := 477) dX7_looks_274 (by decide) ?_
  exact x_le (v_X7_looks_477 hM r125 hr125 l3 l4 l5 l6 S21) (And.intro rfl (And.intro rfl (And.intro rfl (And.intro rfl (And.intro rfl trivial)))))
def f_X7_looks_235 (r125 : Int32 → Int32 → Int32 → Int32 → aSt → Option (Unit × aSt)) (l3 : Int32) (l4 : Int32) (l5 : Int32) (l6 : Int32) (s0 : Int32) (s1 : Int32) (s2 : Nat) (S : aSt) : Option (Unit × aSt) := (if s1 < 0 ∨ 64 ≤ (s1).toNatClampNeg then none else (aLt (aUi S (s2) (s1).toNatClampNeg (vp_nar .boolean s0)) (fun S22 => (aLt (l5 + (1 : Int32)) (fun x23 => (f_X7_looks_477 r125 l3 l4 x23 l6 S22))))))
set_option maxRecDepth 20000 in
set_option maxHeartbeats 4000000 in
theorem v_X7_looks_235 {G : aG} (hM : aMo G) (r125 : Int32 → Int32 → Int32 → Int32 → aSt → Option (Unit × aSt)) (hr125 : ∀ (l3 : Int32) (l4 : Int32) (l5 : Int32) (l6 : Int32) (S : aSt), aX G yX7_looks cX7_looks 11 none uX7_looks 3 mk_v (r125 l3 l4 l5 l6 S) 125 [some (.ref (0)), none, none, some (.int l3), some (.int l4), some (.int l5), some (.int l6), none, none, none, none] [] S) (l3 : Int32) (l4 : Int32) (l5 : Int32) (l6 : Int32) (s0 : Int32) (s1 : Int32) (s2 : Nat) (qs2 : G.2.2.2.2[s2]? = some (.inl (2, 64, none))) (S : aSt) : aX G yX7_looks cX7_looks 11 none uX7_looks 3 mk_v (f_X7_looks_235 r125 l3 l4 l5 l6 s0 s1 s2 S) 235 [some (.ref (0)), none, none, some (.int l3), some (.int l4), some (.int l5), some (.int l6), none, none, none, none] [.int s0, .int s1, .ref (s2)] S := by
  unfold f_X7_looks_235
  refine x_zast dX7_looks_235 qs2 ?_
  refine x_ltS (fun S22 => ?_)
  refine x_iincL (w := (1 : Int32)) dX7_looks_236 rfl (by decide) (Nat.le_of_ble_eq_true rfl) rfl (fun x23 => ?_)
  refine x_goto (tgt := 477) dX7_looks_239 (by decide) ?_
  exact x_le (v_X7_looks_477 hM r125 hr125 l3 l4 x23 l6 S22) (And.intro rfl (And.intro rfl (And.intro rfl (And.intro rfl (And.intro rfl trivial)))))
def f_X7_looks_472 (r125 : Int32 → Int32 → Int32 → Int32 → aSt → Option (Unit × aSt)) (l3 : Int32) (l4 : Int32) (l5 : Int32) (l6 : Int32) (s0 : Int32) (S : aSt) : Option (Unit × aSt) := (f_X7_looks_473 r125 l3 l4 l5 l6 (0 : Int32) s0 S)
set_option maxRecDepth 20000 in
set_option maxHeartbeats 4000000 in
theorem v_X7_looks_472 {G : aG} (hM : aMo G) (r125 : Int32 → Int32 → Int32 → Int32 → aSt → Option (Unit × aSt)) (hr125 : ∀ (l3 : Int32) (l4 : Int32) (l5 : Int32) (l6 : Int32) (S : aSt), aX G yX7_looks cX7_looks 11 none uX7_looks 3 mk_v (r125 l3 l4 l5 l6 S) 125 [some (.ref (0)), none, none, some (.int l3), some (.int l4), some (.int l5), some (.int l6), none, none, none, none] [] S) (l3 : Int32) (l4 : Int32) (l5 : Int32) (l6 : Int32) (s0 : Int32) (S : aSt) : aX G yX7_looks cX7_looks 11 none uX7_looks 3 mk_v (f_X7_looks_472 r125 l3 l4 l5 l6 s0 S) 472 [some (.ref (0)), none, none, some (.int l3), some (.int l4), some (.int l5), some (.int l6), none, none, none, none] [.int s0, .ref (0)] S := by
  unfold f_X7_looks_472
  refine x_iconst (0 : Int32) dX7_looks_472 (by decide) ?_
  exact x_le (v_X7_looks_473 hM r125 hr125 l3 l4 l5 l6 (0 : Int32) s0 S) (And.intro rfl (And.intro rfl (And.intro rfl (And.intro rfl (And.intro rfl trivial)))))
def f_X7_looks_354 (r125 : Int32 → Int32 → Int32 → Int32 → aSt → Option (Unit × aSt)) (l3 : Int32) (l4 : Int32) (l5 : Int32) (l6 : Int32) (s0 : Int32) (s1 : Nat) (S : aSt) : Option (Unit × aSt) := (f_X7_looks_359 r125 l3 l4 l5 l6 (1 : Int32) s0 (s1) S)
set_option maxRecDepth 20000 in
set_option maxHeartbeats 4000000 in
theorem v_X7_looks_354 {G : aG} (hM : aMo G) (r125 : Int32 → Int32 → Int32 → Int32 → aSt → Option (Unit × aSt)) (hr125 : ∀ (l3 : Int32) (l4 : Int32) (l5 : Int32) (l6 : Int32) (S : aSt), aX G yX7_looks cX7_looks 11 none uX7_looks 3 mk_v (r125 l3 l4 l5 l6 S) 125 [some (.ref (0)), none, none, some (.int l3), some (.int l4), some (.int l5), some (.int l6), none, none, none, none] [] S) (l3 : Int32) (l4 : Int32) (l5 : Int32) (l6 : Int32) (s0 : Int32) (s1 : Nat) (qs1 : G.2.2.2.2[s1]? = some (.inl (2, 64, none))) (S : aSt) : aX G yX7_looks cX7_looks 11 none uX7_looks 3 mk_v (f_X7_looks_354 r125 l3 l4 l5 l6 s0 s1 S) 354 [some (.ref (0)), none, none, some (.int l3), some (.int l4), some (.int l5), some (.int l6), none, none, none, none] [.int s0, .ref (s1)] S := by
  unfold f_X7_looks_354
  refine x_iconst (1 : Int32) dX7_looks_354 (by decide) ?_
  refine x_goto (tgt := 359) dX7_looks_355 (by decide) ?_
  exact x_le (v_X7_looks_359 hM r125 hr125 l3 l4 l5 l6 (1 : Int32) s0 (s1) qs1 S) (And.intro rfl (And.intro rfl (And.intro rfl (And.intro rfl (And.intro rfl trivial)))))
def f_X7_looks_328 (r125 : Int32 → Int32 → Int32 → Int32 → aSt → Option (Unit × aSt)) (l3 : Int32) (l4 : Int32) (l5 : Int32) (l6 : Int32) (s0 : Int32) (s1 : Nat) (S : aSt) : Option (Unit × aSt) := (f_X7_looks_359 r125 l3 l4 l5 l6 (0 : Int32) s0 (s1) S)
set_option maxRecDepth 20000 in
set_option maxHeartbeats 4000000 in
theorem v_X7_looks_328 {G : aG} (hM : aMo G) (r125 : Int32 → Int32 → Int32 → Int32 → aSt → Option (Unit × aSt)) (hr125 : ∀ (l3 : Int32) (l4 : Int32) (l5 : Int32) (l6 : Int32) (S : aSt), aX G yX7_looks cX7_looks 11 none uX7_looks 3 mk_v (r125 l3 l4 l5 l6 S) 125 [some (.ref (0)), none, none, some (.int l3), some (.int l4), some (.int l5), some (.int l6), none, none, none, none] [] S) (l3 : Int32) (l4 : Int32) (l5 : Int32) (l6 : Int32) (s0 : Int32) (s1 : Nat) (qs1 : G.2.2.2.2[s1]? = some (.inl (2, 64, none))) (S : aSt) : aX G yX7_looks cX7_looks 11 none uX7_looks 3 mk_v (f_X7_looks_328 r125 l3 l4 l5 l6 s0 s1 S) 328 [some (.ref (0)), none, none, some (.int l3), some (.int l4), some (.int l5), some (.int l6), none, none, none, none] [.int s0, .ref (s1)] S := by
  unfold f_X7_looks_328
  refine x_iconst (0 : Int32) dX7_looks_328 (by decide) ?_
  refine x_goto (tgt := 359) dX7_looks_329 (by decide) ?_
  exact x_le (v_X7_looks_359 hM r125 hr125 l3 l4 l5 l6 (0 : Int32) s0 (s1) qs1 S) (And.intro rfl (And.intro rfl (And.intro rfl (And.intro rfl (And.intro rfl trivial)))))
def f_X7_looks_441 (r125 : Int32 → Int32 → Int32 → Int32 → aSt → Option (Unit × aSt)) (l3 : Int32) (l4 : Int32) (l5 : Int32) (l6 : Int32) (l7 : Int32) (l8 : Int32) (s0 : Int32) (s1 : Int32) (S : aSt) : Option (Unit × aSt) := (aLt (aUi S (0) 12 (s1 - s0)) (fun S24 => (if l8 = 0 then (f_X7_looks_472 r125 l3 l4 l5 l6 (S24.1 (0) 13) S24) else (if (-400 : Int32) < l7 then (f_X7_looks_472 r125 l3 l4 l5 l6 (S24.1 (0) 13) S24) else (f_X7_looks_473 r125 l3 l4 l5 l6 ((-400 : Int32) - l7) (S24.1 (0) 13) S24)))))
set_option maxRecDepth 20000 in
set_option maxHeartbeats 4000000 in
theorem v_X7_looks_441 {G : aG} (hM : aMo G) (r125 : Int32 → Int32 → Int32 → Int32 → aSt → Option (Unit × aSt)) (hr125 : ∀ (l3 : Int32) (l4 : Int32) (l5 : Int32) (l6 : Int32) (S : aSt), aX G yX7_looks cX7_looks 11 none uX7_looks 3 mk_v (r125 l3 l4 l5 l6 S) 125 [some (.ref (0)), none, none, some (.int l3), some (.int l4), some (.int l5), some (.int l6), none, none, none, none] [] S) (l3 : Int32) (l4 : Int32) (l5 : Int32) (l6 : Int32) (l7 : Int32) (l8 : Int32) (s0 : Int32) (s1 : Int32) (S : aSt) : aX G yX7_looks cX7_looks 11 none uX7_looks 3 mk_v (f_X7_looks_441 r125 l3 l4 l5 l6 l7 l8 s0 s1 S) 441 [some (.ref (0)), none, none, some (.int l3), some (.int l4), some (.int l5), some (.int l6), some (.int l7), some (.int l8), none, none] [.int s0, .int s1, .ref (0)] S := by
  unfold f_X7_looks_441
  refine x_isub dX7_looks_441 ?_
  refine x_putI (k := 0) (j := 12) dX7_looks_442 hM.1 rfl rfl (Nat.le_of_ble_eq_true rfl) (fun w h => List.mem_cons_of_mem _ (inlX7 w h)) w_X7_looks_f132 tyX7 tyX7_ok nmX7 rfl (by decide +kernel) ?_
  refine x_ltS (fun S24 => ?_)
  refine x_aload_n dX7_looks_445 rfl rfl ?_
  refine x_dup dX7_looks_446 rfl ?_
  refine x_getI (k := 0) (j := 13) dX7_looks_447 hM.1 rfl rfl (Nat.le_of_ble_eq_true rfl) (fun w h => List.mem_cons_of_mem _ (inlX7 w h)) w_X7_looks_f135 ?_
  refine x_iload dX7_looks_450 rfl ?_
  refine x_if_eq (tgt := 472) dX7_looks_452 (by decide) ?_ ?_
  · exact x_le (v_X7_looks_472 hM r125 hr125 l3 l4 l5 l6 (S24.1 (0) 13) S24) (And.intro rfl (And.intro rfl (And.intro rfl (And.intro rfl (And.intro rfl trivial)))))
  · refine x_iload dX7_looks_455 rfl ?_
    refine x_sipush (-400 : Int32) dX7_looks_457 (by decide) ?_
    refine x_icmp_gt (tgt := 472) dX7_looks_460 (by decide) ?_ ?_
    · exact x_le (v_X7_looks_472 hM r125 hr125 l3 l4 l5 l6 (S24.1 (0) 13) S24) (And.intro rfl (And.intro rfl (And.intro rfl (And.intro rfl (And.intro rfl trivial)))))
    · refine x_sipush (-400 : Int32) dX7_looks_463 (by decide) ?_
      refine x_iload dX7_looks_466 rfl ?_
      refine x_isub dX7_looks_468 ?_
      refine x_goto (tgt := 473) dX7_looks_469 (by decide) ?_
      exact x_le (v_X7_looks_473 hM r125 hr125 l3 l4 l5 l6 ((-400 : Int32) - l7) (S24.1 (0) 13) S24) (And.intro rfl (And.intro rfl (And.intro rfl (And.intro rfl (And.intro rfl trivial)))))
def f_X7_looks_440 (r125 : Int32 → Int32 → Int32 → Int32 → aSt → Option (Unit × aSt)) (l3 : Int32) (l4 : Int32) (l5 : Int32) (l6 : Int32) (l7 : Int32) (l8 : Int32) (s0 : Int32) (S : aSt) : Option (Unit × aSt) := (f_X7_looks_441 r125 l3 l4 l5 l6 l7 l8 (0 : Int32) s0 S)
set_option maxRecDepth 20000 in
set_option maxHeartbeats 4000000 in
theorem v_X7_looks_440 {G : aG} (hM : aMo G) (r125 : Int32 → Int32 → Int32 → Int32 → aSt → Option (Unit × aSt)) (hr125 : ∀ (l3 : Int32) (l4 : Int32) (l5 : Int32) (l6 : Int32) (S : aSt), aX G yX7_looks cX7_looks 11 none uX7_looks 3 mk_v (r125 l3 l4 l5 l6 S) 125 [some (.ref (0)), none, none, some (.int l3), some (.int l4), some (.int l5), some (.int l6), none, none, none, none] [] S) (l3 : Int32) (l4 : Int32) (l5 : Int32) (l6 : Int32) (l7 : Int32) (l8 : Int32) (s0 : Int32) (S : aSt) : aX G yX7_looks cX7_looks 11 none uX7_looks 3 mk_v (f_X7_looks_440 r125 l3 l4 l5 l6 l7 l8 s0 S) 440 [some (.ref (0)), none, none, some (.int l3), some (.int l4), some (.int l5), some (.int l6), some (.int l7), some (.int l8), none, none] [.int s0, .ref (0)] S := by
  unfold f_X7_looks_440
  refine x_iconst (0 : Int32) dX7_looks_440 (by decide) ?_
  exact x_le (v_X7_looks_441 hM r125 hr125 l3 l4 l5 l6 l7 l8 (0 : Int32) s0 S) (And.intro rfl (And.intro rfl (And.intro rfl (And.intro rfl (And.intro rfl (And.intro rfl (And.intro rfl trivial)))))))
def f_X7_looks_401 (r125 : Int32 → Int32 → Int32 → Int32 → aSt → Option (Unit × aSt)) (l3 : Int32) (l4 : Int32) (l5 : Int32) (l6 : Int32) (l7 : Int32) (l8 : Int32) (s0 : Int32) (s1 : Int32) (S : aSt) : Option (Unit × aSt) := (aLt (aUi S (0) 11 (s1 + s0)) (fun S19 => (if l8 = 0 then (f_X7_looks_440 r125 l3 l4 l5 l6 l7 l8 (S19.1 (0) 12) S19) else (if (-200 : Int32) < l7 then (f_X7_looks_440 r125 l3 l4 l5 l6 l7 l8 (S19.1 (0) 12) S19) else (if l7 ≤ (-400 : Int32) then (f_X7_looks_440 r125 l3 l4 l5 l6 l7 l8 (S19.1 (0) 12) S19) else (f_X7_looks_441 r125 l3 l4 l5 l6 l7 l8 ((-200 : Int32) - l7) (S19.1 (0) 12) S19))))))
set_option maxRecDepth 20000 in
set_option maxHeartbeats 4000000 in
theorem v_X7_looks_401 {G : aG} (hM : aMo G) (r125 : Int32 → Int32 → Int32 → Int32 → aSt → Option (Unit × aSt)) (hr125 : ∀ (l3 : Int32) (l4 : Int32) (l5 : Int32) (l6 : Int32) (S : aSt), aX G yX7_looks cX7_looks 11 none uX7_looks 3 mk_v (r125 l3 l4 l5 l6 S) 125 [some (.ref (0)), none, none, some (.int l3), some (.int l4), some (.int l5), some (.int l6), none, none, none, none] [] S) (l3 : Int32) (l4 : Int32) (l5 : Int32) (l6 : Int32) (l7 : Int32) (l8 : Int32) (s0 : Int32) (s1 : Int32) (S : aSt) : aX G yX7_looks cX7_looks 11 none uX7_looks 3 mk_v (f_X7_looks_401 r125 l3 l4 l5 l6 l7 l8 s0 s1 S) 401 [some (.ref (0)), none, none, some (.int l3), some (.int l4), some (.int l5), some (.int l6), some (.int l7), some (.int l8), none, none] [.int s0, .int s1, .ref (0)] S := by
  unfold f_X7_looks_401
  refine x_iadd dX7_looks_401 ?_
  refine x_putI (k := 0) (j := 11) dX7_looks_402 hM.1 rfl rfl (Nat.le_of_ble_eq_true rfl) (fun w h => List.mem_cons_of_mem _ (inlX7 w h)) w_X7_looks_f129 tyX7 tyX7_ok nmX7 rfl (by decide +kernel) ?_
  refine x_ltS (fun S19 => ?_)
  refine x_aload_n dX7_looks_405 rfl rfl ?_
  refine x_dup dX7_looks_406 rfl ?_
  refine x_getI (k := 0) (j := 12) dX7_looks_407 hM.1 rfl rfl (Nat.le_of_ble_eq_true rfl) (fun w h => List.mem_cons_of_mem _ (inlX7 w h)) w_X7_looks_f132 ?_
  refine x_iload dX7_looks_410 rfl ?_
  refine x_if_eq (tgt := 440) dX7_looks_412 (by decide) ?_ ?_
  · exact x_le (v_X7_looks_440 hM r125 hr125 l3 l4 l5 l6 l7 l8 (S19.1 (0) 12) S19) (And.intro rfl (And.intro rfl (And.intro rfl (And.intro rfl (And.intro rfl (And.intro rfl (And.intro rfl trivial)))))))
  · refine x_iload dX7_looks_415 rfl ?_
    refine x_sipush (-200 : Int32) dX7_looks_417 (by decide) ?_
    refine x_icmp_gt (tgt := 440) dX7_looks_420 (by decide) ?_ ?_
    · exact x_le (v_X7_looks_440 hM r125 hr125 l3 l4 l5 l6 l7 l8 (S19.1 (0) 12) S19) (And.intro rfl (And.intro rfl (And.intro rfl (And.intro rfl (And.intro rfl (And.intro rfl (And.intro rfl trivial)))))))
    · refine x_iload dX7_looks_423 rfl ?_
      refine x_sipush (-400 : Int32) dX7_looks_425 (by decide) ?_
      refine x_icmp_le (tgt := 440) dX7_looks_428 (by decide) ?_ ?_
      · exact x_le (v_X7_looks_440 hM r125 hr125 l3 l4 l5 l6 l7 l8 (S19.1 (0) 12) S19) (And.intro rfl (And.intro rfl (And.intro rfl (And.intro rfl (And.intro rfl (And.intro rfl (And.intro rfl trivial)))))))
      · refine x_sipush (-200 : Int32) dX7_looks_431 (by decide) ?_
        refine x_iload dX7_looks_434 rfl ?_
        refine x_isub dX7_looks_436 ?_
        refine x_goto (tgt := 441) dX7_looks_437 (by decide) ?_
        exact x_le (v_X7_looks_441 hM r125 hr125 l3 l4 l5 l6 l7 l8 ((-200 : Int32) - l7) (S19.1 (0) 12) S19) (And.intro rfl (And.intro rfl (And.intro rfl (And.intro rfl (And.intro rfl (And.intro rfl (And.intro rfl trivial)))))))
def f_X7_looks_400 (r125 : Int32 → Int32 → Int32 → Int32 → aSt → Option (Unit × aSt)) (l3 : Int32) (l4 : Int32) (l5 : Int32) (l6 : Int32) (l7 : Int32) (l8 : Int32) (s0 : Int32) (S : aSt) : Option (Unit × aSt) := (f_X7_looks_401 r125 l3 l4 l5 l6 l7 l8 (0 : Int32) s0 S)
set_option maxRecDepth 20000 in
set_option maxHeartbeats 4000000 in
theorem v_X7_looks_400 {G : aG} (hM : aMo G) (r125 : Int32 → Int32 → Int32 → Int32 → aSt → Option (Unit × aSt)) (hr125 : ∀ (l3 : Int32) (l4 : Int32) (l5 : Int32) (l6 : Int32) (S : aSt), aX G yX7_looks cX7_looks 11 none uX7_looks 3 mk_v (r125 l3 l4 l5 l6 S) 125 [some (.ref (0)), none, none, some (.int l3), some (.int l4), some (.int l5), some (.int l6), none, none, none, none] [] S) (l3 : Int32) (l4 : Int32) (l5 : Int32) (l6 : Int32) (l7 : Int32) (l8 : Int32) (s0 : Int32) (S : aSt) : aX G yX7_looks cX7_looks 11 none uX7_looks 3 mk_v (f_X7_looks_400 r125 l3 l4 l5 l6 l7 l8 s0 S) 400 [some (.ref (0)), none, none, some (.int l3), some (.int l4), some (.int l5), some (.int l6), some (.int l7), some (.int l8), none, none] [.int s0, .ref (0)] S := by
  unfold f_X7_looks_400
  refine x_iconst (0 : Int32) dX7_looks_400 (by decide) ?_
  exact x_le (v_X7_looks_401 hM r125 hr125 l3 l4 l5 l6 l7 l8 (0 : Int32) s0 S) (And.intro rfl (And.intro rfl (And.intro rfl (And.intro rfl (And.intro rfl (And.intro rfl (And.intro rfl trivial)))))))
def f_X7_looks_125  : Nat → Int32 → Int32 → Int32 → Int32 → aSt → Option (Unit × aSt)
  | 0, _, _, _, _, _ => none
  | n + 1, l3, l4, l5, l6, S => (if (l4 + l3) ≤ l6 then (if 0 ≤ (S.1 (0) 12) then (f_X7_looks_499 (S.1 (0) 12) S) else (f_X7_looks_499 (0 : Int32) S)) else (if l6 < 0 ∨ 979 ≤ (l6).toNatClampNeg then none else (aLt (S.1 (1) (l6).toNatClampNeg) (fun x12 => (if x12 < 0 then (if x12 = (-1 : Int32) then (if (l5 - (1 : Int32)) < 0 ∨ 64 ≤ ((l5 - (1 : Int32))).toNatClampNeg then none else (if (S.1 (4) ((l5 - (1 : Int32))).toNatClampNeg) = 0 then (f_X7_looks_273 (fun l3 l4 l5 l6 S => (f_X7_looks_125 n l3 l4 l5 l6 S)) l3 l4 l5 l6 (1 : Int32) (l5 - (1 : Int32)) (4) S) else (f_X7_looks_273 (fun l3 l4 l5 l6 S => (f_X7_looks_125 n l3 l4 l5 l6 S)) l3 l4 l5 l6 (0 : Int32) (l5 - (1 : Int32)) (4) S))) else (if x12 ≤ (-10 : Int32) then (aLt (S.1 (4) 0) (fun x13 => (if x13 = 0 then (f_X7_looks_400 (fun l3 l4 l5 l6 S => (f_X7_looks_125 n l3 l4 l5 l6 S)) l3 l4 (0 : Int32) l6 x12 x13 (S.1 (0) 11) S) else (if x12 ≤ (-200 : Int32) then (f_X7_looks_400 (fun l3 l4 l5 l6 S => (f_X7_looks_125 n l3 l4 l5 l6 S)) l3 l4 (0 : Int32) l6 x12 x13 (S.1 (0) 11) S) else (f_X7_looks_401 (fun l3 l4 l5 l6 S => (f_X7_looks_125 n l3 l4 l5 l6 S)) l3 l4 (0 : Int32) l6 x12 x13 ((-10 : Int32) - x12) (S.1 (0) 11) S))))) else (aLt (l5 + (-1 : Int32)) (fun x14 => (if x12 = (-2 : Int32) then (if (x14 - (1 : Int32)) < 0 ∨ 64 ≤ ((x14 - (1 : Int32))).toNatClampNeg then none else (if (S.1 (4) ((x14 - (1 : Int32))).toNatClampNeg) = 0 then (f_X7_looks_328 (fun l3 l4 l5 l6 S => (f_X7_looks_125 n l3 l4 l5 l6 S)) l3 l4 x14 l6 (x14 - (1 : Int32)) (4) S) else (if x14 < 0 ∨ 64 ≤ (x14).toNatClampNeg then none else (if (S.1 (4) (x14).toNatClampNeg) = 0 then (f_X7_looks_328 (fun l3 l4 l5 l6 S => (f_X7_looks_125 n l3 l4 l5 l6 S)) l3 l4 x14 l6 (x14 - (1 : Int32)) (4) S) else (f_X7_looks_359 (fun l3 l4 l5 l6 S => (f_X7_looks_125 n l3 l4 l5 l6 S)) l3 l4 x14 l6 (1 : Int32) (x14 - (1 : Int32)) (4) S))))) else (if (x14 - (1 : Int32)) < 0 ∨ 64 ≤ ((x14 - (1 : Int32))).toNatClampNeg then none else (if (S.1 (4) ((x14 - (1 : Int32))).toNatClampNeg) = 0 then (if x14 < 0 ∨ 64 ≤ (x14).toNatClampNeg then none else (if (S.1 (4) (x14).toNatClampNeg) = 0 then (f_X7_looks_359 (fun l3 l4 l5 l6 S => (f_X7_looks_125 n l3 l4 l5 l6 S)) l3 l4 x14 l6 (0 : Int32) (x14 - (1 : Int32)) (4) S) else (f_X7_looks_354 (fun l3 l4 l5 l6 S => (f_X7_looks_125 n l3 l4 l5 l6 S)) l3 l4 x14 l6 (x14 - (1 : Int32)) (4) S))) else (f_X7_looks_354 (fun l3 l4 l5 l6 S => (f_X7_looks_125 n l3 l4 l5 l6 S)) l3 l4 x14 l6 (x14 - (1 : Int32)) (4) S)))))))) else (if (x12 - x12 / (8 : Int32) * (8 : Int32)) < 0 ∨ 6 ≤ ((x12 - x12 / (8 : Int32) * (8 : Int32))).toNatClampNeg then none else (aLt (S.1 (3) ((x12 - x12 / (8 : Int32) * (8 : Int32))).toNatClampNeg) (fun x15 => (aLt ((x12 / (8 : Int32)) - (x12 / (8 : Int32)) / (4 : Int32) * (4 : Int32)) (fun x16 => (aLt (x12 / (32 : Int32)) (fun x17 => (if x16 = 0 then (if x17 ≤ x15 then (f_X7_looks_235 (fun l3 l4 l5 l6 S => (f_X7_looks_125 n l3 l4 l5 l6 S)) l3 l4 l5 l6 (0 : Int32) l5 (4) S) else (f_X7_looks_235 (fun l3 l4 l5 l6 S => (f_X7_looks_125 n l3 l4 l5 l6 S)) l3 l4 l5 l6 (1 : Int32) l5 (4) S)) else (if x16 = (1 : Int32) then (if x15 = x17 then (f_X7_looks_235 (fun l3 l4 l5 l6 S => (f_X7_looks_125 n l3 l4 l5 l6 S)) l3 l4 l5 l6 (1 : Int32) l5 (4) S) else (f_X7_looks_235 (fun l3 l4 l5 l6 S => (f_X7_looks_125 n l3 l4 l5 l6 S)) l3 l4 l5 l6 (0 : Int32) l5 (4) S)) else (if x15 ≤ x17 then (f_X7_looks_235 (fun l3 l4 l5 l6 S => (f_X7_looks_125 n l3 l4 l5 l6 S)) l3 l4 l5 l6 (0 : Int32) l5 (4) S) else (f_X7_looks_235 (fun l3 l4 l5 l6 S => (f_X7_looks_125 n l3 l4 l5 l6 S)) l3 l4 l5 l6 (1 : Int32) l5 (4) S))))))))))))))))
set_option maxRecDepth 20000 in
set_option maxHeartbeats 4000000 in
theorem v_X7_looks_125 {G : aG} (hM : aMo G) : ∀ (n : Nat) (l3 : Int32) (l4 : Int32) (l5 : Int32) (l6 : Int32) (S : aSt), aX G yX7_looks cX7_looks 11 none uX7_looks 3 mk_v (f_X7_looks_125 n l3 l4 l5 l6 S) 125 [some (.ref (0)), none, none, some (.int l3), some (.int l4), some (.int l5), some (.int l6), none, none, none, none] [] S := by
  intro n
  induction n with
  | zero => intro l3 l4 l5 l6 S; exact x_none
  | succ n ih =>
    intro l3 l4 l5 l6 S
    unfold f_X7_looks_125
    refine x_iload dX7_looks_125 rfl ?_
    refine x_iload dX7_looks_127 rfl ?_
    refine x_iload_n dX7_looks_129 rfl rfl ?_
    refine x_iadd dX7_looks_130 ?_
    refine x_icmp_ge (tgt := 483) dX7_looks_131 (by decide) ?_ ?_
    · refine x_aload_n dX7_looks_483 rfl rfl ?_
      refine x_aload_n dX7_looks_484 rfl rfl ?_
      refine x_getI (k := 0) (j := 12) dX7_looks_485 hM.1 rfl rfl (Nat.le_of_ble_eq_true rfl) (fun w h => List.mem_cons_of_mem _ (inlX7 w h)) w_X7_looks_f132 ?_
      refine x_if_ge (tgt := 495) dX7_looks_488 (by decide) ?_ ?_
      · refine x_aload_n dX7_looks_495 rfl rfl ?_
        refine x_getI (k := 0) (j := 12) dX7_looks_496 hM.1 rfl rfl (Nat.le_of_ble_eq_true rfl) (fun w h => List.mem_cons_of_mem _ (inlX7 w h)) w_X7_looks_f132 ?_
        exact x_le (v_X7_looks_499 hM (S.1 (0) 12) S) trivial
      · refine x_iconst (0 : Int32) dX7_looks_491 (by decide) ?_
        refine x_goto (tgt := 499) dX7_looks_492 (by decide) ?_
        exact x_le (v_X7_looks_499 hM (0 : Int32) S) trivial
    · refine x_aload_n dX7_looks_134 rfl rfl ?_
      refine x_getR (r := 1) (k := 0) (j := 1) dX7_looks_135 hM.1 rfl rfl (Nat.le_of_ble_eq_true rfl) (fun w h => List.mem_cons_of_mem _ (inlX7 w h)) w_X7_looks_f9 ?_
      refine x_iload dX7_looks_138 rfl ?_
      refine x_iald dX7_looks_140 hM.2.1 ?_
      refine x_lti (fun x12 => ?_)
      refine x_istore dX7_looks_141 (Nat.le_of_ble_eq_true rfl) rfl ?_
      refine x_iload dX7_looks_143 rfl ?_
      refine x_if_lt (tgt := 242) dX7_looks_145 (by decide) ?_ ?_
      · refine x_iload dX7_looks_242 rfl ?_
        refine x_iconst (-1 : Int32) dX7_looks_244 (by decide) ?_
        refine x_icmp_ne (tgt := 277) dX7_looks_245 (by decide) ?_ ?_
        · refine x_iload dX7_looks_277 rfl ?_
          refine x_bipush (-10 : Int32) dX7_looks_279 (by decide) ?_
          refine x_icmp_le (tgt := 363) dX7_looks_281 (by decide) ?_ ?_
          · refine x_iconst (0 : Int32) dX7_looks_363 (by decide) ?_
            refine x_istore dX7_looks_364 (Nat.le_of_ble_eq_true rfl) rfl ?_
            refine x_aload_n dX7_looks_366 rfl rfl ?_
            refine x_getR (r := 4) (k := 0) (j := 10) dX7_looks_367 hM.1 rfl rfl (Nat.le_of_ble_eq_true rfl) (fun w h => List.mem_cons_of_mem _ (inlX7 w h)) w_X7_looks_f21 ?_
            refine x_iconst (0 : Int32) dX7_looks_370 (by decide) ?_
            refine x_zaldc (j := 0) dX7_looks_371 hM.2.2.2.2.1 (by unfold vp_in; decide) (by decide) ?_
            refine x_lti (fun x13 => ?_)
            refine x_istore dX7_looks_372 (Nat.le_of_ble_eq_true rfl) rfl ?_
            refine x_aload_n dX7_looks_374 rfl rfl ?_
            refine x_dup dX7_looks_375 rfl ?_
            refine x_getI (k := 0) (j := 11) dX7_looks_376 hM.1 rfl rfl (Nat.le_of_ble_eq_true rfl) (fun w h => List.mem_cons_of_mem _ (inlX7 w h)) w_X7_looks_f129 ?_
            refine x_iload dX7_looks_379 rfl ?_
            refine x_if_eq (tgt := 400) dX7_looks_381 (by decide) ?_ ?_
            · exact x_le (v_X7_looks_400 hM (fun l3 l4 l5 l6 S => (f_X7_looks_125 n l3 l4 l5 l6 S)) ih l3 l4 (0 : Int32) l6 x12 x13 (S.1 (0) 11) S) (And.intro rfl (And.intro rfl (And.intro rfl (And.intro rfl (And.intro rfl (And.intro rfl (And.intro rfl trivial)))))))
            · refine x_iload dX7_looks_384 rfl ?_
              refine x_sipush (-200 : Int32) dX7_looks_386 (by decide) ?_
              refine x_icmp_le (tgt := 400) dX7_looks_389 (by decide) ?_ ?_
              · exact x_le (v_X7_looks_400 hM (fun l3 l4 l5 l6 S => (f_X7_looks_125 n l3 l4 l5 l6 S)) ih l3 l4 (0 : Int32) l6 x12 x13 (S.1 (0) 11) S) (And.intro rfl (And.intro rfl (And.intro rfl (And.intro rfl (And.intro rfl (And.intro rfl (And.intro rfl trivial)))))))
              · refine x_bipush (-10 : Int32) dX7_looks_392 (by decide) ?_
                refine x_iload dX7_looks_394 rfl ?_
                refine x_isub dX7_looks_396 ?_
                refine x_goto (tgt := 401) dX7_looks_397 (by decide) ?_
                exact x_le (v_X7_looks_401 hM (fun l3 l4 l5 l6 S => (f_X7_looks_125 n l3 l4 l5 l6 S)) ih l3 l4 (0 : Int32) l6 x12 x13 ((-10 : Int32) - x12) (S.1 (0) 11) S) (And.intro rfl (And.intro rfl (And.intro rfl (And.intro rfl (And.intro rfl (And.intro rfl (And.intro rfl trivial)))))))
          · refine x_iincL (w := (-1 : Int32)) dX7_looks_284 rfl (by decide) (Nat.le_of_ble_eq_true rfl) rfl (fun x14 => ?_)
            refine x_aload_n dX7_looks_287 rfl rfl ?_
            refine x_getR (r := 4) (k := 0) (j := 10) dX7_looks_288 hM.1 rfl rfl (Nat.le_of_ble_eq_true rfl) (fun w h => List.mem_cons_of_mem _ (inlX7 w h)) w_X7_looks_f21 ?_
            refine x_iload dX7_looks_291 rfl ?_
            refine x_iconst (1 : Int32) dX7_looks_293 (by decide) ?_
            refine x_isub dX7_looks_294 ?_
            refine x_iload dX7_looks_295 rfl ?_
            refine x_bipush (-2 : Int32) dX7_looks_297 (by decide) ?_
            refine x_icmp_ne (tgt := 332) dX7_looks_299 (by decide) ?_ ?_
            · refine x_aload_n dX7_looks_332 rfl rfl ?_
              refine x_getR (r := 4) (k := 0) (j := 10) dX7_looks_333 hM.1 rfl rfl (Nat.le_of_ble_eq_true rfl) (fun w h => List.mem_cons_of_mem _ (inlX7 w h)) w_X7_looks_f21 ?_
              refine x_iload dX7_looks_336 rfl ?_
              refine x_iconst (1 : Int32) dX7_looks_338 (by decide) ?_
              refine x_isub dX7_looks_339 ?_
              refine x_zald dX7_looks_340 hM.2.2.2.2.1 ?_
              refine x_if_ne (tgt := 354) dX7_looks_341 (by decide) ?_ ?_
              · exact x_le (v_X7_looks_354 hM (fun l3 l4 l5 l6 S => (f_X7_looks_125 n l3 l4 l5 l6 S)) ih l3 l4 x14 l6 (x14 - (1 : Int32)) (4) hM.2.2.2.2.1 S) (And.intro rfl (And.intro rfl (And.intro rfl (And.intro rfl (And.intro rfl trivial)))))
              · refine x_aload_n dX7_looks_344 rfl rfl ?_
                refine x_getR (r := 4) (k := 0) (j := 10) dX7_looks_345 hM.1 rfl rfl (Nat.le_of_ble_eq_true rfl) (fun w h => List.mem_cons_of_mem _ (inlX7 w h)) w_X7_looks_f21 ?_
                refine x_iload dX7_looks_348 rfl ?_
                refine x_zald dX7_looks_350 hM.2.2.2.2.1 ?_
                refine x_if_eq (tgt := 358) dX7_looks_351 (by decide) ?_ ?_
                · refine x_iconst (0 : Int32) dX7_looks_358 (by decide) ?_
                  exact x_le (v_X7_looks_359 hM (fun l3 l4 l5 l6 S => (f_X7_looks_125 n l3 l4 l5 l6 S)) ih l3 l4 x14 l6 (0 : Int32) (x14 - (1 : Int32)) (4) hM.2.2.2.2.1 S) (And.intro rfl (And.intro rfl (And.intro rfl (And.intro rfl (And.intro rfl trivial)))))
                · exact x_le (v_X7_looks_354 hM (fun l3 l4 l5 l6 S => (f_X7_looks_125 n l3 l4 l5 l6 S)) ih l3 l4 x14 l6 (x14 - (1 : Int32)) (4) hM.2.2.2.2.1 S) (And.intro rfl (And.intro rfl (And.intro rfl (And.intro rfl (And.intro rfl trivial)))))
            · refine x_aload_n dX7_looks_302 rfl rfl ?_
              refine x_getR (r := 4) (k := 0) (j := 10) dX7_looks_303 hM.1 rfl rfl (Nat.le_of_ble_eq_true rfl) (fun w h => List.mem_cons_of_mem _ (inlX7 w h)) w_X7_looks_f21 ?_
              refine x_iload dX7_looks_306 rfl ?_
              refine x_iconst (1 : Int32) dX7_looks_308 (by decide) ?_
              refine x_isub dX7_looks_309 ?_
              refine x_zald dX7_looks_310 hM.2.2.2.2.1 ?_
              refine x_if_eq (tgt := 328) dX7_looks_311 (by decide) ?_ ?_
              · exact x_le (v_X7_looks_328 hM (fun l3 l4 l5 l6 S => (f_X7_looks_125 n l3 l4 l5 l6 S)) ih l3 l4 x14 l6 (x14 - (1 : Int32)) (4) hM.2.2.2.2.1 S) (And.intro rfl (And.intro rfl (And.intro rfl (And.intro rfl (And.intro rfl trivial)))))
              · refine x_aload_n dX7_looks_314 rfl rfl ?_
                refine x_getR (r := 4) (k := 0) (j := 10) dX7_looks_315 hM.1 rfl rfl (Nat.le_of_ble_eq_true rfl) (fun w h => List.mem_cons_of_mem _ (inlX7 w h)) w_X7_looks_f21 ?_
                refine x_iload dX7_looks_318 rfl ?_
                refine x_zald dX7_looks_320 hM.2.2.2.2.1 ?_
                refine x_if_eq (tgt := 328) dX7_looks_321 (by decide) ?_ ?_
                · exact x_le (v_X7_looks_328 hM (fun l3 l4 l5 l6 S => (f_X7_looks_125 n l3 l4 l5 l6 S)) ih l3 l4 x14 l6 (x14 - (1 : Int32)) (4) hM.2.2.2.2.1 S) (And.intro rfl (And.intro rfl (And.intro rfl (And.intro rfl (And.intro rfl trivial)))))
                · refine x_iconst (1 : Int32) dX7_looks_324 (by decide) ?_
                  refine x_goto (tgt := 359) dX7_looks_325 (by decide) ?_
                  exact x_le (v_X7_looks_359 hM (fun l3 l4 l5 l6 S => (f_X7_looks_125 n l3 l4 l5 l6 S)) ih l3 l4 x14 l6 (1 : Int32) (x14 - (1 : Int32)) (4) hM.2.2.2.2.1 S) (And.intro rfl (And.intro rfl (And.intro rfl (And.intro rfl (And.intro rfl trivial)))))
        · refine x_aload_n dX7_looks_248 rfl rfl ?_
          refine x_getR (r := 4) (k := 0) (j := 10) dX7_looks_249 hM.1 rfl rfl (Nat.le_of_ble_eq_true rfl) (fun w h => List.mem_cons_of_mem _ (inlX7 w h)) w_X7_looks_f21 ?_
          refine x_iload dX7_looks_252 rfl ?_
          refine x_iconst (1 : Int32) dX7_looks_254 (by decide) ?_
          refine x_isub dX7_looks_255 ?_
          refine x_aload_n dX7_looks_256 rfl rfl ?_
          refine x_getR (r := 4) (k := 0) (j := 10) dX7_looks_257 hM.1 rfl rfl (Nat.le_of_ble_eq_true rfl) (fun w h => List.mem_cons_of_mem _ (inlX7 w h)) w_X7_looks_f21 ?_
          refine x_iload dX7_looks_260 rfl ?_
          refine x_iconst (1 : Int32) dX7_looks_262 (by decide) ?_
          refine x_isub dX7_looks_263 ?_
          refine x_zald dX7_looks_264 hM.2.2.2.2.1 ?_
          refine x_if_ne (tgt := 272) dX7_looks_265 (by decide) ?_ ?_
          · refine x_iconst (0 : Int32) dX7_looks_272 (by decide) ?_
            exact x_le (v_X7_looks_273 hM (fun l3 l4 l5 l6 S => (f_X7_looks_125 n l3 l4 l5 l6 S)) ih l3 l4 l5 l6 (0 : Int32) (l5 - (1 : Int32)) (4) hM.2.2.2.2.1 S) (And.intro rfl (And.intro rfl (And.intro rfl (And.intro rfl (And.intro rfl trivial)))))
          · refine x_iconst (1 : Int32) dX7_looks_268 (by decide) ?_
            refine x_goto (tgt := 273) dX7_looks_269 (by decide) ?_
            exact x_le (v_X7_looks_273 hM (fun l3 l4 l5 l6 S => (f_X7_looks_125 n l3 l4 l5 l6 S)) ih l3 l4 l5 l6 (1 : Int32) (l5 - (1 : Int32)) (4) hM.2.2.2.2.1 S) (And.intro rfl (And.intro rfl (And.intro rfl (And.intro rfl (And.intro rfl trivial)))))
      · refine x_aload_n dX7_looks_148 rfl rfl ?_
        refine x_getR (r := 3) (k := 0) (j := 9) dX7_looks_149 hM.1 rfl rfl (Nat.le_of_ble_eq_true rfl) (fun w h => List.mem_cons_of_mem _ (inlX7 w h)) w_X7_looks_f18 ?_
        refine x_iload dX7_looks_152 rfl ?_
        refine x_bipush (8 : Int32) dX7_looks_154 (by decide) ?_
        refine x_iremc dX7_looks_156 (by decide) ?_
        refine x_iald dX7_looks_157 hM.2.2.2.1 ?_
        refine x_lti (fun x15 => ?_)
        refine x_istore dX7_looks_158 (Nat.le_of_ble_eq_true rfl) rfl ?_
        refine x_iload dX7_looks_160 rfl ?_
        refine x_bipush (8 : Int32) dX7_looks_162 (by decide) ?_
        refine x_idivc dX7_looks_164 (by decide) ?_
        refine x_iconst (4 : Int32) dX7_looks_165 (by decide) ?_
        refine x_iremc dX7_looks_166 (by decide) ?_
        refine x_lti (fun x16 => ?_)
        refine x_istore dX7_looks_167 (Nat.le_of_ble_eq_true rfl) rfl ?_
        refine x_iload dX7_looks_169 rfl ?_
        refine x_bipush (32 : Int32) dX7_looks_171 (by decide) ?_
        refine x_idivc dX7_looks_173 (by decide) ?_
        refine x_lti (fun x17 => ?_)
        refine x_istore dX7_looks_174 (Nat.le_of_ble_eq_true rfl) rfl ?_
        refine x_aload_n dX7_looks_176 rfl rfl ?_
        refine x_getR (r := 4) (k := 0) (j := 10) dX7_looks_177 hM.1 rfl rfl (Nat.le_of_ble_eq_true rfl) (fun w h => List.mem_cons_of_mem _ (inlX7 w h)) w_X7_looks_f21 ?_
        refine x_iload dX7_looks_180 rfl ?_
        refine x_iload dX7_looks_182 rfl ?_
        refine x_if_ne (tgt := 202) dX7_looks_184 (by decide) ?_ ?_
        · refine x_iload dX7_looks_202 rfl ?_
          refine x_iconst (1 : Int32) dX7_looks_204 (by decide) ?_
          refine x_icmp_ne (tgt := 223) dX7_looks_205 (by decide) ?_ ?_
          · refine x_iload dX7_looks_223 rfl ?_
            refine x_iload dX7_looks_225 rfl ?_
            refine x_icmp_le (tgt := 234) dX7_looks_227 (by decide) ?_ ?_
            · refine x_iconst (0 : Int32) dX7_looks_234 (by decide) ?_
              exact x_le (v_X7_looks_235 hM (fun l3 l4 l5 l6 S => (f_X7_looks_125 n l3 l4 l5 l6 S)) ih l3 l4 l5 l6 (0 : Int32) l5 (4) hM.2.2.2.2.1 S) (And.intro rfl (And.intro rfl (And.intro rfl (And.intro rfl (And.intro rfl trivial)))))
            · refine x_iconst (1 : Int32) dX7_looks_230 (by decide) ?_
              refine x_goto (tgt := 235) dX7_looks_231 (by decide) ?_
              exact x_le (v_X7_looks_235 hM (fun l3 l4 l5 l6 S => (f_X7_looks_125 n l3 l4 l5 l6 S)) ih l3 l4 l5 l6 (1 : Int32) l5 (4) hM.2.2.2.2.1 S) (And.intro rfl (And.intro rfl (And.intro rfl (And.intro rfl (And.intro rfl trivial)))))
          · refine x_iload dX7_looks_208 rfl ?_
            refine x_iload dX7_looks_210 rfl ?_
            refine x_icmp_ne (tgt := 219) dX7_looks_212 (by decide) ?_ ?_
            · refine x_iconst (0 : Int32) dX7_looks_219 (by decide) ?_
              refine x_goto (tgt := 235) dX7_looks_220 (by decide) ?_
              exact x_le (v_X7_looks_235 hM (fun l3 l4 l5 l6 S => (f_X7_looks_125 n l3 l4 l5 l6 S)) ih l3 l4 l5 l6 (0 : Int32) l5 (4) hM.2.2.2.2.1 S) (And.intro rfl (And.intro rfl (And.intro rfl (And.intro rfl (And.intro rfl trivial)))))
            · refine x_iconst (1 : Int32) dX7_looks_215 (by decide) ?_
              refine x_goto (tgt := 235) dX7_looks_216 (by decide) ?_
              exact x_le (v_X7_looks_235 hM (fun l3 l4 l5 l6 S => (f_X7_looks_125 n l3 l4 l5 l6 S)) ih l3 l4 l5 l6 (1 : Int32) l5 (4) hM.2.2.2.2.1 S) (And.intro rfl (And.intro rfl (And.intro rfl (And.intro rfl (And.intro rfl trivial)))))
        · refine x_iload dX7_looks_187 rfl ?_
          refine x_iload dX7_looks_189 rfl ?_
          refine x_icmp_ge (tgt := 198) dX7_looks_191 (by decide) ?_ ?_
          · refine x_iconst (0 : Int32) dX7_looks_198 (by decide) ?_
            refine x_goto (tgt := 235) dX7_looks_199 (by decide) ?_
            exact x_le (v_X7_looks_235 hM (fun l3 l4 l5 l6 S => (f_X7_looks_125 n l3 l4 l5 l6 S)) ih l3 l4 l5 l6 (0 : Int32) l5 (4) hM.2.2.2.2.1 S) (And.intro rfl (And.intro rfl (And.intro rfl (And.intro rfl (And.intro rfl trivial)))))
          · refine x_iconst (1 : Int32) dX7_looks_194 (by decide) ?_
            refine x_goto (tgt := 235) dX7_looks_195 (by decide) ?_
            exact x_le (v_X7_looks_235 hM (fun l3 l4 l5 l6 S => (f_X7_looks_125 n l3 l4 l5 l6 S)) ih l3 l4 l5 l6 (1 : Int32) l5 (4) hM.2.2.2.2.1 S) (And.intro rfl (And.intro rfl (And.intro rfl (And.intro rfl (And.intro rfl trivial)))))
def f_X7_looks (p1 : Int32) (p2 : Int32) (S : aSt) : Option (Unit × aSt) := (aLt (aUi S (3) 0 p1) (fun S1 => (if ((110 : Int32) + p1) < 0 ∨ 979 ≤ (((110 : Int32) + p1)).toNatClampNeg then none else (aLt (aUi S1 (3) 1 (S1.1 (1) (((110 : Int32) + p1)).toNatClampNeg)) (fun S2 => (if ((128 : Int32) + p1) < 0 ∨ 979 ≤ (((128 : Int32) + p1)).toNatClampNeg then none else (aLt (aUi S2 (3) 2 (S2.1 (1) (((128 : Int32) + p1)).toNatClampNeg)) (fun S3 => (if ((134 : Int32) + p1) < 0 ∨ 979 ≤ (((134 : Int32) + p1)).toNatClampNeg then none else (aLt (aUi S3 (3) 3 (S3.1 (1) (((134 : Int32) + p1)).toNatClampNeg)) (fun S4 => (if ((146 : Int32) + p1) < 0 ∨ 979 ≤ (((146 : Int32) + p1)).toNatClampNeg then none else (aLt (aUi S4 (3) 4 (S4.1 (1) (((146 : Int32) + p1)).toNatClampNeg)) (fun S5 => (aLt (aUi S5 (3) 5 p2) (fun S6 => (aLt (aUi S6 (0) 11 (1 : Int32)) (fun S7 => (aLt (aUi S7 (0) 12 (40 : Int32)) (fun S8 => (aLt (aUi S8 (0) 13 (0 : Int32)) (fun S9 => (aB (f_X7_tellsOf (274 : Int32) (0 : Int32) S9) (fun r10_ S10 => (aLt ((279 : Int32) + ((140 : Int32) * (S10.1 (1) 4))) (fun x11 => (f_X7_looks_125 aF r10_ x11 (0 : Int32) x11 S10)))))))))))))))))))))))))))
set_option maxRecDepth 20000 in
set_option maxHeartbeats 4000000 in
theorem m_X7_looks {G : aG} (hM : aMo G) (p1 : Int32) (p2 : Int32) (S : aSt) : aMet G yX7_looks uX7_looks 3 mk_v (f_X7_looks p1 p2 S) [.ref (0), .int p1, .int p2] S := by
  refine x_met (cc := cX7_looks) (nL := 11) (ret := none) (L := [some (.ref (0)), some (.int p1), some (.int p2), none, none, none, none, none, none, none, none]) (by decide +kernel) rfl (And.intro rfl (And.intro rfl (And.intro rfl trivial))) (Nat.le_of_ble_eq_true rfl) ?_
  unfold f_X7_looks
  refine x_aload_n dX7_looks_0 rfl rfl ?_
  refine x_getR (r := 3) (k := 0) (j := 9) dX7_looks_1 hM.1 rfl rfl (Nat.le_of_ble_eq_true rfl) (fun w h => List.mem_cons_of_mem _ (inlX7 w h)) w_X7_looks_f18 ?_
  refine x_iconst (0 : Int32) dX7_looks_4 (by decide) ?_
  refine x_iload_n dX7_looks_5 rfl rfl ?_
  refine x_iastc (j := 0) dX7_looks_6 hM.2.2.2.1 (by unfold vp_in; decide) (by decide) ?_
  refine x_ltS (fun S1 => ?_)
  refine x_aload_n dX7_looks_7 rfl rfl ?_
  refine x_getR (r := 3) (k := 0) (j := 9) dX7_looks_8 hM.1 rfl rfl (Nat.le_of_ble_eq_true rfl) (fun w h => List.mem_cons_of_mem _ (inlX7 w h)) w_X7_looks_f18 ?_
  refine x_iconst (1 : Int32) dX7_looks_11 (by decide) ?_
  refine x_aload_n dX7_looks_12 rfl rfl ?_
  refine x_getR (r := 1) (k := 0) (j := 1) dX7_looks_13 hM.1 rfl rfl (Nat.le_of_ble_eq_true rfl) (fun w h => List.mem_cons_of_mem _ (inlX7 w h)) w_X7_looks_f9 ?_
  refine x_bipush (110 : Int32) dX7_looks_16 (by decide) ?_
  refine x_iload_n dX7_looks_18 rfl rfl ?_
  refine x_iadd dX7_looks_19 ?_
  refine x_iald dX7_looks_20 hM.2.1 ?_
  refine x_iastc (j := 1) dX7_looks_21 hM.2.2.2.1 (by unfold vp_in; decide) (by decide) ?_
  refine x_ltS (fun S2 => ?_)
  refine x_aload_n dX7_looks_22 rfl rfl ?_
  refine x_getR (r := 3) (k := 0) (j := 9) dX7_looks_23 hM.1 rfl rfl (Nat.le_of_ble_eq_true rfl) (fun w h => List.mem_cons_of_mem _ (inlX7 w h)) w_X7_looks_f18 ?_
  refine x_iconst (2 : Int32) dX7_looks_26 (by decide) ?_
  refine x_aload_n dX7_looks_27 rfl rfl ?_
  refine x_getR (r := 1) (k := 0) (j := 1) dX7_looks_28 hM.1 rfl rfl (Nat.le_of_ble_eq_true rfl) (fun w h => List.mem_cons_of_mem _ (inlX7 w h)) w_X7_looks_f9 ?_
  refine x_sipush (128 : Int32) dX7_looks_31 (by decide) ?_
  refine x_iload_n dX7_looks_34 rfl rfl ?_
  refine x_iadd dX7_looks_35 ?_
  refine x_iald dX7_looks_36 hM.2.1 ?_
  refine x_iastc (j := 2) dX7_looks_37 hM.2.2.2.1 (by unfold vp_in; decide) (by decide) ?_
  refine x_ltS (fun S3 => ?_)
  refine x_aload_n dX7_looks_38 rfl rfl ?_
  refine x_getR (r := 3) (k := 0) (j := 9) dX7_looks_39 hM.1 rfl rfl (Nat.le_of_ble_eq_true rfl) (fun w h => List.mem_cons_of_mem _ (inlX7 w h)) w_X7_looks_f18 ?_
  refine x_iconst (3 : Int32) dX7_looks_42 (by decide) ?_
  refine x_aload_n dX7_looks_43 rfl rfl ?_
  refine x_getR (r := 1) (k := 0) (j := 1) dX7_looks_44 hM.1 rfl rfl (Nat.le_of_ble_eq_true rfl) (fun w h => List.mem_cons_of_mem _ (inlX7 w h)) w_X7_looks_f9 ?_
  refine x_sipush (134 : Int32) dX7_looks_47 (by decide) ?_
  refine x_iload_n dX7_looks_50 rfl rfl ?_
  refine x_iadd dX7_looks_51 ?_
  refine x_iald dX7_looks_52 hM.2.1 ?_
  refine x_iastc (j := 3) dX7_looks_53 hM.2.2.2.1 (by unfold vp_in; decide) (by decide) ?_
  refine x_ltS (fun S4 => ?_)
  refine x_aload_n dX7_looks_54 rfl rfl ?_
  refine x_getR (r := 3) (k := 0) (j := 9) dX7_looks_55 hM.1 rfl rfl (Nat.le_of_ble_eq_true rfl) (fun w h => List.mem_cons_of_mem _ (inlX7 w h)) w_X7_looks_f18 ?_
  refine x_iconst (4 : Int32) dX7_looks_58 (by decide) ?_
  refine x_aload_n dX7_looks_59 rfl rfl ?_
  refine x_getR (r := 1) (k := 0) (j := 1) dX7_looks_60 hM.1 rfl rfl (Nat.le_of_ble_eq_true rfl) (fun w h => List.mem_cons_of_mem _ (inlX7 w h)) w_X7_looks_f9 ?_
  refine x_sipush (146 : Int32) dX7_looks_63 (by decide) ?_
  refine x_iload_n dX7_looks_66 rfl rfl ?_
  refine x_iadd dX7_looks_67 ?_
  refine x_iald dX7_looks_68 hM.2.1 ?_
  refine x_iastc (j := 4) dX7_looks_69 hM.2.2.2.1 (by unfold vp_in; decide) (by decide) ?_
  refine x_ltS (fun S5 => ?_)
  refine x_aload_n dX7_looks_70 rfl rfl ?_
  refine x_getR (r := 3) (k := 0) (j := 9) dX7_looks_71 hM.1 rfl rfl (Nat.le_of_ble_eq_true rfl) (fun w h => List.mem_cons_of_mem _ (inlX7 w h)) w_X7_looks_f18 ?_
  refine x_iconst (5 : Int32) dX7_looks_74 (by decide) ?_
  refine x_iload_n dX7_looks_75 rfl rfl ?_
  refine x_iastc (j := 5) dX7_looks_76 hM.2.2.2.1 (by unfold vp_in; decide) (by decide) ?_
  refine x_ltS (fun S6 => ?_)
  refine x_aload_n dX7_looks_77 rfl rfl ?_
  refine x_iconst (1 : Int32) dX7_looks_78 (by decide) ?_
  refine x_putI (k := 0) (j := 11) dX7_looks_79 hM.1 rfl rfl (Nat.le_of_ble_eq_true rfl) (fun w h => List.mem_cons_of_mem _ (inlX7 w h)) w_X7_looks_f129 tyX7 tyX7_ok nmX7 rfl (by decide +kernel) ?_
  refine x_ltS (fun S7 => ?_)
  refine x_aload_n dX7_looks_82 rfl rfl ?_
  refine x_bipush (40 : Int32) dX7_looks_83 (by decide) ?_
  refine x_putI (k := 0) (j := 12) dX7_looks_85 hM.1 rfl rfl (Nat.le_of_ble_eq_true rfl) (fun w h => List.mem_cons_of_mem _ (inlX7 w h)) w_X7_looks_f132 tyX7 tyX7_ok nmX7 rfl (by decide +kernel) ?_
  refine x_ltS (fun S8 => ?_)
  refine x_aload_n dX7_looks_88 rfl rfl ?_
  refine x_iconst (0 : Int32) dX7_looks_89 (by decide) ?_
  refine x_putI (k := 0) (j := 13) dX7_looks_90 hM.1 rfl rfl (Nat.le_of_ble_eq_true rfl) (fun w h => List.mem_cons_of_mem _ (inlX7 w h)) w_X7_looks_f135 tyX7 tyX7_ok nmX7 rfl (by decide +kernel) ?_
  refine x_ltS (fun S9 => ?_)
  refine x_aload_n dX7_looks_93 rfl rfl ?_
  refine x_sipush (274 : Int32) dX7_looks_94 (by decide) ?_
  refine x_iconst (0 : Int32) dX7_looks_97 (by decide) ?_
  refine x_b (fun r10_ S10 e10 => ?_)
  refine x_callVi (As := [.int (274 : Int32), .int (0 : Int32)]) dX7_looks_98 (aMet_of e10 (m_X7_tellsOf hM (274 : Int32) (0 : Int32) S9)) g_X7_looks_125 rfl hM.1 rfl dd_X7_tellsOf rfl rfl (Nat.le_of_ble_eq_true rfl) (Nat.le_of_ble_eq_true rfl) (Nat.le_of_ble_eq_true rfl) ?_
  refine x_istore_n dX7_looks_101 rfl (Nat.le_of_ble_eq_true rfl) rfl ?_
  refine x_sipush (279 : Int32) dX7_looks_102 (by decide) ?_
  refine x_sipush (140 : Int32) dX7_looks_105 (by decide) ?_
  refine x_aload_n dX7_looks_108 rfl rfl ?_
  refine x_getR (r := 1) (k := 0) (j := 1) dX7_looks_109 hM.1 rfl rfl (Nat.le_of_ble_eq_true rfl) (fun w h => List.mem_cons_of_mem _ (inlX7 w h)) w_X7_looks_f9 ?_
  refine x_iconst (4 : Int32) dX7_looks_112 (by decide) ?_
  refine x_ialdc (j := 4) dX7_looks_113 hM.2.1 (by unfold vp_in; decide) (by decide) ?_
  refine x_imul dX7_looks_114 ?_
  refine x_iadd dX7_looks_115 ?_
  refine x_lti (fun x11 => ?_)
  refine x_istore dX7_looks_116 (Nat.le_of_ble_eq_true rfl) rfl ?_
  refine x_iconst (0 : Int32) dX7_looks_118 (by decide) ?_
  refine x_istore dX7_looks_119 (Nat.le_of_ble_eq_true rfl) rfl ?_
  refine x_iload dX7_looks_121 rfl ?_
  refine x_istore dX7_looks_123 (Nat.le_of_ble_eq_true rfl) rfl ?_
  exact x_le (v_X7_looks_125 hM aF r10_ x11 (0 : Int32) x11 S10) (And.intro rfl (And.intro rfl (And.intro rfl (And.intro rfl (And.intro rfl trivial)))))
theorem g_X7_tree_41 : GoodIn uX7_tree (va_wsS yX7_tree.cls 41 yX7_in uX7_in) := gU_S (wU_r6 _ (List.mem_of_getElem? (i := 4) rfl)) (wU_r6 _ (List.mem_of_getElem? (i := 5) rfl)) (wU_r1 _ (List.mem_of_getElem? (i := 5) rfl)) (wU_r6 _ (List.mem_of_getElem? (i := 6) rfl))
theorem w_X7_tree_f9 : Cond.fieldLink yX7_tree.cls 9 (TX7 1).1 (TX7 1).2.1 (TX7 1).2.2.1 ∈ uX7_tree := List.mem_cons_of_mem _ (wU_r4 _ (List.mem_of_getElem? (i := 14) rfl))
def f_X7_tree_202  : Nat → Int32 → Int32 → aSt → Option (Int32 × aSt)
  | 0, _, _, _ => none
  | n + 1, l5, l6, S => (if (6 : Int32) ≤ l6 then (aLt (aUi S (1) 0 ((S.1 (1) 0) + (1 : Int32))) (fun S15 => (some (l5, S15)))) else (if (((158 : Int32) + ((6 : Int32) * l5)) + l6) < 0 ∨ 979 ≤ ((((158 : Int32) + ((6 : Int32) * l5)) + l6)).toNatClampNeg then none else (aLt (aUi S (1) ((((158 : Int32) + ((6 : Int32) * l5)) + l6)).toNatClampNeg (0 : Int32)) (fun S16 => (aLt (l6 + (1 : Int32)) (fun x17 => (f_X7_tree_202 n l5 x17 S16)))))))
set_option maxRecDepth 20000 in
set_option maxHeartbeats 4000000 in
theorem v_X7_tree_202 {G : aG} (hM : aMo G) : ∀ (n : Nat) (l5 : Int32) (l6 : Int32) (S : aSt), aX G yX7_tree cX7_tree 7 (some .int) uX7_tree 3 mk_i (f_X7_tree_202 n l5 l6 S) 202 [some (.ref (0)), none, none, none, none, some (.int l5), some (.int l6)] [] S := by
  intro n
  induction n with
  | zero => intro l5 l6 S; exact x_none
  | succ n ih =>
    intro l5 l6 S
    unfold f_X7_tree_202
    refine x_iload dX7_tree_202 rfl ?_
    refine x_bipush (6 : Int32) dX7_tree_204 (by decide) ?_
    refine x_icmp_ge (tgt := 233) dX7_tree_206 (by decide) ?_ ?_
    · refine x_aload_n dX7_tree_233 rfl rfl ?_
      refine x_getR (r := 1) (k := 0) (j := 1) dX7_tree_234 hM.1 rfl rfl (Nat.le_of_ble_eq_true rfl) (fun w h => List.mem_cons_of_mem _ (inlX7 w h)) w_X7_tree_f9 ?_
      refine x_iconst (0 : Int32) dX7_tree_237 (by decide) ?_
      refine x_dup2 dX7_tree_238 rfl rfl ?_
      refine x_ialdc (j := 0) dX7_tree_239 hM.2.1 (by unfold vp_in; decide) (by decide) ?_
      refine x_iconst (1 : Int32) dX7_tree_240 (by decide) ?_
      refine x_iadd dX7_tree_241 ?_
      refine x_iastc (j := 0) dX7_tree_242 hM.2.1 (by unfold vp_in; decide) (by decide) ?_
      refine x_ltS (fun S15 => ?_)
      refine x_iload dX7_tree_243 rfl ?_
      exact x_iret dX7_tree_245 rfl
    · refine x_aload_n dX7_tree_209 rfl rfl ?_
      refine x_getR (r := 1) (k := 0) (j := 1) dX7_tree_210 hM.1 rfl rfl (Nat.le_of_ble_eq_true rfl) (fun w h => List.mem_cons_of_mem _ (inlX7 w h)) w_X7_tree_f9 ?_
      refine x_sipush (158 : Int32) dX7_tree_213 (by decide) ?_
      refine x_bipush (6 : Int32) dX7_tree_216 (by decide) ?_
      refine x_iload dX7_tree_218 rfl ?_
      refine x_imul dX7_tree_220 ?_
      refine x_iadd dX7_tree_221 ?_
      refine x_iload dX7_tree_222 rfl ?_
      refine x_iadd dX7_tree_224 ?_
      refine x_iconst (0 : Int32) dX7_tree_225 (by decide) ?_
      refine x_iast dX7_tree_226 hM.2.1 ?_
      refine x_ltS (fun S16 => ?_)
      refine x_iincL (w := (1 : Int32)) dX7_tree_227 rfl (by decide) (Nat.le_of_ble_eq_true rfl) rfl (fun x17 => ?_)
      refine x_goto (tgt := 202) dX7_tree_230 (by decide) ?_
      exact x_le (ih l5 x17 S16) (And.intro rfl (And.intro rfl (And.intro rfl trivial)))
def f_X7_tree_49  : Nat → Int32 → Int32 → Int32 → Int32 → Int32 → aSt → Option (Int32 × aSt)
  | 0, _, _, _, _, _, _ => none
  | n + 1, l1, l2, l3, l4, l5, S => (if (S.1 (1) 0) ≤ l5 then (if (S.1 (1) 0) = (6 : Int32) then (some ((-4 : Int32), S)) else (aLt (S.1 (1) 0) (fun x5 => (if ((110 : Int32) + x5) < 0 ∨ 979 ≤ (((110 : Int32) + x5)).toNatClampNeg then none else (aLt (aUi S (1) (((110 : Int32) + x5)).toNatClampNeg l1) (fun S6 => (if ((116 : Int32) + x5) < 0 ∨ 979 ≤ (((116 : Int32) + x5)).toNatClampNeg then none else (aLt (aUi S6 (1) (((116 : Int32) + x5)).toNatClampNeg l2) (fun S7 => (if ((122 : Int32) + x5) < 0 ∨ 979 ≤ (((122 : Int32) + x5)).toNatClampNeg then none else (aLt (aUi S7 (1) (((122 : Int32) + x5)).toNatClampNeg l3) (fun S8 => (if ((128 : Int32) + x5) < 0 ∨ 979 ≤ (((128 : Int32) + x5)).toNatClampNeg then none else (aLt (aUi S8 (1) (((128 : Int32) + x5)).toNatClampNeg l4) (fun S9 => (if ((134 : Int32) + x5) < 0 ∨ 979 ≤ (((134 : Int32) + x5)).toNatClampNeg then none else (aLt (aUi S9 (1) (((134 : Int32) + x5)).toNatClampNeg (0 : Int32)) (fun S10 => (if ((140 : Int32) + x5) < 0 ∨ 979 ≤ (((140 : Int32) + x5)).toNatClampNeg then none else (aLt (aUi S10 (1) (((140 : Int32) + x5)).toNatClampNeg (0 : Int32)) (fun S11 => (if ((146 : Int32) + x5) < 0 ∨ 979 ≤ (((146 : Int32) + x5)).toNatClampNeg then none else (aLt (aUi S11 (1) (((146 : Int32) + x5)).toNatClampNeg (0 : Int32)) (fun S12 => (if ((152 : Int32) + x5) < 0 ∨ 979 ≤ (((152 : Int32) + x5)).toNatClampNeg then none else (aLt (aUi S12 (1) (((152 : Int32) + x5)).toNatClampNeg (1 : Int32)) (fun S13 => (f_X7_tree_202 aF x5 (0 : Int32) S13)))))))))))))))))))))))))))) else (if ((122 : Int32) + l5) < 0 ∨ 979 ≤ (((122 : Int32) + l5)).toNatClampNeg then none else (if (S.1 (1) (((122 : Int32) + l5)).toNatClampNeg) = l3 then (some ((-3 : Int32), S)) else (aLt (l5 + (1 : Int32)) (fun x14 => (f_X7_tree_49 n l1 l2 l3 l4 x14 S))))))
set_option maxRecDepth 20000 in
set_option maxHeartbeats 4000000 in
theorem v_X7_tree_49 {G : aG} (hM : aMo G) : ∀ (n : Nat) (l1 : Int32) (l2 : Int32) (l3 : Int32) (l4 : Int32) (l5 : Int32) (S : aSt), aX G yX7_tree cX7_tree 7 (some .int) uX7_tree 3 mk_i (f_X7_tree_49 n l1 l2 l3 l4 l5 S) 49 [some (.ref (0)), some (.int l1), some (.int l2), some (.int l3), some (.int l4), some (.int l5), none] [] S := by
  intro n
  induction n with
  | zero => intro l1 l2 l3 l4 l5 S; exact x_none
  | succ n ih =>
    intro l1 l2 l3 l4 l5 S
    unfold f_X7_tree_49
    refine x_iload dX7_tree_49 rfl ?_
    refine x_aload_n dX7_tree_51 rfl rfl ?_
    refine x_getR (r := 1) (k := 0) (j := 1) dX7_tree_52 hM.1 rfl rfl (Nat.le_of_ble_eq_true rfl) (fun w h => List.mem_cons_of_mem _ (inlX7 w h)) w_X7_tree_f9 ?_
    refine x_iconst (0 : Int32) dX7_tree_55 (by decide) ?_
    refine x_ialdc (j := 0) dX7_tree_56 hM.2.1 (by unfold vp_in; decide) (by decide) ?_
    refine x_icmp_ge (tgt := 83) dX7_tree_57 (by decide) ?_ ?_
    · refine x_aload_n dX7_tree_83 rfl rfl ?_
      refine x_getR (r := 1) (k := 0) (j := 1) dX7_tree_84 hM.1 rfl rfl (Nat.le_of_ble_eq_true rfl) (fun w h => List.mem_cons_of_mem _ (inlX7 w h)) w_X7_tree_f9 ?_
      refine x_iconst (0 : Int32) dX7_tree_87 (by decide) ?_
      refine x_ialdc (j := 0) dX7_tree_88 hM.2.1 (by unfold vp_in; decide) (by decide) ?_
      refine x_bipush (6 : Int32) dX7_tree_89 (by decide) ?_
      refine x_icmp_ne (tgt := 97) dX7_tree_91 (by decide) ?_ ?_
      · refine x_aload_n dX7_tree_97 rfl rfl ?_
        refine x_getR (r := 1) (k := 0) (j := 1) dX7_tree_98 hM.1 rfl rfl (Nat.le_of_ble_eq_true rfl) (fun w h => List.mem_cons_of_mem _ (inlX7 w h)) w_X7_tree_f9 ?_
        refine x_iconst (0 : Int32) dX7_tree_101 (by decide) ?_
        refine x_ialdc (j := 0) dX7_tree_102 hM.2.1 (by unfold vp_in; decide) (by decide) ?_
        refine x_lti (fun x5 => ?_)
        refine x_istore dX7_tree_103 (Nat.le_of_ble_eq_true rfl) rfl ?_
        refine x_aload_n dX7_tree_105 rfl rfl ?_
        refine x_getR (r := 1) (k := 0) (j := 1) dX7_tree_106 hM.1 rfl rfl (Nat.le_of_ble_eq_true rfl) (fun w h => List.mem_cons_of_mem _ (inlX7 w h)) w_X7_tree_f9 ?_
        refine x_bipush (110 : Int32) dX7_tree_109 (by decide) ?_
        refine x_iload dX7_tree_111 rfl ?_
        refine x_iadd dX7_tree_113 ?_
        refine x_iload_n dX7_tree_114 rfl rfl ?_
        refine x_iast dX7_tree_115 hM.2.1 ?_
        refine x_ltS (fun S6 => ?_)
        refine x_aload_n dX7_tree_116 rfl rfl ?_
        refine x_getR (r := 1) (k := 0) (j := 1) dX7_tree_117 hM.1 rfl rfl (Nat.le_of_ble_eq_true rfl) (fun w h => List.mem_cons_of_mem _ (inlX7 w h)) w_X7_tree_f9 ?_
        refine x_bipush (116 : Int32) dX7_tree_120 (by decide) ?_
        refine x_iload dX7_tree_122 rfl ?_
        refine x_iadd dX7_tree_124 ?_
        refine x_iload_n dX7_tree_125 rfl rfl ?_
        refine x_iast dX7_tree_126 hM.2.1 ?_
        refine x_ltS (fun S7 => ?_)
        refine x_aload_n dX7_tree_127 rfl rfl ?_
        refine x_getR (r := 1) (k := 0) (j := 1) dX7_tree_128 hM.1 rfl rfl (Nat.le_of_ble_eq_true rfl) (fun w h => List.mem_cons_of_mem _ (inlX7 w h)) w_X7_tree_f9 ?_
        refine x_bipush (122 : Int32) dX7_tree_131 (by decide) ?_
        refine x_iload dX7_tree_133 rfl ?_
        refine x_iadd dX7_tree_135 ?_
        refine x_iload_n dX7_tree_136 rfl rfl ?_
        refine x_iast dX7_tree_137 hM.2.1 ?_
        refine x_ltS (fun S8 => ?_)
        refine x_aload_n dX7_tree_138 rfl rfl ?_
        refine x_getR (r := 1) (k := 0) (j := 1) dX7_tree_139 hM.1 rfl rfl (Nat.le_of_ble_eq_true rfl) (fun w h => List.mem_cons_of_mem _ (inlX7 w h)) w_X7_tree_f9 ?_
        refine x_sipush (128 : Int32) dX7_tree_142 (by decide) ?_
        refine x_iload dX7_tree_145 rfl ?_
        refine x_iadd dX7_tree_147 ?_
        refine x_iload dX7_tree_148 rfl ?_
        refine x_iast dX7_tree_150 hM.2.1 ?_
        refine x_ltS (fun S9 => ?_)
        refine x_aload_n dX7_tree_151 rfl rfl ?_
        refine x_getR (r := 1) (k := 0) (j := 1) dX7_tree_152 hM.1 rfl rfl (Nat.le_of_ble_eq_true rfl) (fun w h => List.mem_cons_of_mem _ (inlX7 w h)) w_X7_tree_f9 ?_
        refine x_sipush (134 : Int32) dX7_tree_155 (by decide) ?_
        refine x_iload dX7_tree_158 rfl ?_
        refine x_iadd dX7_tree_160 ?_
        refine x_iconst (0 : Int32) dX7_tree_161 (by decide) ?_
        refine x_iast dX7_tree_162 hM.2.1 ?_
        refine x_ltS (fun S10 => ?_)
        refine x_aload_n dX7_tree_163 rfl rfl ?_
        refine x_getR (r := 1) (k := 0) (j := 1) dX7_tree_164 hM.1 rfl rfl (Nat.le_of_ble_eq_true rfl) (fun w h => List.mem_cons_of_mem _ (inlX7 w h)) w_X7_tree_f9 ?_
        refine x_sipush (140 : Int32) dX7_tree_167 (by decide) ?_
        refine x_iload dX7_tree_170 rfl ?_
        refine x_iadd dX7_tree_172 ?_
        refine x_iconst (0 : Int32) dX7_tree_173 (by decide) ?_
        refine x_iast dX7_tree_174 hM.2.1 ?_
        refine x_ltS (fun S11 => ?_)
        refine x_aload_n dX7_tree_175 rfl rfl ?_
        refine x_getR (r := 1) (k := 0) (j := 1) dX7_tree_176 hM.1 rfl rfl (Nat.le_of_ble_eq_true rfl) (fun w h => List.mem_cons_of_mem _ (inlX7 w h)) w_X7_tree_f9 ?_
        refine x_sipush (146 : Int32) dX7_tree_179 (by decide) ?_
        refine x_iload dX7_tree_182 rfl ?_
        refine x_iadd dX7_tree_184 ?_
        refine x_iconst (0 : Int32) dX7_tree_185 (by decide) ?_
        refine x_iast dX7_tree_186 hM.2.1 ?_
        refine x_ltS (fun S12 => ?_)
        refine x_aload_n dX7_tree_187 rfl rfl ?_
        refine x_getR (r := 1) (k := 0) (j := 1) dX7_tree_188 hM.1 rfl rfl (Nat.le_of_ble_eq_true rfl) (fun w h => List.mem_cons_of_mem _ (inlX7 w h)) w_X7_tree_f9 ?_
        refine x_sipush (152 : Int32) dX7_tree_191 (by decide) ?_
        refine x_iload dX7_tree_194 rfl ?_
        refine x_iadd dX7_tree_196 ?_
        refine x_iconst (1 : Int32) dX7_tree_197 (by decide) ?_
        refine x_iast dX7_tree_198 hM.2.1 ?_
        refine x_ltS (fun S13 => ?_)
        refine x_iconst (0 : Int32) dX7_tree_199 (by decide) ?_
        refine x_istore dX7_tree_200 (Nat.le_of_ble_eq_true rfl) rfl ?_
        exact x_le (v_X7_tree_202 hM aF x5 (0 : Int32) S13) (And.intro rfl (And.intro rfl (And.intro rfl trivial)))
      · refine x_bipush (-4 : Int32) dX7_tree_94 (by decide) ?_
        exact x_iret dX7_tree_96 rfl
    · refine x_aload_n dX7_tree_60 rfl rfl ?_
      refine x_getR (r := 1) (k := 0) (j := 1) dX7_tree_61 hM.1 rfl rfl (Nat.le_of_ble_eq_true rfl) (fun w h => List.mem_cons_of_mem _ (inlX7 w h)) w_X7_tree_f9 ?_
      refine x_bipush (122 : Int32) dX7_tree_64 (by decide) ?_
      refine x_iload dX7_tree_66 rfl ?_
      refine x_iadd dX7_tree_68 ?_
      refine x_iald dX7_tree_69 hM.2.1 ?_
      refine x_iload_n dX7_tree_70 rfl rfl ?_
      refine x_icmp_ne (tgt := 77) dX7_tree_71 (by decide) ?_ ?_
      · refine x_iincL (w := (1 : Int32)) dX7_tree_77 rfl (by decide) (Nat.le_of_ble_eq_true rfl) rfl (fun x14 => ?_)
        refine x_goto (tgt := 49) dX7_tree_80 (by decide) ?_
        exact x_le (ih l1 l2 l3 l4 x14 S) (And.intro rfl (And.intro rfl (And.intro rfl (And.intro rfl (And.intro rfl (And.intro rfl trivial))))))
      · refine x_bipush (-3 : Int32) dX7_tree_74 (by decide) ?_
        exact x_iret dX7_tree_76 rfl
def f_X7_tree (p1 : Int32) (p2 : Int32) (p3 : Int32) (p4 : Int32) (S : aSt) : Option (Int32 × aSt) := (aB (f_X7_in p1 (0 : Int32) (6 : Int32) S) (fun r1_ S1 => (if r1_ = 0 then (some ((-1 : Int32), S1)) else (aB (f_X7_in p3 (0 : Int32) (63 : Int32) S1) (fun r2_ S2 => (if r2_ = 0 then (some ((-1 : Int32), S2)) else (aB (f_X7_in p2 (0 : Int32) (9 : Int32) S2) (fun r3_ S3 => (if r3_ = 0 then (some ((-2 : Int32), S3)) else (aB (f_X7_in p4 (1 : Int32) (7 : Int32) S3) (fun r4_ S4 => (if r4_ = 0 then (some ((-2 : Int32), S4)) else (f_X7_tree_49 aF p1 p2 p3 p4 (0 : Int32) S4)))))))))))))
set_option maxRecDepth 20000 in
set_option maxHeartbeats 4000000 in
theorem m_X7_tree {G : aG} (hM : aMo G) (p1 : Int32) (p2 : Int32) (p3 : Int32) (p4 : Int32) (S : aSt) : aMet G yX7_tree uX7_tree 3 mk_i (f_X7_tree p1 p2 p3 p4 S) [.ref (0), .int p1, .int p2, .int p3, .int p4] S := by
  refine x_met (cc := cX7_tree) (nL := 7) (ret := (some .int)) (L := [some (.ref (0)), some (.int p1), some (.int p2), some (.int p3), some (.int p4), none, none]) (by decide +kernel) rfl (And.intro rfl (And.intro rfl (And.intro rfl (And.intro rfl (And.intro rfl trivial))))) (Nat.le_of_ble_eq_true rfl) ?_
  unfold f_X7_tree
  refine x_iload_n dX7_tree_0 rfl rfl ?_
  refine x_iconst (0 : Int32) dX7_tree_1 (by decide) ?_
  refine x_bipush (6 : Int32) dX7_tree_2 (by decide) ?_
  refine x_b (fun r1_ S1 e1 => ?_)
  refine x_callSi (As := [.int p1, .int (0 : Int32), .int (6 : Int32)]) dX7_tree_4 (aMet_of e1 (m_X7_in p1 (0 : Int32) (6 : Int32) S)) g_X7_tree_41 rfl dd_X7_in rfl rfl (Nat.le_of_ble_eq_true rfl) (Nat.le_of_ble_eq_true rfl) (Nat.le_of_ble_eq_true rfl) ?_
  refine x_if_eq (tgt := 20) dX7_tree_7 (by decide) ?_ ?_
  · refine x_iconst (-1 : Int32) dX7_tree_20 (by decide) ?_
    exact x_iret dX7_tree_21 rfl
  · refine x_iload_n dX7_tree_10 rfl rfl ?_
    refine x_iconst (0 : Int32) dX7_tree_11 (by decide) ?_
    refine x_bipush (63 : Int32) dX7_tree_12 (by decide) ?_
    refine x_b (fun r2_ S2 e2 => ?_)
    refine x_callSi (As := [.int p3, .int (0 : Int32), .int (63 : Int32)]) dX7_tree_14 (aMet_of e2 (m_X7_in p3 (0 : Int32) (63 : Int32) S1)) g_X7_tree_41 rfl dd_X7_in rfl rfl (Nat.le_of_ble_eq_true rfl) (Nat.le_of_ble_eq_true rfl) (Nat.le_of_ble_eq_true rfl) ?_
    refine x_if_ne (tgt := 22) dX7_tree_17 (by decide) ?_ ?_
    · refine x_iload_n dX7_tree_22 rfl rfl ?_
      refine x_iconst (0 : Int32) dX7_tree_23 (by decide) ?_
      refine x_bipush (9 : Int32) dX7_tree_24 (by decide) ?_
      refine x_b (fun r3_ S3 e3 => ?_)
      refine x_callSi (As := [.int p2, .int (0 : Int32), .int (9 : Int32)]) dX7_tree_26 (aMet_of e3 (m_X7_in p2 (0 : Int32) (9 : Int32) S2)) g_X7_tree_41 rfl dd_X7_in rfl rfl (Nat.le_of_ble_eq_true rfl) (Nat.le_of_ble_eq_true rfl) (Nat.le_of_ble_eq_true rfl) ?_
      refine x_if_eq (tgt := 43) dX7_tree_29 (by decide) ?_ ?_
      · refine x_bipush (-2 : Int32) dX7_tree_43 (by decide) ?_
        exact x_iret dX7_tree_45 rfl
      · refine x_iload dX7_tree_32 rfl ?_
        refine x_iconst (1 : Int32) dX7_tree_34 (by decide) ?_
        refine x_bipush (7 : Int32) dX7_tree_35 (by decide) ?_
        refine x_b (fun r4_ S4 e4 => ?_)
        refine x_callSi (As := [.int p4, .int (1 : Int32), .int (7 : Int32)]) dX7_tree_37 (aMet_of e4 (m_X7_in p4 (1 : Int32) (7 : Int32) S3)) g_X7_tree_41 rfl dd_X7_in rfl rfl (Nat.le_of_ble_eq_true rfl) (Nat.le_of_ble_eq_true rfl) (Nat.le_of_ble_eq_true rfl) ?_
        refine x_if_ne (tgt := 46) dX7_tree_40 (by decide) ?_ ?_
        · refine x_iconst (0 : Int32) dX7_tree_46 (by decide) ?_
          refine x_istore dX7_tree_47 (Nat.le_of_ble_eq_true rfl) rfl ?_
          exact x_le (v_X7_tree_49 hM aF p1 p2 p3 p4 (0 : Int32) S4) (And.intro rfl (And.intro rfl (And.intro rfl (And.intro rfl (And.intro rfl (And.intro rfl trivial))))))
        · refine x_bipush (-2 : Int32) dX7_tree_43 (by decide) ?_
          exact x_iret dX7_tree_45 rfl
    · refine x_iconst (-1 : Int32) dX7_tree_20 (by decide) ?_
      exact x_iret dX7_tree_21 rfl
theorem dd_X7_isTree : yX7_isTree.cls = RX7 ∧ yX7_isTree.cls ≠ "java/lang/invoke/MethodHandle" ∧ yX7_isTree.cls ≠ "java/lang/invoke/VarHandle" ∧ (parseMethodDescriptor yX7_isTree.desc).map (fun d => d.parameters.length) = some 1 := by decide +kernel
theorem dd_X7_isWay : yX7_isWay.cls ≠ "java/lang/invoke/MethodHandle" ∧ yX7_isWay.cls ≠ "java/lang/invoke/VarHandle" ∧ (parseMethodDescriptor yX7_isWay.desc).map (fun d => d.parameters.length) = some 1 := by decide +kernel
theorem g_X7_lean_138 : GoodIn uX7_lean (wsV yX7_lean.cls 138 RX7 yX7_isTree uX7_isTree) := gU_V (wU_r19 _ (List.mem_of_getElem? (i := 1) rfl)) (wU_r19 _ (List.mem_of_getElem? (i := 2) rfl)) (wU_r19 _ (List.mem_of_getElem? (i := 3) rfl)) (wU_r1 _ (List.mem_of_getElem? (i := 5) rfl)) (wU_r19 _ (List.mem_of_getElem? (i := 4) rfl))
theorem g_X7_lean_142 : GoodIn uX7_lean (va_wsS yX7_lean.cls 142 yX7_isWay uX7_isWay) := gU_S (wU_r19 _ (List.mem_of_getElem? (i := 5) rfl)) (wU_r19 _ (List.mem_of_getElem? (i := 6) rfl)) (wU_r1 _ (List.mem_of_getElem? (i := 5) rfl)) (wU_r19 _ (List.mem_of_getElem? (i := 7) rfl))
theorem g_X7_lean_41 : GoodIn uX7_lean (va_wsS yX7_lean.cls 41 yX7_in uX7_in) := gU_S (wU_r6 _ (List.mem_of_getElem? (i := 4) rfl)) (wU_r6 _ (List.mem_of_getElem? (i := 5) rfl)) (wU_r1 _ (List.mem_of_getElem? (i := 5) rfl)) (wU_r6 _ (List.mem_of_getElem? (i := 6) rfl))
theorem w_X7_lean_f9 : Cond.fieldLink yX7_lean.cls 9 (TX7 1).1 (TX7 1).2.1 (TX7 1).2.2.1 ∈ uX7_lean := List.mem_cons_of_mem _ (wU_r4 _ (List.mem_of_getElem? (i := 14) rfl))
def f_X7_lean (p1 : Int32) (p2 : Int32) (p3 : Int32) (p4 : Int32) (S : aSt) : Option (Int32 × aSt) := (aB (f_X7_isTree p1 S) (fun r1_ S1 => (if r1_ = 0 then (some ((-1 : Int32), S1)) else (aB (f_X7_isWay p2 S1) (fun r2_ S2 => (if r2_ = 0 then (some ((-1 : Int32), S2)) else (aB (f_X7_in p3 (0 : Int32) (9 : Int32) S2) (fun r3_ S3 => (if r3_ = 0 then (some ((-2 : Int32), S3)) else (aB (f_X7_in p4 (0 : Int32) (9 : Int32) S3) (fun r4_ S4 => (if r4_ = 0 then (some ((-2 : Int32), S4)) else (if ((134 : Int32) + p1) < 0 ∨ 979 ≤ (((134 : Int32) + p1)).toNatClampNeg then none else (aLt (S4.1 (1) (((134 : Int32) + p1)).toNatClampNeg) (fun x5 => (if ((134 : Int32) + p1) < 0 ∨ 979 ≤ (((134 : Int32) + p1)).toNatClampNeg then none else (aLt (aUi S4 (1) (((134 : Int32) + p1)).toNatClampNeg p3) (fun S6 => (if ((140 : Int32) + p1) < 0 ∨ 979 ≤ (((140 : Int32) + p1)).toNatClampNeg then none else (aLt (aUi S6 (1) (((140 : Int32) + p1)).toNatClampNeg p2) (fun S7 => (if ((146 : Int32) + p1) < 0 ∨ 979 ≤ (((146 : Int32) + p1)).toNatClampNeg then none else (aLt (aUi S7 (1) (((146 : Int32) + p1)).toNatClampNeg p4) (fun S8 => (some (x5, S8))))))))))))))))))))))))))
set_option maxRecDepth 20000 in
set_option maxHeartbeats 4000000 in
theorem m_X7_lean {G : aG} (hM : aMo G) (p1 : Int32) (p2 : Int32) (p3 : Int32) (p4 : Int32) (S : aSt) : aMet G yX7_lean uX7_lean 4 mk_i (f_X7_lean p1 p2 p3 p4 S) [.ref (0), .int p1, .int p2, .int p3, .int p4] S := by
  refine x_met (cc := cX7_lean) (nL := 6) (ret := (some .int)) (L := [some (.ref (0)), some (.int p1), some (.int p2), some (.int p3), some (.int p4), none]) (by decide +kernel) rfl (And.intro rfl (And.intro rfl (And.intro rfl (And.intro rfl (And.intro rfl trivial))))) (Nat.le_of_ble_eq_true rfl) ?_
  unfold f_X7_lean
  refine x_aload_n dX7_lean_0 rfl rfl ?_
  refine x_iload_n dX7_lean_1 rfl rfl ?_
  refine x_b (fun r1_ S1 e1 => ?_)
  refine x_callVi (As := [.int p1]) dX7_lean_2 (aMet_of e1 (m_X7_isTree hM p1 S)) g_X7_lean_138 rfl hM.1 rfl dd_X7_isTree rfl rfl (Nat.le_of_ble_eq_true rfl) (Nat.le_of_ble_eq_true rfl) (Nat.le_of_ble_eq_true rfl) ?_
  refine x_if_eq (tgt := 15) dX7_lean_5 (by decide) ?_ ?_
  · refine x_iconst (-1 : Int32) dX7_lean_15 (by decide) ?_
    exact x_iret dX7_lean_16 rfl
  · refine x_iload_n dX7_lean_8 rfl rfl ?_
    refine x_b (fun r2_ S2 e2 => ?_)
    refine x_callSi (As := [.int p2]) dX7_lean_9 (aMet_of e2 (m_X7_isWay p2 S1)) g_X7_lean_142 rfl dd_X7_isWay rfl rfl (Nat.le_of_ble_eq_true rfl) (Nat.le_of_ble_eq_true rfl) (Nat.le_of_ble_eq_true rfl) ?_
    refine x_if_ne (tgt := 17) dX7_lean_12 (by decide) ?_ ?_
    · refine x_iload_n dX7_lean_17 rfl rfl ?_
      refine x_iconst (0 : Int32) dX7_lean_18 (by decide) ?_
      refine x_bipush (9 : Int32) dX7_lean_19 (by decide) ?_
      refine x_b (fun r3_ S3 e3 => ?_)
      refine x_callSi (As := [.int p3, .int (0 : Int32), .int (9 : Int32)]) dX7_lean_21 (aMet_of e3 (m_X7_in p3 (0 : Int32) (9 : Int32) S2)) g_X7_lean_41 rfl dd_X7_in rfl rfl (Nat.le_of_ble_eq_true rfl) (Nat.le_of_ble_eq_true rfl) (Nat.le_of_ble_eq_true rfl) ?_
      refine x_if_eq (tgt := 38) dX7_lean_24 (by decide) ?_ ?_
      · refine x_bipush (-2 : Int32) dX7_lean_38 (by decide) ?_
        exact x_iret dX7_lean_40 rfl
      · refine x_iload dX7_lean_27 rfl ?_
        refine x_iconst (0 : Int32) dX7_lean_29 (by decide) ?_
        refine x_bipush (9 : Int32) dX7_lean_30 (by decide) ?_
        refine x_b (fun r4_ S4 e4 => ?_)
        refine x_callSi (As := [.int p4, .int (0 : Int32), .int (9 : Int32)]) dX7_lean_32 (aMet_of e4 (m_X7_in p4 (0 : Int32) (9 : Int32) S3)) g_X7_lean_41 rfl dd_X7_in rfl rfl (Nat.le_of_ble_eq_true rfl) (Nat.le_of_ble_eq_true rfl) (Nat.le_of_ble_eq_true rfl) ?_
        refine x_if_ne (tgt := 41) dX7_lean_35 (by decide) ?_ ?_
        · refine x_aload_n dX7_lean_41 rfl rfl ?_
          refine x_getR (r := 1) (k := 0) (j := 1) dX7_lean_42 hM.1 rfl rfl (Nat.le_of_ble_eq_true rfl) (fun w h => List.mem_cons_of_mem _ (inlX7 w h)) w_X7_lean_f9 ?_
          refine x_sipush (134 : Int32) dX7_lean_45 (by decide) ?_
          refine x_iload_n dX7_lean_48 rfl rfl ?_
          refine x_iadd dX7_lean_49 ?_
          refine x_iald dX7_lean_50 hM.2.1 ?_
          refine x_lti (fun x5 => ?_)
          refine x_istore dX7_lean_51 (Nat.le_of_ble_eq_true rfl) rfl ?_
          refine x_aload_n dX7_lean_53 rfl rfl ?_
          refine x_getR (r := 1) (k := 0) (j := 1) dX7_lean_54 hM.1 rfl rfl (Nat.le_of_ble_eq_true rfl) (fun w h => List.mem_cons_of_mem _ (inlX7 w h)) w_X7_lean_f9 ?_
          refine x_sipush (134 : Int32) dX7_lean_57 (by decide) ?_
          refine x_iload_n dX7_lean_60 rfl rfl ?_
          refine x_iadd dX7_lean_61 ?_
          refine x_iload_n dX7_lean_62 rfl rfl ?_
          refine x_iast dX7_lean_63 hM.2.1 ?_
          refine x_ltS (fun S6 => ?_)
          refine x_aload_n dX7_lean_64 rfl rfl ?_
          refine x_getR (r := 1) (k := 0) (j := 1) dX7_lean_65 hM.1 rfl rfl (Nat.le_of_ble_eq_true rfl) (fun w h => List.mem_cons_of_mem _ (inlX7 w h)) w_X7_lean_f9 ?_
          refine x_sipush (140 : Int32) dX7_lean_68 (by decide) ?_
          refine x_iload_n dX7_lean_71 rfl rfl ?_
          refine x_iadd dX7_lean_72 ?_
          refine x_iload_n dX7_lean_73 rfl rfl ?_
          refine x_iast dX7_lean_74 hM.2.1 ?_
          refine x_ltS (fun S7 => ?_)
          refine x_aload_n dX7_lean_75 rfl rfl ?_
          refine x_getR (r := 1) (k := 0) (j := 1) dX7_lean_76 hM.1 rfl rfl (Nat.le_of_ble_eq_true rfl) (fun w h => List.mem_cons_of_mem _ (inlX7 w h)) w_X7_lean_f9 ?_
          refine x_sipush (146 : Int32) dX7_lean_79 (by decide) ?_
          refine x_iload_n dX7_lean_82 rfl rfl ?_
          refine x_iadd dX7_lean_83 ?_
          refine x_iload dX7_lean_84 rfl ?_
          refine x_iast dX7_lean_86 hM.2.1 ?_
          refine x_ltS (fun S8 => ?_)
          refine x_iload dX7_lean_87 rfl ?_
          exact x_iret dX7_lean_89 rfl
        · refine x_bipush (-2 : Int32) dX7_lean_38 (by decide) ?_
          exact x_iret dX7_lean_40 rfl
    · refine x_iconst (-1 : Int32) dX7_lean_15 (by decide) ?_
      exact x_iret dX7_lean_16 rfl
theorem g_X7_of_138 : GoodIn uX7_of (wsV yX7_of.cls 138 RX7 yX7_isTree uX7_isTree) := gU_V (wU_r19 _ (List.mem_of_getElem? (i := 1) rfl)) (wU_r19 _ (List.mem_of_getElem? (i := 2) rfl)) (wU_r19 _ (List.mem_of_getElem? (i := 3) rfl)) (wU_r1 _ (List.mem_of_getElem? (i := 5) rfl)) (wU_r19 _ (List.mem_of_getElem? (i := 4) rfl))
theorem g_X7_of_41 : GoodIn uX7_of (va_wsS yX7_of.cls 41 yX7_in uX7_in) := gU_S (wU_r6 _ (List.mem_of_getElem? (i := 4) rfl)) (wU_r6 _ (List.mem_of_getElem? (i := 5) rfl)) (wU_r1 _ (List.mem_of_getElem? (i := 5) rfl)) (wU_r6 _ (List.mem_of_getElem? (i := 6) rfl))
theorem w_X7_of_f9 : Cond.fieldLink yX7_of.cls 9 (TX7 1).1 (TX7 1).2.1 (TX7 1).2.2.1 ∈ uX7_of := List.mem_cons_of_mem _ (wU_r4 _ (List.mem_of_getElem? (i := 14) rfl))
def f_X7_of (p1 : Int32) (p2 : Int32) (S : aSt) : Option (Int32 × aSt) := (aB (f_X7_isTree p1 S) (fun r1_ S1 => (if r1_ = 0 then (some ((-1 : Int32), S1)) else (aB (f_X7_in p2 (0 : Int32) (7 : Int32) S1) (fun r2_ S2 => (if r2_ = 0 then (some ((-1 : Int32), S2)) else (if (((110 : Int32) + ((6 : Int32) * p2)) + p1) < 0 ∨ 979 ≤ ((((110 : Int32) + ((6 : Int32) * p2)) + p1)).toNatClampNeg then none else (some ((S2.1 (1) ((((110 : Int32) + ((6 : Int32) * p2)) + p1)).toNatClampNeg), S2)))))))))
set_option maxRecDepth 20000 in
set_option maxHeartbeats 4000000 in
theorem m_X7_of {G : aG} (hM : aMo G) (p1 : Int32) (p2 : Int32) (S : aSt) : aMet G yX7_of uX7_of 4 mk_i (f_X7_of p1 p2 S) [.ref (0), .int p1, .int p2] S := by
  refine x_met (cc := cX7_of) (nL := 3) (ret := (some .int)) (L := [some (.ref (0)), some (.int p1), some (.int p2)]) (by decide +kernel) rfl (And.intro rfl (And.intro rfl (And.intro rfl trivial))) (Nat.le_of_ble_eq_true rfl) ?_
  unfold f_X7_of
  refine x_aload_n dX7_of_0 rfl rfl ?_
  refine x_iload_n dX7_of_1 rfl rfl ?_
  refine x_b (fun r1_ S1 e1 => ?_)
  refine x_callVi (As := [.int p1]) dX7_of_2 (aMet_of e1 (m_X7_isTree hM p1 S)) g_X7_of_138 rfl hM.1 rfl dd_X7_isTree rfl rfl (Nat.le_of_ble_eq_true rfl) (Nat.le_of_ble_eq_true rfl) (Nat.le_of_ble_eq_true rfl) ?_
  refine x_if_eq (tgt := 35) dX7_of_5 (by decide) ?_ ?_
  · refine x_iconst (-1 : Int32) dX7_of_35 (by decide) ?_
    exact x_iret dX7_of_36 rfl
  · refine x_iload_n dX7_of_8 rfl rfl ?_
    refine x_iconst (0 : Int32) dX7_of_9 (by decide) ?_
    refine x_bipush (7 : Int32) dX7_of_10 (by decide) ?_
    refine x_b (fun r2_ S2 e2 => ?_)
    refine x_callSi (As := [.int p2, .int (0 : Int32), .int (7 : Int32)]) dX7_of_12 (aMet_of e2 (m_X7_in p2 (0 : Int32) (7 : Int32) S1)) g_X7_of_41 rfl dd_X7_in rfl rfl (Nat.le_of_ble_eq_true rfl) (Nat.le_of_ble_eq_true rfl) (Nat.le_of_ble_eq_true rfl) ?_
    refine x_if_eq (tgt := 35) dX7_of_15 (by decide) ?_ ?_
    · refine x_iconst (-1 : Int32) dX7_of_35 (by decide) ?_
      exact x_iret dX7_of_36 rfl
    · refine x_aload_n dX7_of_18 rfl rfl ?_
      refine x_getR (r := 1) (k := 0) (j := 1) dX7_of_19 hM.1 rfl rfl (Nat.le_of_ble_eq_true rfl) (fun w h => List.mem_cons_of_mem _ (inlX7 w h)) w_X7_of_f9 ?_
      refine x_bipush (110 : Int32) dX7_of_22 (by decide) ?_
      refine x_bipush (6 : Int32) dX7_of_24 (by decide) ?_
      refine x_iload_n dX7_of_26 rfl rfl ?_
      refine x_imul dX7_of_27 ?_
      refine x_iadd dX7_of_28 ?_
      refine x_iload_n dX7_of_29 rfl rfl ?_
      refine x_iadd dX7_of_30 ?_
      refine x_iald dX7_of_31 hM.2.1 ?_
      refine x_goto (tgt := 36) dX7_of_32 (by decide) ?_
      exact x_iret dX7_of_36 rfl
theorem g_X7_plan_138 : GoodIn uX7_plan (wsV yX7_plan.cls 138 RX7 yX7_isTree uX7_isTree) := gU_V (wU_r19 _ (List.mem_of_getElem? (i := 1) rfl)) (wU_r19 _ (List.mem_of_getElem? (i := 2) rfl)) (wU_r19 _ (List.mem_of_getElem? (i := 3) rfl)) (wU_r1 _ (List.mem_of_getElem? (i := 5) rfl)) (wU_r19 _ (List.mem_of_getElem? (i := 4) rfl))
theorem g_X7_plan_41 : GoodIn uX7_plan (va_wsS yX7_plan.cls 41 yX7_in uX7_in) := gU_S (wU_r6 _ (List.mem_of_getElem? (i := 4) rfl)) (wU_r6 _ (List.mem_of_getElem? (i := 5) rfl)) (wU_r1 _ (List.mem_of_getElem? (i := 5) rfl)) (wU_r6 _ (List.mem_of_getElem? (i := 6) rfl))
theorem w_X7_plan_f9 : Cond.fieldLink yX7_plan.cls 9 (TX7 1).1 (TX7 1).2.1 (TX7 1).2.2.1 ∈ uX7_plan := List.mem_cons_of_mem _ (wU_r4 _ (List.mem_of_getElem? (i := 14) rfl))
def f_X7_plan_37  (l1 : Int32) (l2 : Int32) (l3 : Int32) (s0 : Int32) (s1 : Int32) (s2 : Int32) (S : aSt) : Option (Int32 × aSt) := (aB (f_X7_in s2 s1 s0 S) (fun r3_ S3 => (if r3_ = 0 then (some ((-2 : Int32), S3)) else (if (((158 : Int32) + ((6 : Int32) * l1)) + l2) < 0 ∨ 979 ≤ ((((158 : Int32) + ((6 : Int32) * l1)) + l2)).toNatClampNeg then none else (aLt (S3.1 (1) ((((158 : Int32) + ((6 : Int32) * l1)) + l2)).toNatClampNeg) (fun x4 => (if (((158 : Int32) + ((6 : Int32) * l1)) + l2) < 0 ∨ 979 ≤ ((((158 : Int32) + ((6 : Int32) * l1)) + l2)).toNatClampNeg then none else (aLt (aUi S3 (1) ((((158 : Int32) + ((6 : Int32) * l1)) + l2)).toNatClampNeg l3) (fun S5 => (some (x4, S5)))))))))))
set_option maxRecDepth 20000 in
set_option maxHeartbeats 4000000 in
theorem v_X7_plan_37 {G : aG} (hM : aMo G) (l1 : Int32) (l2 : Int32) (l3 : Int32) (s0 : Int32) (s1 : Int32) (s2 : Int32) (S : aSt) : aX G yX7_plan cX7_plan 5 (some .int) uX7_plan 4 mk_i (f_X7_plan_37 l1 l2 l3 s0 s1 s2 S) 37 [some (.ref (0)), some (.int l1), some (.int l2), some (.int l3), none] [.int s0, .int s1, .int s2] S := by
  unfold f_X7_plan_37
  refine x_b (fun r3_ S3 e3 => ?_)
  refine x_callSi (As := [.int s2, .int s1, .int s0]) dX7_plan_37 (aMet_of e3 (m_X7_in s2 s1 s0 S)) g_X7_plan_41 rfl dd_X7_in rfl rfl (Nat.le_of_ble_eq_true rfl) (Nat.le_of_ble_eq_true rfl) (Nat.le_of_ble_eq_true rfl) ?_
  refine x_if_ne (tgt := 46) dX7_plan_40 (by decide) ?_ ?_
  · refine x_aload_n dX7_plan_46 rfl rfl ?_
    refine x_getR (r := 1) (k := 0) (j := 1) dX7_plan_47 hM.1 rfl rfl (Nat.le_of_ble_eq_true rfl) (fun w h => List.mem_cons_of_mem _ (inlX7 w h)) w_X7_plan_f9 ?_
    refine x_sipush (158 : Int32) dX7_plan_50 (by decide) ?_
    refine x_bipush (6 : Int32) dX7_plan_53 (by decide) ?_
    refine x_iload_n dX7_plan_55 rfl rfl ?_
    refine x_imul dX7_plan_56 ?_
    refine x_iadd dX7_plan_57 ?_
    refine x_iload_n dX7_plan_58 rfl rfl ?_
    refine x_iadd dX7_plan_59 ?_
    refine x_iald dX7_plan_60 hM.2.1 ?_
    refine x_lti (fun x4 => ?_)
    refine x_istore dX7_plan_61 (Nat.le_of_ble_eq_true rfl) rfl ?_
    refine x_aload_n dX7_plan_63 rfl rfl ?_
    refine x_getR (r := 1) (k := 0) (j := 1) dX7_plan_64 hM.1 rfl rfl (Nat.le_of_ble_eq_true rfl) (fun w h => List.mem_cons_of_mem _ (inlX7 w h)) w_X7_plan_f9 ?_
    refine x_sipush (158 : Int32) dX7_plan_67 (by decide) ?_
    refine x_bipush (6 : Int32) dX7_plan_70 (by decide) ?_
    refine x_iload_n dX7_plan_72 rfl rfl ?_
    refine x_imul dX7_plan_73 ?_
    refine x_iadd dX7_plan_74 ?_
    refine x_iload_n dX7_plan_75 rfl rfl ?_
    refine x_iadd dX7_plan_76 ?_
    refine x_iload_n dX7_plan_77 rfl rfl ?_
    refine x_iast dX7_plan_78 hM.2.1 ?_
    refine x_ltS (fun S5 => ?_)
    refine x_iload dX7_plan_79 rfl ?_
    exact x_iret dX7_plan_81 rfl
  · refine x_bipush (-2 : Int32) dX7_plan_43 (by decide) ?_
    exact x_iret dX7_plan_45 rfl
def f_X7_plan_30  (l1 : Int32) (l2 : Int32) (l3 : Int32) (s0 : Int32) (s1 : Int32) (S : aSt) : Option (Int32 × aSt) := (f_X7_plan_37 l1 l2 l3 (7 : Int32) s0 s1 S)
set_option maxRecDepth 20000 in
set_option maxHeartbeats 4000000 in
theorem v_X7_plan_30 {G : aG} (hM : aMo G) (l1 : Int32) (l2 : Int32) (l3 : Int32) (s0 : Int32) (s1 : Int32) (S : aSt) : aX G yX7_plan cX7_plan 5 (some .int) uX7_plan 4 mk_i (f_X7_plan_30 l1 l2 l3 s0 s1 S) 30 [some (.ref (0)), some (.int l1), some (.int l2), some (.int l3), none] [.int s0, .int s1] S := by
  unfold f_X7_plan_30
  refine x_bipush (7 : Int32) dX7_plan_30 (by decide) ?_
  refine x_goto (tgt := 37) dX7_plan_32 (by decide) ?_
  exact x_le (v_X7_plan_37 hM l1 l2 l3 (7 : Int32) s0 s1 S) (And.intro rfl (And.intro rfl (And.intro rfl (And.intro rfl trivial))))
def f_X7_plan (p1 : Int32) (p2 : Int32) (p3 : Int32) (S : aSt) : Option (Int32 × aSt) := (aB (f_X7_isTree p1 S) (fun r1_ S1 => (if r1_ = 0 then (some ((-1 : Int32), S1)) else (aB (f_X7_in p2 (0 : Int32) (5 : Int32) S1) (fun r2_ S2 => (if r2_ = 0 then (some ((-1 : Int32), S2)) else (if p2 = 0 then (f_X7_plan_30 p1 p2 p3 (0 : Int32) p3 S2) else (if p2 = (4 : Int32) then (f_X7_plan_30 p1 p2 p3 (0 : Int32) p3 S2) else (f_X7_plan_37 p1 p2 p3 (9 : Int32) (0 : Int32) p3 S2)))))))))
set_option maxRecDepth 20000 in
set_option maxHeartbeats 4000000 in
theorem m_X7_plan {G : aG} (hM : aMo G) (p1 : Int32) (p2 : Int32) (p3 : Int32) (S : aSt) : aMet G yX7_plan uX7_plan 4 mk_i (f_X7_plan p1 p2 p3 S) [.ref (0), .int p1, .int p2, .int p3] S := by
  refine x_met (cc := cX7_plan) (nL := 5) (ret := (some .int)) (L := [some (.ref (0)), some (.int p1), some (.int p2), some (.int p3), none]) (by decide +kernel) rfl (And.intro rfl (And.intro rfl (And.intro rfl (And.intro rfl trivial)))) (Nat.le_of_ble_eq_true rfl) ?_
  unfold f_X7_plan
  refine x_aload_n dX7_plan_0 rfl rfl ?_
  refine x_iload_n dX7_plan_1 rfl rfl ?_
  refine x_b (fun r1_ S1 e1 => ?_)
  refine x_callVi (As := [.int p1]) dX7_plan_2 (aMet_of e1 (m_X7_isTree hM p1 S)) g_X7_plan_138 rfl hM.1 rfl dd_X7_isTree rfl rfl (Nat.le_of_ble_eq_true rfl) (Nat.le_of_ble_eq_true rfl) (Nat.le_of_ble_eq_true rfl) ?_
  refine x_if_eq (tgt := 17) dX7_plan_5 (by decide) ?_ ?_
  · refine x_iconst (-1 : Int32) dX7_plan_17 (by decide) ?_
    exact x_iret dX7_plan_18 rfl
  · refine x_iload_n dX7_plan_8 rfl rfl ?_
    refine x_iconst (0 : Int32) dX7_plan_9 (by decide) ?_
    refine x_iconst (5 : Int32) dX7_plan_10 (by decide) ?_
    refine x_b (fun r2_ S2 e2 => ?_)
    refine x_callSi (As := [.int p2, .int (0 : Int32), .int (5 : Int32)]) dX7_plan_11 (aMet_of e2 (m_X7_in p2 (0 : Int32) (5 : Int32) S1)) g_X7_plan_41 rfl dd_X7_in rfl rfl (Nat.le_of_ble_eq_true rfl) (Nat.le_of_ble_eq_true rfl) (Nat.le_of_ble_eq_true rfl) ?_
    refine x_if_ne (tgt := 19) dX7_plan_14 (by decide) ?_ ?_
    · refine x_iload_n dX7_plan_19 rfl rfl ?_
      refine x_iconst (0 : Int32) dX7_plan_20 (by decide) ?_
      refine x_iload_n dX7_plan_21 rfl rfl ?_
      refine x_if_eq (tgt := 30) dX7_plan_22 (by decide) ?_ ?_
      · exact x_le (v_X7_plan_30 hM p1 p2 p3 (0 : Int32) p3 S2) (And.intro rfl (And.intro rfl (And.intro rfl (And.intro rfl trivial))))
      · refine x_iload_n dX7_plan_25 rfl rfl ?_
        refine x_iconst (4 : Int32) dX7_plan_26 (by decide) ?_
        refine x_icmp_ne (tgt := 35) dX7_plan_27 (by decide) ?_ ?_
        · refine x_bipush (9 : Int32) dX7_plan_35 (by decide) ?_
          exact x_le (v_X7_plan_37 hM p1 p2 p3 (9 : Int32) (0 : Int32) p3 S2) (And.intro rfl (And.intro rfl (And.intro rfl (And.intro rfl trivial))))
        · exact x_le (v_X7_plan_30 hM p1 p2 p3 (0 : Int32) p3 S2) (And.intro rfl (And.intro rfl (And.intro rfl (And.intro rfl trivial))))
    · refine x_iconst (-1 : Int32) dX7_plan_17 (by decide) ?_
      exact x_iret dX7_plan_18 rfl
def f_X7_along_24  (s0 : Int32) (s1 : Int32) (S : aSt) : Option (Int32 × aSt) := (some ((s1 - s0), S))
set_option maxRecDepth 20000 in
set_option maxHeartbeats 4000000 in
theorem v_X7_along_24 {G : aG} (s0 : Int32) (s1 : Int32) (S : aSt) : aX G yX7_along cX7_along 3 (some .int) uX7_along 2 mk_i (f_X7_along_24 s0 s1 S) 24 [none, none, none] [.int s0, .int s1] S := by
  unfold f_X7_along_24
  refine x_isub dX7_along_24 ?_
  exact x_iret dX7_along_25 rfl
def f_X7_along (p0 : Int32) (p1 : Int32) (S : aSt) : Option (Int32 × aSt) := (aLt (((p0 - p1) + (8 : Int32)) - ((p0 - p1) + (8 : Int32)) / (8 : Int32) * (8 : Int32)) (fun x1 => (if x1 ≤ (4 : Int32) then (f_X7_along_24 x1 (2 : Int32) S) else (f_X7_along_24 ((8 : Int32) - x1) (2 : Int32) S))))
set_option maxRecDepth 20000 in
set_option maxHeartbeats 4000000 in
theorem m_X7_along {G : aG} (p0 : Int32) (p1 : Int32) (S : aSt) : aMet G yX7_along uX7_along 2 mk_i (f_X7_along p0 p1 S) [.int p0, .int p1] S := by
  refine x_met (cc := cX7_along) (nL := 3) (ret := (some .int)) (L := [some (.int p0), some (.int p1), none]) (by decide +kernel) rfl (And.intro rfl (And.intro rfl trivial)) (Nat.le_of_ble_eq_true rfl) ?_
  unfold f_X7_along
  refine x_iload_n dX7_along_0 rfl rfl ?_
  refine x_iload_n dX7_along_1 rfl rfl ?_
  refine x_isub dX7_along_2 ?_
  refine x_bipush (8 : Int32) dX7_along_3 (by decide) ?_
  refine x_iadd dX7_along_5 ?_
  refine x_bipush (8 : Int32) dX7_along_6 (by decide) ?_
  refine x_iremc dX7_along_8 (by decide) ?_
  refine x_lti (fun x1 => ?_)
  refine x_istore_n dX7_along_9 rfl (Nat.le_of_ble_eq_true rfl) rfl ?_
  refine x_iconst (2 : Int32) dX7_along_10 (by decide) ?_
  refine x_iload_n dX7_along_11 rfl rfl ?_
  refine x_iconst (4 : Int32) dX7_along_12 (by decide) ?_
  refine x_icmp_le (tgt := 23) dX7_along_13 (by decide) ?_ ?_
  · refine x_iload_n dX7_along_23 rfl rfl ?_
    exact x_le (v_X7_along_24 x1 (2 : Int32) S) trivial
  · refine x_bipush (8 : Int32) dX7_along_16 (by decide) ?_
    refine x_iload_n dX7_along_18 rfl rfl ?_
    refine x_isub dX7_along_19 ?_
    refine x_goto (tgt := 24) dX7_along_20 (by decide) ?_
    exact x_le (v_X7_along_24 ((8 : Int32) - x1) (2 : Int32) S) trivial
def f_X7_side (p0 : Int32) (p1 : Int32) (S : aSt) : Option (Int32 × aSt) := (aLt (((p0 - p1) + (8 : Int32)) - ((p0 - p1) + (8 : Int32)) / (8 : Int32) * (8 : Int32)) (fun x1 => (if x1 = 0 then (some ((0 : Int32), S)) else (if x1 = (4 : Int32) then (some ((0 : Int32), S)) else (if (4 : Int32) ≤ x1 then (some ((-1 : Int32), S)) else (some ((1 : Int32), S)))))))
set_option maxRecDepth 20000 in
set_option maxHeartbeats 4000000 in
theorem m_X7_side {G : aG} (p0 : Int32) (p1 : Int32) (S : aSt) : aMet G yX7_side uX7_side 2 mk_i (f_X7_side p0 p1 S) [.int p0, .int p1] S := by
  refine x_met (cc := cX7_side) (nL := 3) (ret := (some .int)) (L := [some (.int p0), some (.int p1), none]) (by decide +kernel) rfl (And.intro rfl (And.intro rfl trivial)) (Nat.le_of_ble_eq_true rfl) ?_
  unfold f_X7_side
  refine x_iload_n dX7_side_0 rfl rfl ?_
  refine x_iload_n dX7_side_1 rfl rfl ?_
  refine x_isub dX7_side_2 ?_
  refine x_bipush (8 : Int32) dX7_side_3 (by decide) ?_
  refine x_iadd dX7_side_5 ?_
  refine x_bipush (8 : Int32) dX7_side_6 (by decide) ?_
  refine x_iremc dX7_side_8 (by decide) ?_
  refine x_lti (fun x1 => ?_)
  refine x_istore_n dX7_side_9 rfl (Nat.le_of_ble_eq_true rfl) rfl ?_
  refine x_iload_n dX7_side_10 rfl rfl ?_
  refine x_if_eq (tgt := 19) dX7_side_11 (by decide) ?_ ?_
  · refine x_iconst (0 : Int32) dX7_side_19 (by decide) ?_
    refine x_goto (tgt := 33) dX7_side_20 (by decide) ?_
    exact x_iret dX7_side_33 rfl
  · refine x_iload_n dX7_side_14 rfl rfl ?_
    refine x_iconst (4 : Int32) dX7_side_15 (by decide) ?_
    refine x_icmp_ne (tgt := 23) dX7_side_16 (by decide) ?_ ?_
    · refine x_iload_n dX7_side_23 rfl rfl ?_
      refine x_iconst (4 : Int32) dX7_side_24 (by decide) ?_
      refine x_icmp_ge (tgt := 32) dX7_side_25 (by decide) ?_ ?_
      · refine x_iconst (-1 : Int32) dX7_side_32 (by decide) ?_
        exact x_iret dX7_side_33 rfl
      · refine x_iconst (1 : Int32) dX7_side_28 (by decide) ?_
        refine x_goto (tgt := 33) dX7_side_29 (by decide) ?_
        exact x_iret dX7_side_33 rfl
    · refine x_iconst (0 : Int32) dX7_side_19 (by decide) ?_
      refine x_goto (tgt := 33) dX7_side_20 (by decide) ?_
      exact x_iret dX7_side_33 rfl
theorem w_X7_isOf_f9 : Cond.fieldLink yX7_isOf.cls 9 (TX7 1).1 (TX7 1).2.1 (TX7 1).2.2.1 ∈ uX7_isOf := List.mem_cons_of_mem _ (wU_r4 _ (List.mem_of_getElem? (i := 14) rfl))
def f_X7_isOf (p1 : Int32) (p2 : Int32) (p3 : Int32) (S : aSt) : Option (Int32 × aSt) := (if ((110 : Int32) + p1) < 0 ∨ 979 ≤ (((110 : Int32) + p1)).toNatClampNeg then none else (if (S.1 (1) (((110 : Int32) + p1)).toNatClampNeg) = p2 then (some ((1 : Int32), S)) else (if ((110 : Int32) + p1) < 0 ∨ 979 ≤ (((110 : Int32) + p1)).toNatClampNeg then none else (if (S.1 (1) (((110 : Int32) + p1)).toNatClampNeg) = p3 then (some ((1 : Int32), S)) else (some ((0 : Int32), S))))))
set_option maxRecDepth 20000 in
set_option maxHeartbeats 4000000 in
theorem m_X7_isOf {G : aG} (hM : aMo G) (p1 : Int32) (p2 : Int32) (p3 : Int32) (S : aSt) : aMet G yX7_isOf uX7_isOf 2 mk_i (f_X7_isOf p1 p2 p3 S) [.ref (0), .int p1, .int p2, .int p3] S := by
  refine x_met (cc := cX7_isOf) (nL := 4) (ret := (some .boolean)) (L := [some (.ref (0)), some (.int p1), some (.int p2), some (.int p3)]) (by decide +kernel) rfl (And.intro rfl (And.intro rfl (And.intro rfl (And.intro rfl trivial)))) (Nat.le_of_ble_eq_true rfl) ?_
  unfold f_X7_isOf
  refine x_aload_n dX7_isOf_0 rfl rfl ?_
  refine x_getR (r := 1) (k := 0) (j := 1) dX7_isOf_1 hM.1 rfl rfl (Nat.le_of_ble_eq_true rfl) (fun w h => List.mem_cons_of_mem _ (inlX7 w h)) w_X7_isOf_f9 ?_
  refine x_bipush (110 : Int32) dX7_isOf_4 (by decide) ?_
  refine x_iload_n dX7_isOf_6 rfl rfl ?_
  refine x_iadd dX7_isOf_7 ?_
  refine x_iald dX7_isOf_8 hM.2.1 ?_
  refine x_iload_n dX7_isOf_9 rfl rfl ?_
  refine x_icmp_eq (tgt := 26) dX7_isOf_10 (by decide) ?_ ?_
  · refine x_iconst (1 : Int32) dX7_isOf_26 (by decide) ?_
    refine x_goto (tgt := 31) dX7_isOf_27 (by decide) ?_
    exact x_zret dX7_isOf_31 rfl rfl
  · refine x_aload_n dX7_isOf_13 rfl rfl ?_
    refine x_getR (r := 1) (k := 0) (j := 1) dX7_isOf_14 hM.1 rfl rfl (Nat.le_of_ble_eq_true rfl) (fun w h => List.mem_cons_of_mem _ (inlX7 w h)) w_X7_isOf_f9 ?_
    refine x_bipush (110 : Int32) dX7_isOf_17 (by decide) ?_
    refine x_iload_n dX7_isOf_19 rfl rfl ?_
    refine x_iadd dX7_isOf_20 ?_
    refine x_iald dX7_isOf_21 hM.2.1 ?_
    refine x_iload_n dX7_isOf_22 rfl rfl ?_
    refine x_icmp_ne (tgt := 30) dX7_isOf_23 (by decide) ?_ ?_
    · refine x_iconst (0 : Int32) dX7_isOf_30 (by decide) ?_
      exact x_zret dX7_isOf_31 rfl rfl
    · refine x_iconst (1 : Int32) dX7_isOf_26 (by decide) ?_
      refine x_goto (tgt := 31) dX7_isOf_27 (by decide) ?_
      exact x_zret dX7_isOf_31 rfl rfl
theorem dd_X7_along : yX7_along.cls ≠ "java/lang/invoke/MethodHandle" ∧ yX7_along.cls ≠ "java/lang/invoke/VarHandle" ∧ (parseMethodDescriptor yX7_along.desc).map (fun d => d.parameters.length) = some 2 := by decide +kernel
theorem dd_X7_told : yX7_told.cls = RX7 ∧ yX7_told.cls ≠ "java/lang/invoke/MethodHandle" ∧ yX7_told.cls ≠ "java/lang/invoke/VarHandle" ∧ (parseMethodDescriptor yX7_told.desc).map (fun d => d.parameters.length) = some 1 := by decide +kernel
theorem dd_X7_side : yX7_side.cls ≠ "java/lang/invoke/MethodHandle" ∧ yX7_side.cls ≠ "java/lang/invoke/VarHandle" ∧ (parseMethodDescriptor yX7_side.desc).map (fun d => d.parameters.length) = some 2 := by decide +kernel
theorem dd_X7_looks : yX7_looks.cls = RX7 ∧ yX7_looks.cls ≠ "java/lang/invoke/MethodHandle" ∧ yX7_looks.cls ≠ "java/lang/invoke/VarHandle" ∧ (parseMethodDescriptor yX7_looks.desc).map (fun d => d.parameters.length) = some 2 := by decide +kernel
theorem dd_X7_isOf : yX7_isOf.cls = RX7 ∧ yX7_isOf.cls ≠ "java/lang/invoke/MethodHandle" ∧ yX7_isOf.cls ≠ "java/lang/invoke/VarHandle" ∧ (parseMethodDescriptor yX7_isOf.desc).map (fun d => d.parameters.length) = some 3 := by decide +kernel
theorem dd_X7_size : yX7_size.cls ≠ "java/lang/invoke/MethodHandle" ∧ yX7_size.cls ≠ "java/lang/invoke/VarHandle" ∧ (parseMethodDescriptor yX7_size.desc).map (fun d => d.parameters.length) = some 1 := by decide +kernel
theorem w_X7_goesIn_f9 : Cond.fieldLink yX7_goesIn.cls 9 (TX7 1).1 (TX7 1).2.1 (TX7 1).2.2.1 ∈ uX7_goesIn := List.mem_cons_of_mem _ (wU_r4 _ (List.mem_of_getElem? (i := 14) rfl))
theorem g_X7_goesIn_145 : GoodIn uX7_goesIn (va_wsS yX7_goesIn.cls 145 yX7_along uX7_along) := gU_S (wU_r26 _ (List.mem_of_getElem? (i := 0) rfl)) (wU_r26 _ (List.mem_of_getElem? (i := 1) rfl)) (wU_r1 _ (List.mem_of_getElem? (i := 5) rfl)) (wU_r26 _ (List.mem_of_getElem? (i := 2) rfl))
theorem g_X7_goesIn_148 : GoodIn uX7_goesIn (wsV yX7_goesIn.cls 148 RX7 yX7_told uX7_told) := gU_V (wU_r26 _ (List.mem_of_getElem? (i := 3) rfl)) (wU_r16 _ (List.mem_of_getElem? (i := 22) rfl)) (wU_r16 _ (List.mem_of_getElem? (i := 23) rfl)) (wU_r1 _ (List.mem_of_getElem? (i := 5) rfl)) (wU_r17 _ (List.mem_of_getElem? (i := 0) rfl))
theorem w_X7_goesIn_f152 : Cond.fieldLink yX7_goesIn.cls 152 (TX7 14).1 (TX7 14).2.1 (TX7 14).2.2.1 ∈ uX7_goesIn := List.mem_cons_of_mem _ (wU_r25 _ (List.mem_of_getElem? (i := 1) rfl))
theorem g_X7_goesIn_155 : GoodIn uX7_goesIn (va_wsS yX7_goesIn.cls 155 yX7_side uX7_side) := gU_S (wU_r26 _ (List.mem_of_getElem? (i := 4) rfl)) (wU_r26 _ (List.mem_of_getElem? (i := 5) rfl)) (wU_r1 _ (List.mem_of_getElem? (i := 5) rfl)) (wU_r26 _ (List.mem_of_getElem? (i := 6) rfl))
theorem w_X7_goesIn_f158 : Cond.fieldLink yX7_goesIn.cls 158 (TX7 15).1 (TX7 15).2.1 (TX7 15).2.2.1 ∈ uX7_goesIn := List.mem_cons_of_mem _ (wU_r25 _ (List.mem_of_getElem? (i := 2) rfl))
theorem g_X7_goesIn_161 : GoodIn uX7_goesIn (wsV yX7_goesIn.cls 161 RX7 yX7_looks uX7_looks) := gU_V (wU_r26 _ (List.mem_of_getElem? (i := 7) rfl)) (wU_r26 _ (List.mem_of_getElem? (i := 8) rfl)) (wU_r26 _ (List.mem_of_getElem? (i := 9) rfl)) (wU_r1 _ (List.mem_of_getElem? (i := 5) rfl)) (wU_r26 _ (List.mem_of_getElem? (i := 10) rfl))
theorem w_X7_goesIn_f135 : Cond.fieldLink yX7_goesIn.cls 135 (TX7 13).1 (TX7 13).2.1 (TX7 13).2.2.1 ∈ uX7_goesIn := List.mem_cons_of_mem _ (wU_r25 _ (List.mem_of_getElem? (i := 21) rfl))
theorem w_X7_goesIn_f129 : Cond.fieldLink yX7_goesIn.cls 129 (TX7 11).1 (TX7 11).2.1 (TX7 11).2.2.1 ∈ uX7_goesIn := List.mem_cons_of_mem _ (wU_r25 _ (List.mem_of_getElem? (i := 22) rfl))
theorem w_X7_goesIn_f165 : Cond.fieldLink yX7_goesIn.cls 165 (TX7 16).1 (TX7 16).2.1 (TX7 16).2.2.1 ∈ uX7_goesIn := List.mem_cons_of_mem _ (wU_r25 _ (List.mem_of_getElem? (i := 3) rfl))
theorem w_X7_goesIn_f132 : Cond.fieldLink yX7_goesIn.cls 132 (TX7 12).1 (TX7 12).2.1 (TX7 12).2.2.1 ∈ uX7_goesIn := List.mem_cons_of_mem _ (wU_r25 _ (List.mem_of_getElem? (i := 23) rfl))
theorem w_X7_goesIn_f168 : Cond.fieldLink yX7_goesIn.cls 168 (TX7 17).1 (TX7 17).2.1 (TX7 17).2.2.1 ∈ uX7_goesIn := List.mem_cons_of_mem _ (wU_r25 _ (List.mem_of_getElem? (i := 4) rfl))
theorem g_X7_goesIn_171 : GoodIn uX7_goesIn (wsV yX7_goesIn.cls 171 RX7 yX7_isOf uX7_isOf) := gU_V (wU_r26 _ (List.mem_of_getElem? (i := 11) rfl)) (wU_r26 _ (List.mem_of_getElem? (i := 12) rfl)) (wU_r26 _ (List.mem_of_getElem? (i := 13) rfl)) (wU_r1 _ (List.mem_of_getElem? (i := 5) rfl)) (wU_r26 _ (List.mem_of_getElem? (i := 14) rfl))
theorem g_X7_goesIn_174 : GoodIn uX7_goesIn (va_wsS yX7_goesIn.cls 174 yX7_size uX7_size) := gU_S (wU_r26 _ (List.mem_of_getElem? (i := 15) rfl)) (wU_r26 _ (List.mem_of_getElem? (i := 16) rfl)) (wU_r1 _ (List.mem_of_getElem? (i := 5) rfl)) (wU_r26 _ (List.mem_of_getElem? (i := 17) rfl))
theorem w_X7_goesIn_f177 : Cond.fieldLink yX7_goesIn.cls 177 (TX7 18).1 (TX7 18).2.1 (TX7 18).2.2.1 ∈ uX7_goesIn := List.mem_cons_of_mem _ (wU_r25 _ (List.mem_of_getElem? (i := 5) rfl))
theorem w_X7_goesIn_f180 : Cond.fieldLink yX7_goesIn.cls 180 (TX7 19).1 (TX7 19).2.1 (TX7 19).2.2.1 ∈ uX7_goesIn := List.mem_cons_of_mem _ (wU_r25 _ (List.mem_of_getElem? (i := 6) rfl))
def f_X7_goesIn_577  (s0 : Int32) (S : aSt) : Option (Unit × aSt) := (aLt (aUi S (0) 19 s0) (fun S34 => (some ((), S34))))
set_option maxRecDepth 20000 in
set_option maxHeartbeats 4000000 in
theorem v_X7_goesIn_577 {G : aG} (hM : aMo G) (s0 : Int32) (S : aSt) : aX G yX7_goesIn cX7_goesIn 8 none uX7_goesIn 4 mk_v (f_X7_goesIn_577 s0 S) 577 [none, none, none, none, none, none, none, none] [.int s0, .ref (0)] S := by
  unfold f_X7_goesIn_577
  refine x_putI (k := 0) (j := 19) dX7_goesIn_577 hM.1 rfl rfl (Nat.le_of_ble_eq_true rfl) (fun w h => List.mem_cons_of_mem _ (inlX7 w h)) w_X7_goesIn_f180 tyX7 tyX7_ok nmX7 rfl (by decide +kernel) ?_
  refine x_ltS (fun S34 => ?_)
  exact x_vret dX7_goesIn_580 rfl
def f_X7_goesIn_573  (s0 : Int32) (s1 : Int32) (S : aSt) : Option (Unit × aSt) := (f_X7_goesIn_577 ((s1 + s0) - (s1 + s0) / (8 : Int32) * (8 : Int32)) S)
set_option maxRecDepth 20000 in
set_option maxHeartbeats 4000000 in
theorem v_X7_goesIn_573 {G : aG} (hM : aMo G) (s0 : Int32) (s1 : Int32) (S : aSt) : aX G yX7_goesIn cX7_goesIn 8 none uX7_goesIn 4 mk_v (f_X7_goesIn_573 s0 s1 S) 573 [none, none, none, none, none, none, none, none] [.int s0, .int s1, .ref (0)] S := by
  unfold f_X7_goesIn_573
  refine x_iadd dX7_goesIn_573 ?_
  refine x_bipush (8 : Int32) dX7_goesIn_574 (by decide) ?_
  refine x_iremc dX7_goesIn_576 (by decide) ?_
  exact x_le (v_X7_goesIn_577 hM ((s1 + s0) - (s1 + s0) / (8 : Int32) * (8 : Int32)) S) trivial
def f_X7_goesIn_538  (l4 : Int32) (s0 : Int32) (S : aSt) : Option (Unit × aSt) := (if (S.1 (0) 18) = (2 : Int32) then (f_X7_goesIn_577 (-5 : Int32) S) else (if (S.1 (0) 15) ≤ 0 then (f_X7_goesIn_573 ((8 : Int32) - s0) l4 S) else (f_X7_goesIn_573 s0 l4 S)))
set_option maxRecDepth 20000 in
set_option maxHeartbeats 4000000 in
theorem v_X7_goesIn_538 {G : aG} (hM : aMo G) (l4 : Int32) (s0 : Int32) (S : aSt) : aX G yX7_goesIn cX7_goesIn 8 none uX7_goesIn 4 mk_v (f_X7_goesIn_538 l4 s0 S) 538 [some (.ref (0)), none, none, none, some (.int l4), none, none, none] [.int s0] S := by
  unfold f_X7_goesIn_538
  refine x_istore dX7_goesIn_538 (Nat.le_of_ble_eq_true rfl) rfl ?_
  refine x_aload_n dX7_goesIn_540 rfl rfl ?_
  refine x_aload_n dX7_goesIn_541 rfl rfl ?_
  refine x_getI (k := 0) (j := 18) dX7_goesIn_542 hM.1 rfl rfl (Nat.le_of_ble_eq_true rfl) (fun w h => List.mem_cons_of_mem _ (inlX7 w h)) w_X7_goesIn_f177 ?_
  refine x_iconst (2 : Int32) dX7_goesIn_545 (by decide) ?_
  refine x_icmp_ne (tgt := 554) dX7_goesIn_546 (by decide) ?_ ?_
  · refine x_iload dX7_goesIn_554 rfl ?_
    refine x_aload_n dX7_goesIn_556 rfl rfl ?_
    refine x_getI (k := 0) (j := 15) dX7_goesIn_557 hM.1 rfl rfl (Nat.le_of_ble_eq_true rfl) (fun w h => List.mem_cons_of_mem _ (inlX7 w h)) w_X7_goesIn_f158 ?_
    refine x_if_le (tgt := 568) dX7_goesIn_560 (by decide) ?_ ?_
    · refine x_bipush (8 : Int32) dX7_goesIn_568 (by decide) ?_
      refine x_iload dX7_goesIn_570 rfl ?_
      refine x_isub dX7_goesIn_572 ?_
      exact x_le (v_X7_goesIn_573 hM ((8 : Int32) - s0) l4 S) trivial
    · refine x_iload dX7_goesIn_563 rfl ?_
      refine x_goto (tgt := 573) dX7_goesIn_565 (by decide) ?_
      exact x_le (v_X7_goesIn_573 hM s0 l4 S) trivial
  · refine x_bipush (-5 : Int32) dX7_goesIn_549 (by decide) ?_
    refine x_goto (tgt := 577) dX7_goesIn_551 (by decide) ?_
    exact x_le (v_X7_goesIn_577 hM (-5 : Int32) S) trivial
def f_X7_goesIn_510  (l4 : Int32) (s0 : Int32) (S : aSt) : Option (Unit × aSt) := (aLt (aUi S (0) 18 s0) (fun S33 => (if (S33.1 (0) 18) = (1 : Int32) then (f_X7_goesIn_538 l4 (1 : Int32) S33) else (if (S33.1 (0) 18) = (3 : Int32) then (f_X7_goesIn_538 l4 (2 : Int32) S33) else (f_X7_goesIn_538 l4 (0 : Int32) S33)))))
set_option maxRecDepth 20000 in
set_option maxHeartbeats 4000000 in
theorem v_X7_goesIn_510 {G : aG} (hM : aMo G) (l4 : Int32) (s0 : Int32) (S : aSt) : aX G yX7_goesIn cX7_goesIn 8 none uX7_goesIn 4 mk_v (f_X7_goesIn_510 l4 s0 S) 510 [some (.ref (0)), none, none, none, some (.int l4), none, none, none] [.int s0, .ref (0)] S := by
  unfold f_X7_goesIn_510
  refine x_putI (k := 0) (j := 18) dX7_goesIn_510 hM.1 rfl rfl (Nat.le_of_ble_eq_true rfl) (fun w h => List.mem_cons_of_mem _ (inlX7 w h)) w_X7_goesIn_f177 tyX7 tyX7_ok nmX7 rfl (by decide +kernel) ?_
  refine x_ltS (fun S33 => ?_)
  refine x_aload_n dX7_goesIn_513 rfl rfl ?_
  refine x_getI (k := 0) (j := 18) dX7_goesIn_514 hM.1 rfl rfl (Nat.le_of_ble_eq_true rfl) (fun w h => List.mem_cons_of_mem _ (inlX7 w h)) w_X7_goesIn_f177 ?_
  refine x_iconst (1 : Int32) dX7_goesIn_517 (by decide) ?_
  refine x_icmp_ne (tgt := 525) dX7_goesIn_518 (by decide) ?_ ?_
  · refine x_aload_n dX7_goesIn_525 rfl rfl ?_
    refine x_getI (k := 0) (j := 18) dX7_goesIn_526 hM.1 rfl rfl (Nat.le_of_ble_eq_true rfl) (fun w h => List.mem_cons_of_mem _ (inlX7 w h)) w_X7_goesIn_f177 ?_
    refine x_iconst (3 : Int32) dX7_goesIn_529 (by decide) ?_
    refine x_icmp_ne (tgt := 537) dX7_goesIn_530 (by decide) ?_ ?_
    · refine x_iconst (0 : Int32) dX7_goesIn_537 (by decide) ?_
      exact x_le (v_X7_goesIn_538 hM l4 (0 : Int32) S33) (And.intro rfl (And.intro rfl trivial))
    · refine x_iconst (2 : Int32) dX7_goesIn_533 (by decide) ?_
      refine x_goto (tgt := 538) dX7_goesIn_534 (by decide) ?_
      exact x_le (v_X7_goesIn_538 hM l4 (2 : Int32) S33) (And.intro rfl (And.intro rfl trivial))
  · refine x_iconst (1 : Int32) dX7_goesIn_521 (by decide) ?_
    refine x_goto (tgt := 538) dX7_goesIn_522 (by decide) ?_
    exact x_le (v_X7_goesIn_538 hM l4 (1 : Int32) S33) (And.intro rfl (And.intro rfl trivial))
def f_X7_goesIn_444  (l4 : Int32) (S : aSt) : Option (Unit × aSt) := (if 0 ≤ (S.1 (0) 14) then (if (S.1 (0) 14) ≤ (S.1 (0) 17) then (aB (f_X7_size (S.1 (0) 15) S) (fun r30_ S30 => (if r30_ ≤ (S30.1 (0) 16) then (aB (f_X7_size (S30.1 (0) 15) S30) (fun r31_ S31 => (if ((2 : Int32) * r31_) ≤ (S31.1 (0) 16) then (f_X7_goesIn_510 l4 (0 : Int32) S31) else (f_X7_goesIn_510 l4 (1 : Int32) S31)))) else (f_X7_goesIn_510 l4 (3 : Int32) S30)))) else (f_X7_goesIn_510 l4 (4 : Int32) S)) else (f_X7_goesIn_510 l4 (2 : Int32) S))
set_option maxRecDepth 20000 in
set_option maxHeartbeats 4000000 in
theorem v_X7_goesIn_444 {G : aG} (hM : aMo G) (l4 : Int32) (S : aSt) : aX G yX7_goesIn cX7_goesIn 8 none uX7_goesIn 4 mk_v (f_X7_goesIn_444 l4 S) 444 [some (.ref (0)), none, none, none, some (.int l4), none, none, none] [] S := by
  unfold f_X7_goesIn_444
  refine x_aload_n dX7_goesIn_444 rfl rfl ?_
  refine x_aload_n dX7_goesIn_445 rfl rfl ?_
  refine x_getI (k := 0) (j := 14) dX7_goesIn_446 hM.1 rfl rfl (Nat.le_of_ble_eq_true rfl) (fun w h => List.mem_cons_of_mem _ (inlX7 w h)) w_X7_goesIn_f152 ?_
  refine x_if_ge (tgt := 456) dX7_goesIn_449 (by decide) ?_ ?_
  · refine x_aload_n dX7_goesIn_456 rfl rfl ?_
    refine x_getI (k := 0) (j := 14) dX7_goesIn_457 hM.1 rfl rfl (Nat.le_of_ble_eq_true rfl) (fun w h => List.mem_cons_of_mem _ (inlX7 w h)) w_X7_goesIn_f152 ?_
    refine x_aload_n dX7_goesIn_460 rfl rfl ?_
    refine x_getI (k := 0) (j := 17) dX7_goesIn_461 hM.1 rfl rfl (Nat.le_of_ble_eq_true rfl) (fun w h => List.mem_cons_of_mem _ (inlX7 w h)) w_X7_goesIn_f168 ?_
    refine x_icmp_le (tgt := 471) dX7_goesIn_464 (by decide) ?_ ?_
    · refine x_aload_n dX7_goesIn_471 rfl rfl ?_
      refine x_getI (k := 0) (j := 15) dX7_goesIn_472 hM.1 rfl rfl (Nat.le_of_ble_eq_true rfl) (fun w h => List.mem_cons_of_mem _ (inlX7 w h)) w_X7_goesIn_f158 ?_
      refine x_b (fun r30_ S30 e30 => ?_)
      refine x_callSi (As := [.int (S.1 (0) 15)]) dX7_goesIn_475 (aMet_of e30 (m_X7_size (S.1 (0) 15) S)) g_X7_goesIn_174 rfl dd_X7_size rfl rfl (Nat.le_of_ble_eq_true rfl) (Nat.le_of_ble_eq_true rfl) (Nat.le_of_ble_eq_true rfl) ?_
      refine x_aload_n dX7_goesIn_478 rfl rfl ?_
      refine x_getI (k := 0) (j := 16) dX7_goesIn_479 hM.1 rfl rfl (Nat.le_of_ble_eq_true rfl) (fun w h => List.mem_cons_of_mem _ (inlX7 w h)) w_X7_goesIn_f165 ?_
      refine x_icmp_le (tgt := 489) dX7_goesIn_482 (by decide) ?_ ?_
      · refine x_iconst (2 : Int32) dX7_goesIn_489 (by decide) ?_
        refine x_aload_n dX7_goesIn_490 rfl rfl ?_
        refine x_getI (k := 0) (j := 15) dX7_goesIn_491 hM.1 rfl rfl (Nat.le_of_ble_eq_true rfl) (fun w h => List.mem_cons_of_mem _ (inlX7 w h)) w_X7_goesIn_f158 ?_
        refine x_b (fun r31_ S31 e31 => ?_)
        refine x_callSi (As := [.int (S30.1 (0) 15)]) dX7_goesIn_494 (aMet_of e31 (m_X7_size (S30.1 (0) 15) S30)) g_X7_goesIn_174 rfl dd_X7_size rfl rfl (Nat.le_of_ble_eq_true rfl) (Nat.le_of_ble_eq_true rfl) (Nat.le_of_ble_eq_true rfl) ?_
        refine x_imul dX7_goesIn_497 ?_
        refine x_aload_n dX7_goesIn_498 rfl rfl ?_
        refine x_getI (k := 0) (j := 16) dX7_goesIn_499 hM.1 rfl rfl (Nat.le_of_ble_eq_true rfl) (fun w h => List.mem_cons_of_mem _ (inlX7 w h)) w_X7_goesIn_f165 ?_
        refine x_icmp_le (tgt := 509) dX7_goesIn_502 (by decide) ?_ ?_
        · refine x_iconst (0 : Int32) dX7_goesIn_509 (by decide) ?_
          exact x_le (v_X7_goesIn_510 hM l4 (0 : Int32) S31) (And.intro rfl (And.intro rfl trivial))
        · refine x_iconst (1 : Int32) dX7_goesIn_505 (by decide) ?_
          refine x_goto (tgt := 510) dX7_goesIn_506 (by decide) ?_
          exact x_le (v_X7_goesIn_510 hM l4 (1 : Int32) S31) (And.intro rfl (And.intro rfl trivial))
      · refine x_iconst (3 : Int32) dX7_goesIn_485 (by decide) ?_
        refine x_goto (tgt := 510) dX7_goesIn_486 (by decide) ?_
        exact x_le (v_X7_goesIn_510 hM l4 (3 : Int32) S30) (And.intro rfl (And.intro rfl trivial))
    · refine x_iconst (4 : Int32) dX7_goesIn_467 (by decide) ?_
      refine x_goto (tgt := 510) dX7_goesIn_468 (by decide) ?_
      exact x_le (v_X7_goesIn_510 hM l4 (4 : Int32) S) (And.intro rfl (And.intro rfl trivial))
  · refine x_iconst (2 : Int32) dX7_goesIn_452 (by decide) ?_
    refine x_goto (tgt := 510) dX7_goesIn_453 (by decide) ?_
    exact x_le (v_X7_goesIn_510 hM l4 (2 : Int32) S) (And.intro rfl (And.intro rfl trivial))
def f_X7_goesIn_441  (l4 : Int32) (s0 : Int32) (S : aSt) : Option (Unit × aSt) := (aLt (aUi S (0) 17 s0) (fun S32 => (f_X7_goesIn_444 l4 S32)))
set_option maxRecDepth 20000 in
set_option maxHeartbeats 4000000 in
theorem v_X7_goesIn_441 {G : aG} (hM : aMo G) (l4 : Int32) (s0 : Int32) (S : aSt) : aX G yX7_goesIn cX7_goesIn 8 none uX7_goesIn 4 mk_v (f_X7_goesIn_441 l4 s0 S) 441 [some (.ref (0)), none, none, none, some (.int l4), none, none, none] [.int s0, .ref (0)] S := by
  unfold f_X7_goesIn_441
  refine x_putI (k := 0) (j := 17) dX7_goesIn_441 hM.1 rfl rfl (Nat.le_of_ble_eq_true rfl) (fun w h => List.mem_cons_of_mem _ (inlX7 w h)) w_X7_goesIn_f168 tyX7 tyX7_ok nmX7 rfl (by decide +kernel) ?_
  refine x_ltS (fun S32 => ?_)
  exact x_le (v_X7_goesIn_444 hM l4 S32) (And.intro rfl (And.intro rfl trivial))
def f_X7_goesIn_406  (l1 : Int32) (l4 : Int32) (l6 : Int32) (S : aSt) : Option (Unit × aSt) := (if ((110 : Int32) + l1) < 0 ∨ 979 ≤ (((110 : Int32) + l1)).toNatClampNeg then none else (if (S.1 (1) (((110 : Int32) + l1)).toNatClampNeg) = (6 : Int32) then (if l6 ≤ (S.1 (0) 17) then (f_X7_goesIn_441 l4 ((S.1 (0) 17) - l6) S) else (f_X7_goesIn_441 l4 (0 : Int32) S)) else (f_X7_goesIn_444 l4 S)))
set_option maxRecDepth 20000 in
set_option maxHeartbeats 4000000 in
theorem v_X7_goesIn_406 {G : aG} (hM : aMo G) (l1 : Int32) (l4 : Int32) (l6 : Int32) (S : aSt) : aX G yX7_goesIn cX7_goesIn 8 none uX7_goesIn 4 mk_v (f_X7_goesIn_406 l1 l4 l6 S) 406 [some (.ref (0)), some (.int l1), none, none, some (.int l4), none, some (.int l6), none] [] S := by
  unfold f_X7_goesIn_406
  refine x_aload_n dX7_goesIn_406 rfl rfl ?_
  refine x_getR (r := 1) (k := 0) (j := 1) dX7_goesIn_407 hM.1 rfl rfl (Nat.le_of_ble_eq_true rfl) (fun w h => List.mem_cons_of_mem _ (inlX7 w h)) w_X7_goesIn_f9 ?_
  refine x_bipush (110 : Int32) dX7_goesIn_410 (by decide) ?_
  refine x_iload_n dX7_goesIn_412 rfl rfl ?_
  refine x_iadd dX7_goesIn_413 ?_
  refine x_iald dX7_goesIn_414 hM.2.1 ?_
  refine x_bipush (6 : Int32) dX7_goesIn_415 (by decide) ?_
  refine x_icmp_ne (tgt := 444) dX7_goesIn_417 (by decide) ?_ ?_
  · exact x_le (v_X7_goesIn_444 hM l4 S) (And.intro rfl (And.intro rfl trivial))
  · refine x_aload_n dX7_goesIn_420 rfl rfl ?_
    refine x_aload_n dX7_goesIn_421 rfl rfl ?_
    refine x_getI (k := 0) (j := 17) dX7_goesIn_422 hM.1 rfl rfl (Nat.le_of_ble_eq_true rfl) (fun w h => List.mem_cons_of_mem _ (inlX7 w h)) w_X7_goesIn_f168 ?_
    refine x_iload dX7_goesIn_425 rfl ?_
    refine x_icmp_ge (tgt := 434) dX7_goesIn_427 (by decide) ?_ ?_
    · refine x_aload_n dX7_goesIn_434 rfl rfl ?_
      refine x_getI (k := 0) (j := 17) dX7_goesIn_435 hM.1 rfl rfl (Nat.le_of_ble_eq_true rfl) (fun w h => List.mem_cons_of_mem _ (inlX7 w h)) w_X7_goesIn_f168 ?_
      refine x_iload dX7_goesIn_438 rfl ?_
      refine x_isub dX7_goesIn_440 ?_
      exact x_le (v_X7_goesIn_441 hM l4 ((S.1 (0) 17) - l6) S) (And.intro rfl (And.intro rfl trivial))
    · refine x_iconst (0 : Int32) dX7_goesIn_430 (by decide) ?_
      refine x_goto (tgt := 441) dX7_goesIn_431 (by decide) ?_
      exact x_le (v_X7_goesIn_441 hM l4 (0 : Int32) S) (And.intro rfl (And.intro rfl trivial))
def f_X7_goesIn_403  (l1 : Int32) (l4 : Int32) (l6 : Int32) (s0 : Int32) (S : aSt) : Option (Unit × aSt) := (aLt (aUi S (0) 16 s0) (fun S29 => (f_X7_goesIn_406 l1 l4 l6 S29)))
set_option maxRecDepth 20000 in
set_option maxHeartbeats 4000000 in
theorem v_X7_goesIn_403 {G : aG} (hM : aMo G) (l1 : Int32) (l4 : Int32) (l6 : Int32) (s0 : Int32) (S : aSt) : aX G yX7_goesIn cX7_goesIn 8 none uX7_goesIn 4 mk_v (f_X7_goesIn_403 l1 l4 l6 s0 S) 403 [some (.ref (0)), some (.int l1), none, none, some (.int l4), none, some (.int l6), none] [.int s0, .ref (0)] S := by
  unfold f_X7_goesIn_403
  refine x_putI (k := 0) (j := 16) dX7_goesIn_403 hM.1 rfl rfl (Nat.le_of_ble_eq_true rfl) (fun w h => List.mem_cons_of_mem _ (inlX7 w h)) w_X7_goesIn_f165 tyX7 tyX7_ok nmX7 rfl (by decide +kernel) ?_
  refine x_ltS (fun S29 => ?_)
  exact x_le (v_X7_goesIn_406 hM l1 l4 l6 S29) (And.intro rfl (And.intro rfl (And.intro rfl (And.intro rfl trivial))))
def f_X7_goesIn_369  (l1 : Int32) (l4 : Int32) (l6 : Int32) (S : aSt) : Option (Unit × aSt) := (if ((110 : Int32) + l1) < 0 ∨ 979 ≤ (((110 : Int32) + l1)).toNatClampNeg then none else (if (S.1 (1) (((110 : Int32) + l1)).toNatClampNeg) = (5 : Int32) then (if l6 ≤ (S.1 (0) 16) then (f_X7_goesIn_403 l1 l4 l6 ((S.1 (0) 16) - l6) S) else (f_X7_goesIn_403 l1 l4 l6 (0 : Int32) S)) else (f_X7_goesIn_406 l1 l4 l6 S)))
set_option maxRecDepth 20000 in
set_option maxHeartbeats 4000000 in
theorem v_X7_goesIn_369 {G : aG} (hM : aMo G) (l1 : Int32) (l4 : Int32) (l6 : Int32) (S : aSt) : aX G yX7_goesIn cX7_goesIn 8 none uX7_goesIn 4 mk_v (f_X7_goesIn_369 l1 l4 l6 S) 369 [some (.ref (0)), some (.int l1), none, none, some (.int l4), none, some (.int l6), none] [] S := by
  unfold f_X7_goesIn_369
  refine x_aload_n dX7_goesIn_369 rfl rfl ?_
  refine x_getR (r := 1) (k := 0) (j := 1) dX7_goesIn_370 hM.1 rfl rfl (Nat.le_of_ble_eq_true rfl) (fun w h => List.mem_cons_of_mem _ (inlX7 w h)) w_X7_goesIn_f9 ?_
  refine x_bipush (110 : Int32) dX7_goesIn_373 (by decide) ?_
  refine x_iload_n dX7_goesIn_375 rfl rfl ?_
  refine x_iadd dX7_goesIn_376 ?_
  refine x_iald dX7_goesIn_377 hM.2.1 ?_
  refine x_iconst (5 : Int32) dX7_goesIn_378 (by decide) ?_
  refine x_icmp_ne (tgt := 406) dX7_goesIn_379 (by decide) ?_ ?_
  · exact x_le (v_X7_goesIn_406 hM l1 l4 l6 S) (And.intro rfl (And.intro rfl (And.intro rfl (And.intro rfl trivial))))
  · refine x_aload_n dX7_goesIn_382 rfl rfl ?_
    refine x_aload_n dX7_goesIn_383 rfl rfl ?_
    refine x_getI (k := 0) (j := 16) dX7_goesIn_384 hM.1 rfl rfl (Nat.le_of_ble_eq_true rfl) (fun w h => List.mem_cons_of_mem _ (inlX7 w h)) w_X7_goesIn_f165 ?_
    refine x_iload dX7_goesIn_387 rfl ?_
    refine x_icmp_ge (tgt := 396) dX7_goesIn_389 (by decide) ?_ ?_
    · refine x_aload_n dX7_goesIn_396 rfl rfl ?_
      refine x_getI (k := 0) (j := 16) dX7_goesIn_397 hM.1 rfl rfl (Nat.le_of_ble_eq_true rfl) (fun w h => List.mem_cons_of_mem _ (inlX7 w h)) w_X7_goesIn_f165 ?_
      refine x_iload dX7_goesIn_400 rfl ?_
      refine x_isub dX7_goesIn_402 ?_
      exact x_le (v_X7_goesIn_403 hM l1 l4 l6 ((S.1 (0) 16) - l6) S) (And.intro rfl (And.intro rfl (And.intro rfl (And.intro rfl trivial))))
    · refine x_iconst (0 : Int32) dX7_goesIn_392 (by decide) ?_
      refine x_goto (tgt := 403) dX7_goesIn_393 (by decide) ?_
      exact x_le (v_X7_goesIn_403 hM l1 l4 l6 (0 : Int32) S) (And.intro rfl (And.intro rfl (And.intro rfl (And.intro rfl trivial))))
def f_X7_goesIn_348  (l1 : Int32) (l4 : Int32) (l6 : Int32) (S : aSt) : Option (Unit × aSt) := (aB (f_X7_isOf l1 (2 : Int32) (5 : Int32) S) (fun r26_ S26 => (if r26_ = 0 then (f_X7_goesIn_369 l1 l4 l6 S26) else (aLt (aUi S26 (0) 15 ((S26.1 (0) 15) + l6)) (fun S27 => (f_X7_goesIn_369 l1 l4 l6 S27))))))
set_option maxRecDepth 20000 in
set_option maxHeartbeats 4000000 in
theorem v_X7_goesIn_348 {G : aG} (hM : aMo G) (l1 : Int32) (l4 : Int32) (l6 : Int32) (S : aSt) : aX G yX7_goesIn cX7_goesIn 8 none uX7_goesIn 4 mk_v (f_X7_goesIn_348 l1 l4 l6 S) 348 [some (.ref (0)), some (.int l1), none, none, some (.int l4), none, some (.int l6), none] [] S := by
  unfold f_X7_goesIn_348
  refine x_aload_n dX7_goesIn_348 rfl rfl ?_
  refine x_iload_n dX7_goesIn_349 rfl rfl ?_
  refine x_iconst (2 : Int32) dX7_goesIn_350 (by decide) ?_
  refine x_iconst (5 : Int32) dX7_goesIn_351 (by decide) ?_
  refine x_b (fun r26_ S26 e26 => ?_)
  refine x_callVi (As := [.int l1, .int (2 : Int32), .int (5 : Int32)]) dX7_goesIn_352 (aMet_of e26 (m_X7_isOf hM l1 (2 : Int32) (5 : Int32) S)) g_X7_goesIn_171 rfl hM.1 rfl dd_X7_isOf rfl rfl (Nat.le_of_ble_eq_true rfl) (Nat.le_of_ble_eq_true rfl) (Nat.le_of_ble_eq_true rfl) ?_
  refine x_if_eq (tgt := 369) dX7_goesIn_355 (by decide) ?_ ?_
  · exact x_le (v_X7_goesIn_369 hM l1 l4 l6 S26) (And.intro rfl (And.intro rfl (And.intro rfl (And.intro rfl trivial))))
  · refine x_aload_n dX7_goesIn_358 rfl rfl ?_
    refine x_dup dX7_goesIn_359 rfl ?_
    refine x_getI (k := 0) (j := 15) dX7_goesIn_360 hM.1 rfl rfl (Nat.le_of_ble_eq_true rfl) (fun w h => List.mem_cons_of_mem _ (inlX7 w h)) w_X7_goesIn_f158 ?_
    refine x_iload dX7_goesIn_363 rfl ?_
    refine x_iadd dX7_goesIn_365 ?_
    refine x_putI (k := 0) (j := 15) dX7_goesIn_366 hM.1 rfl rfl (Nat.le_of_ble_eq_true rfl) (fun w h => List.mem_cons_of_mem _ (inlX7 w h)) w_X7_goesIn_f158 tyX7 tyX7_ok nmX7 rfl (by decide +kernel) ?_
    refine x_ltS (fun S27 => ?_)
    exact x_le (v_X7_goesIn_369 hM l1 l4 l6 S27) (And.intro rfl (And.intro rfl (And.intro rfl (And.intro rfl trivial))))
def f_X7_goesIn_345  (l1 : Int32) (l4 : Int32) (l6 : Int32) (s0 : Int32) (S : aSt) : Option (Unit × aSt) := (aLt (aUi S (0) 15 s0) (fun S28 => (f_X7_goesIn_348 l1 l4 l6 S28)))
set_option maxRecDepth 20000 in
set_option maxHeartbeats 4000000 in
theorem v_X7_goesIn_345 {G : aG} (hM : aMo G) (l1 : Int32) (l4 : Int32) (l6 : Int32) (s0 : Int32) (S : aSt) : aX G yX7_goesIn cX7_goesIn 8 none uX7_goesIn 4 mk_v (f_X7_goesIn_345 l1 l4 l6 s0 S) 345 [some (.ref (0)), some (.int l1), none, none, some (.int l4), none, some (.int l6), none] [.int s0, .ref (0)] S := by
  unfold f_X7_goesIn_345
  refine x_putI (k := 0) (j := 15) dX7_goesIn_345 hM.1 rfl rfl (Nat.le_of_ble_eq_true rfl) (fun w h => List.mem_cons_of_mem _ (inlX7 w h)) w_X7_goesIn_f158 tyX7 tyX7_ok nmX7 rfl (by decide +kernel) ?_
  refine x_ltS (fun S28 => ?_)
  exact x_le (v_X7_goesIn_348 hM l1 l4 l6 S28) (And.intro rfl (And.intro rfl (And.intro rfl (And.intro rfl trivial))))
def f_X7_goesIn_314  (l1 : Int32) (l4 : Int32) (l6 : Int32) (S : aSt) : Option (Unit × aSt) := (aB (f_X7_isOf l1 (1 : Int32) (4 : Int32) S) (fun r24_ S24 => (if r24_ = 0 then (f_X7_goesIn_348 l1 l4 l6 S24) else (aB (f_X7_size (S24.1 (0) 15) S24) (fun r25_ S25 => (if l6 < r25_ then (f_X7_goesIn_345 l1 l4 l6 (S25.1 (0) 15) S25) else (f_X7_goesIn_345 l1 l4 l6 (0 : Int32) S25)))))))
set_option maxRecDepth 20000 in
set_option maxHeartbeats 4000000 in
theorem v_X7_goesIn_314 {G : aG} (hM : aMo G) (l1 : Int32) (l4 : Int32) (l6 : Int32) (S : aSt) : aX G yX7_goesIn cX7_goesIn 8 none uX7_goesIn 4 mk_v (f_X7_goesIn_314 l1 l4 l6 S) 314 [some (.ref (0)), some (.int l1), none, none, some (.int l4), none, some (.int l6), none] [] S := by
  unfold f_X7_goesIn_314
  refine x_aload_n dX7_goesIn_314 rfl rfl ?_
  refine x_iload_n dX7_goesIn_315 rfl rfl ?_
  refine x_iconst (1 : Int32) dX7_goesIn_316 (by decide) ?_
  refine x_iconst (4 : Int32) dX7_goesIn_317 (by decide) ?_
  refine x_b (fun r24_ S24 e24 => ?_)
  refine x_callVi (As := [.int l1, .int (1 : Int32), .int (4 : Int32)]) dX7_goesIn_318 (aMet_of e24 (m_X7_isOf hM l1 (1 : Int32) (4 : Int32) S)) g_X7_goesIn_171 rfl hM.1 rfl dd_X7_isOf rfl rfl (Nat.le_of_ble_eq_true rfl) (Nat.le_of_ble_eq_true rfl) (Nat.le_of_ble_eq_true rfl) ?_
  refine x_if_eq (tgt := 348) dX7_goesIn_321 (by decide) ?_ ?_
  · exact x_le (v_X7_goesIn_348 hM l1 l4 l6 S24) (And.intro rfl (And.intro rfl (And.intro rfl (And.intro rfl trivial))))
  · refine x_aload_n dX7_goesIn_324 rfl rfl ?_
    refine x_aload_n dX7_goesIn_325 rfl rfl ?_
    refine x_getI (k := 0) (j := 15) dX7_goesIn_326 hM.1 rfl rfl (Nat.le_of_ble_eq_true rfl) (fun w h => List.mem_cons_of_mem _ (inlX7 w h)) w_X7_goesIn_f158 ?_
    refine x_b (fun r25_ S25 e25 => ?_)
    refine x_callSi (As := [.int (S24.1 (0) 15)]) dX7_goesIn_329 (aMet_of e25 (m_X7_size (S24.1 (0) 15) S24)) g_X7_goesIn_174 rfl dd_X7_size rfl rfl (Nat.le_of_ble_eq_true rfl) (Nat.le_of_ble_eq_true rfl) (Nat.le_of_ble_eq_true rfl) ?_
    refine x_iload dX7_goesIn_332 rfl ?_
    refine x_icmp_gt (tgt := 341) dX7_goesIn_334 (by decide) ?_ ?_
    · refine x_aload_n dX7_goesIn_341 rfl rfl ?_
      refine x_getI (k := 0) (j := 15) dX7_goesIn_342 hM.1 rfl rfl (Nat.le_of_ble_eq_true rfl) (fun w h => List.mem_cons_of_mem _ (inlX7 w h)) w_X7_goesIn_f158 ?_
      exact x_le (v_X7_goesIn_345 hM l1 l4 l6 (S25.1 (0) 15) S25) (And.intro rfl (And.intro rfl (And.intro rfl (And.intro rfl trivial))))
    · refine x_iconst (0 : Int32) dX7_goesIn_337 (by decide) ?_
      refine x_goto (tgt := 345) dX7_goesIn_338 (by decide) ?_
      exact x_le (v_X7_goesIn_345 hM l1 l4 l6 (0 : Int32) S25) (And.intro rfl (And.intro rfl (And.intro rfl (And.intro rfl trivial))))
def f_X7_goesIn_249  (l1 : Int32) (l4 : Int32) (l5 : Int32) (l6 : Int32) (S : aSt) : Option (Unit × aSt) := (aB (f_X7_looks l1 l4 S) (fun r19_ S19 => (if ((146 : Int32) + l1) < 0 ∨ 979 ≤ (((146 : Int32) + l1)).toNatClampNeg then none else (aLt (aUi S19 (0) 16 (((S19.1 (0) 11) * l5) - (((S19.1 (1) (((146 : Int32) + l1)).toNatClampNeg) * l5) / (10 : Int32)))) (fun S20 => (aLt (aUi S20 (0) 17 (S20.1 (0) 12)) (fun S21 => (aB (f_X7_isOf l1 (3 : Int32) (6 : Int32) S21) (fun r22_ S22 => (if r22_ = 0 then (f_X7_goesIn_314 l1 l4 l6 S22) else (aLt (aUi S22 (0) 14 ((S22.1 (0) 14) - l6)) (fun S23 => (f_X7_goesIn_314 l1 l4 l6 S23)))))))))))))
set_option maxRecDepth 20000 in
set_option maxHeartbeats 4000000 in
theorem v_X7_goesIn_249 {G : aG} (hM : aMo G) (l1 : Int32) (l4 : Int32) (l5 : Int32) (l6 : Int32) (S : aSt) : aX G yX7_goesIn cX7_goesIn 8 none uX7_goesIn 4 mk_v (f_X7_goesIn_249 l1 l4 l5 l6 S) 249 [some (.ref (0)), some (.int l1), none, none, some (.int l4), some (.int l5), some (.int l6), none] [] S := by
  unfold f_X7_goesIn_249
  refine x_aload_n dX7_goesIn_249 rfl rfl ?_
  refine x_iload_n dX7_goesIn_250 rfl rfl ?_
  refine x_iload dX7_goesIn_251 rfl ?_
  refine x_b (fun r19_ S19 e19 => ?_)
  refine x_callVv (As := [.int l1, .int l4]) dX7_goesIn_253 (aMet_of e19 (m_X7_looks hM l1 l4 S)) g_X7_goesIn_161 rfl hM.1 rfl dd_X7_looks rfl rfl (Nat.le_of_ble_eq_true rfl) (Nat.le_of_ble_eq_true rfl) (Nat.le_of_ble_eq_true rfl) ?_
  refine x_aload_n dX7_goesIn_256 rfl rfl ?_
  refine x_aload_n dX7_goesIn_257 rfl rfl ?_
  refine x_getI (k := 0) (j := 11) dX7_goesIn_258 hM.1 rfl rfl (Nat.le_of_ble_eq_true rfl) (fun w h => List.mem_cons_of_mem _ (inlX7 w h)) w_X7_goesIn_f129 ?_
  refine x_iload dX7_goesIn_261 rfl ?_
  refine x_imul dX7_goesIn_263 ?_
  refine x_aload_n dX7_goesIn_264 rfl rfl ?_
  refine x_getR (r := 1) (k := 0) (j := 1) dX7_goesIn_265 hM.1 rfl rfl (Nat.le_of_ble_eq_true rfl) (fun w h => List.mem_cons_of_mem _ (inlX7 w h)) w_X7_goesIn_f9 ?_
  refine x_sipush (146 : Int32) dX7_goesIn_268 (by decide) ?_
  refine x_iload_n dX7_goesIn_271 rfl rfl ?_
  refine x_iadd dX7_goesIn_272 ?_
  refine x_iald dX7_goesIn_273 hM.2.1 ?_
  refine x_iload dX7_goesIn_274 rfl ?_
  refine x_imul dX7_goesIn_276 ?_
  refine x_bipush (10 : Int32) dX7_goesIn_277 (by decide) ?_
  refine x_idivc dX7_goesIn_279 (by decide) ?_
  refine x_isub dX7_goesIn_280 ?_
  refine x_putI (k := 0) (j := 16) dX7_goesIn_281 hM.1 rfl rfl (Nat.le_of_ble_eq_true rfl) (fun w h => List.mem_cons_of_mem _ (inlX7 w h)) w_X7_goesIn_f165 tyX7 tyX7_ok nmX7 rfl (by decide +kernel) ?_
  refine x_ltS (fun S20 => ?_)
  refine x_aload_n dX7_goesIn_284 rfl rfl ?_
  refine x_aload_n dX7_goesIn_285 rfl rfl ?_
  refine x_getI (k := 0) (j := 12) dX7_goesIn_286 hM.1 rfl rfl (Nat.le_of_ble_eq_true rfl) (fun w h => List.mem_cons_of_mem _ (inlX7 w h)) w_X7_goesIn_f132 ?_
  refine x_putI (k := 0) (j := 17) dX7_goesIn_289 hM.1 rfl rfl (Nat.le_of_ble_eq_true rfl) (fun w h => List.mem_cons_of_mem _ (inlX7 w h)) w_X7_goesIn_f168 tyX7 tyX7_ok nmX7 rfl (by decide +kernel) ?_
  refine x_ltS (fun S21 => ?_)
  refine x_aload_n dX7_goesIn_292 rfl rfl ?_
  refine x_iload_n dX7_goesIn_293 rfl rfl ?_
  refine x_iconst (3 : Int32) dX7_goesIn_294 (by decide) ?_
  refine x_bipush (6 : Int32) dX7_goesIn_295 (by decide) ?_
  refine x_b (fun r22_ S22 e22 => ?_)
  refine x_callVi (As := [.int l1, .int (3 : Int32), .int (6 : Int32)]) dX7_goesIn_297 (aMet_of e22 (m_X7_isOf hM l1 (3 : Int32) (6 : Int32) S21)) g_X7_goesIn_171 rfl hM.1 rfl dd_X7_isOf rfl rfl (Nat.le_of_ble_eq_true rfl) (Nat.le_of_ble_eq_true rfl) (Nat.le_of_ble_eq_true rfl) ?_
  refine x_if_eq (tgt := 314) dX7_goesIn_300 (by decide) ?_ ?_
  · exact x_le (v_X7_goesIn_314 hM l1 l4 l6 S22) (And.intro rfl (And.intro rfl (And.intro rfl (And.intro rfl trivial))))
  · refine x_aload_n dX7_goesIn_303 rfl rfl ?_
    refine x_dup dX7_goesIn_304 rfl ?_
    refine x_getI (k := 0) (j := 14) dX7_goesIn_305 hM.1 rfl rfl (Nat.le_of_ble_eq_true rfl) (fun w h => List.mem_cons_of_mem _ (inlX7 w h)) w_X7_goesIn_f152 ?_
    refine x_iload dX7_goesIn_308 rfl ?_
    refine x_isub dX7_goesIn_310 ?_
    refine x_putI (k := 0) (j := 14) dX7_goesIn_311 hM.1 rfl rfl (Nat.le_of_ble_eq_true rfl) (fun w h => List.mem_cons_of_mem _ (inlX7 w h)) w_X7_goesIn_f152 tyX7 tyX7_ok nmX7 rfl (by decide +kernel) ?_
    refine x_ltS (fun S23 => ?_)
    exact x_le (v_X7_goesIn_314 hM l1 l4 l6 S23) (And.intro rfl (And.intro rfl (And.intro rfl (And.intro rfl trivial))))
def f_X7_goesIn (p1 : Int32) (p2 : Int32) (S : aSt) : Option (Unit × aSt) := (aLt ((158 : Int32) + ((6 : Int32) * p1)) (fun x1 => (if x1 < 0 ∨ 979 ≤ (x1).toNatClampNeg then none else (aLt (S.1 (1) (x1).toNatClampNeg) (fun x2 => (if (x1 + (1 : Int32)) < 0 ∨ 979 ≤ ((x1 + (1 : Int32))).toNatClampNeg then none else (if (x1 + (2 : Int32)) < 0 ∨ 979 ≤ ((x1 + (2 : Int32))).toNatClampNeg then none else (aLt ((S.1 (1) ((x1 + (1 : Int32))).toNatClampNeg) + (S.1 (1) ((x1 + (2 : Int32))).toNatClampNeg)) (fun x3 => (if ((116 : Int32) + p1) < 0 ∨ 979 ≤ (((116 : Int32) + p1)).toNatClampNeg then none else (aLt (S.1 (1) (((116 : Int32) + p1)).toNatClampNeg) (fun x4 => (if ((134 : Int32) + p1) < 0 ∨ 979 ≤ (((134 : Int32) + p1)).toNatClampNeg then none else (if ((140 : Int32) + p1) < 0 ∨ 979 ≤ (((140 : Int32) + p1)).toNatClampNeg then none else (aB (f_X7_along (S.1 (1) (((140 : Int32) + p1)).toNatClampNeg) x2 S) (fun r5_ S5 => (aB (f_X7_told (0 : Int32) S5) (fun r6_ S6 => (if (x1 + (3 : Int32)) < 0 ∨ 979 ≤ ((x1 + (3 : Int32))).toNatClampNeg then none else (aB (f_X7_told (1 : Int32) S6) (fun r7_ S7 => (if (x1 + (5 : Int32)) < 0 ∨ 979 ≤ ((x1 + (5 : Int32))).toNatClampNeg then none else (if (x1 + (4 : Int32)) < 0 ∨ 979 ≤ ((x1 + (4 : Int32))).toNatClampNeg then none else (aB (f_X7_along (S7.1 (1) ((x1 + (4 : Int32))).toNatClampNeg) x2 S7) (fun r8_ S8 => (aLt (aUi S8 (0) 14 ((((S.1 (1) (((134 : Int32) + p1)).toNatClampNeg) * r5_) + (r6_ * (S6.1 (1) ((x1 + (3 : Int32))).toNatClampNeg))) + ((r7_ * (S7.1 (1) ((x1 + (5 : Int32))).toNatClampNeg)) * r8_))) (fun S9 => (if ((134 : Int32) + p1) < 0 ∨ 979 ≤ (((134 : Int32) + p1)).toNatClampNeg then none else (if ((140 : Int32) + p1) < 0 ∨ 979 ≤ (((140 : Int32) + p1)).toNatClampNeg then none else (aB (f_X7_side (S9.1 (1) (((140 : Int32) + p1)).toNatClampNeg) x2 S9) (fun r10_ S10 => (if (x1 + (2 : Int32)) < 0 ∨ 979 ≤ ((x1 + (2 : Int32))).toNatClampNeg then none else (if (x1 + (1 : Int32)) < 0 ∨ 979 ≤ ((x1 + (1 : Int32))).toNatClampNeg then none else (aB (f_X7_told (1 : Int32) S10) (fun r11_ S11 => (if (x1 + (5 : Int32)) < 0 ∨ 979 ≤ ((x1 + (5 : Int32))).toNatClampNeg then none else (if (x1 + (4 : Int32)) < 0 ∨ 979 ≤ ((x1 + (4 : Int32))).toNatClampNeg then none else (aB (f_X7_side (S11.1 (1) ((x1 + (4 : Int32))).toNatClampNeg) x2 S11) (fun r12_ S12 => (aLt (aUi S12 (0) 15 (((((S9.1 (1) (((134 : Int32) + p1)).toNatClampNeg) * r10_) + (S10.1 (1) ((x1 + (2 : Int32))).toNatClampNeg)) - (S10.1 (1) ((x1 + (1 : Int32))).toNatClampNeg)) + ((r11_ * (S11.1 (1) ((x1 + (5 : Int32))).toNatClampNeg)) * r12_))) (fun S13 => (if p2 = (-1 : Int32) then (f_X7_goesIn_249 p1 x2 x3 x4 S13) else (aB (f_X7_looks p1 p2 S13) (fun r14_ S14 => (aB (f_X7_along p2 x2 S14) (fun r15_ S15 => (aLt (aUi S15 (0) 14 ((S14.1 (0) 14) + ((S14.1 (0) 13) * r15_))) (fun S16 => (aB (f_X7_side p2 x2 S16) (fun r17_ S17 => (aLt (aUi S17 (0) 15 ((S16.1 (0) 15) + ((S16.1 (0) 13) * r17_))) (fun S18 => (f_X7_goesIn_249 p1 x2 x3 x4 S18)))))))))))))))))))))))))))))))))))))))))))))))))))))
set_option maxRecDepth 20000 in
set_option maxHeartbeats 4000000 in
theorem m_X7_goesIn {G : aG} (hM : aMo G) (p1 : Int32) (p2 : Int32) (S : aSt) : aMet G yX7_goesIn uX7_goesIn 4 mk_v (f_X7_goesIn p1 p2 S) [.ref (0), .int p1, .int p2] S := by
  refine x_met (cc := cX7_goesIn) (nL := 8) (ret := none) (L := [some (.ref (0)), some (.int p1), some (.int p2), none, none, none, none, none]) (by decide +kernel) rfl (And.intro rfl (And.intro rfl (And.intro rfl trivial))) (Nat.le_of_ble_eq_true rfl) ?_
  unfold f_X7_goesIn
  refine x_sipush (158 : Int32) dX7_goesIn_0 (by decide) ?_
  refine x_bipush (6 : Int32) dX7_goesIn_3 (by decide) ?_
  refine x_iload_n dX7_goesIn_5 rfl rfl ?_
  refine x_imul dX7_goesIn_6 ?_
  refine x_iadd dX7_goesIn_7 ?_
  refine x_lti (fun x1 => ?_)
  refine x_istore_n dX7_goesIn_8 rfl (Nat.le_of_ble_eq_true rfl) rfl ?_
  refine x_aload_n dX7_goesIn_9 rfl rfl ?_
  refine x_getR (r := 1) (k := 0) (j := 1) dX7_goesIn_10 hM.1 rfl rfl (Nat.le_of_ble_eq_true rfl) (fun w h => List.mem_cons_of_mem _ (inlX7 w h)) w_X7_goesIn_f9 ?_
  refine x_iload_n dX7_goesIn_13 rfl rfl ?_
  refine x_iald dX7_goesIn_14 hM.2.1 ?_
  refine x_lti (fun x2 => ?_)
  refine x_istore dX7_goesIn_15 (Nat.le_of_ble_eq_true rfl) rfl ?_
  refine x_aload_n dX7_goesIn_17 rfl rfl ?_
  refine x_getR (r := 1) (k := 0) (j := 1) dX7_goesIn_18 hM.1 rfl rfl (Nat.le_of_ble_eq_true rfl) (fun w h => List.mem_cons_of_mem _ (inlX7 w h)) w_X7_goesIn_f9 ?_
  refine x_iload_n dX7_goesIn_21 rfl rfl ?_
  refine x_iconst (1 : Int32) dX7_goesIn_22 (by decide) ?_
  refine x_iadd dX7_goesIn_23 ?_
  refine x_iald dX7_goesIn_24 hM.2.1 ?_
  refine x_aload_n dX7_goesIn_25 rfl rfl ?_
  refine x_getR (r := 1) (k := 0) (j := 1) dX7_goesIn_26 hM.1 rfl rfl (Nat.le_of_ble_eq_true rfl) (fun w h => List.mem_cons_of_mem _ (inlX7 w h)) w_X7_goesIn_f9 ?_
  refine x_iload_n dX7_goesIn_29 rfl rfl ?_
  refine x_iconst (2 : Int32) dX7_goesIn_30 (by decide) ?_
  refine x_iadd dX7_goesIn_31 ?_
  refine x_iald dX7_goesIn_32 hM.2.1 ?_
  refine x_iadd dX7_goesIn_33 ?_
  refine x_lti (fun x3 => ?_)
  refine x_istore dX7_goesIn_34 (Nat.le_of_ble_eq_true rfl) rfl ?_
  refine x_aload_n dX7_goesIn_36 rfl rfl ?_
  refine x_getR (r := 1) (k := 0) (j := 1) dX7_goesIn_37 hM.1 rfl rfl (Nat.le_of_ble_eq_true rfl) (fun w h => List.mem_cons_of_mem _ (inlX7 w h)) w_X7_goesIn_f9 ?_
  refine x_bipush (116 : Int32) dX7_goesIn_40 (by decide) ?_
  refine x_iload_n dX7_goesIn_42 rfl rfl ?_
  refine x_iadd dX7_goesIn_43 ?_
  refine x_iald dX7_goesIn_44 hM.2.1 ?_
  refine x_lti (fun x4 => ?_)
  refine x_istore dX7_goesIn_45 (Nat.le_of_ble_eq_true rfl) rfl ?_
  refine x_aload_n dX7_goesIn_47 rfl rfl ?_
  refine x_aload_n dX7_goesIn_48 rfl rfl ?_
  refine x_getR (r := 1) (k := 0) (j := 1) dX7_goesIn_49 hM.1 rfl rfl (Nat.le_of_ble_eq_true rfl) (fun w h => List.mem_cons_of_mem _ (inlX7 w h)) w_X7_goesIn_f9 ?_
  refine x_sipush (134 : Int32) dX7_goesIn_52 (by decide) ?_
  refine x_iload_n dX7_goesIn_55 rfl rfl ?_
  refine x_iadd dX7_goesIn_56 ?_
  refine x_iald dX7_goesIn_57 hM.2.1 ?_
  refine x_aload_n dX7_goesIn_58 rfl rfl ?_
  refine x_getR (r := 1) (k := 0) (j := 1) dX7_goesIn_59 hM.1 rfl rfl (Nat.le_of_ble_eq_true rfl) (fun w h => List.mem_cons_of_mem _ (inlX7 w h)) w_X7_goesIn_f9 ?_
  refine x_sipush (140 : Int32) dX7_goesIn_62 (by decide) ?_
  refine x_iload_n dX7_goesIn_65 rfl rfl ?_
  refine x_iadd dX7_goesIn_66 ?_
  refine x_iald dX7_goesIn_67 hM.2.1 ?_
  refine x_iload dX7_goesIn_68 rfl ?_
  refine x_b (fun r5_ S5 e5 => ?_)
  refine x_callSi (As := [.int (S.1 (1) (((140 : Int32) + p1)).toNatClampNeg), .int x2]) dX7_goesIn_70 (aMet_of e5 (m_X7_along (S.1 (1) (((140 : Int32) + p1)).toNatClampNeg) x2 S)) g_X7_goesIn_145 rfl dd_X7_along rfl rfl (Nat.le_of_ble_eq_true rfl) (Nat.le_of_ble_eq_true rfl) (Nat.le_of_ble_eq_true rfl) ?_
  refine x_imul dX7_goesIn_73 ?_
  refine x_aload_n dX7_goesIn_74 rfl rfl ?_
  refine x_iconst (0 : Int32) dX7_goesIn_75 (by decide) ?_
  refine x_b (fun r6_ S6 e6 => ?_)
  refine x_callVi (As := [.int (0 : Int32)]) dX7_goesIn_76 (aMet_of e6 (m_X7_told hM (0 : Int32) S5)) g_X7_goesIn_148 rfl hM.1 rfl dd_X7_told rfl rfl (Nat.le_of_ble_eq_true rfl) (Nat.le_of_ble_eq_true rfl) (Nat.le_of_ble_eq_true rfl) ?_
  refine x_aload_n dX7_goesIn_79 rfl rfl ?_
  refine x_getR (r := 1) (k := 0) (j := 1) dX7_goesIn_80 hM.1 rfl rfl (Nat.le_of_ble_eq_true rfl) (fun w h => List.mem_cons_of_mem _ (inlX7 w h)) w_X7_goesIn_f9 ?_
  refine x_iload_n dX7_goesIn_83 rfl rfl ?_
  refine x_iconst (3 : Int32) dX7_goesIn_84 (by decide) ?_
  refine x_iadd dX7_goesIn_85 ?_
  refine x_iald dX7_goesIn_86 hM.2.1 ?_
  refine x_imul dX7_goesIn_87 ?_
  refine x_iadd dX7_goesIn_88 ?_
  refine x_aload_n dX7_goesIn_89 rfl rfl ?_
  refine x_iconst (1 : Int32) dX7_goesIn_90 (by decide) ?_
  refine x_b (fun r7_ S7 e7 => ?_)
  refine x_callVi (As := [.int (1 : Int32)]) dX7_goesIn_91 (aMet_of e7 (m_X7_told hM (1 : Int32) S6)) g_X7_goesIn_148 rfl hM.1 rfl dd_X7_told rfl rfl (Nat.le_of_ble_eq_true rfl) (Nat.le_of_ble_eq_true rfl) (Nat.le_of_ble_eq_true rfl) ?_
  refine x_aload_n dX7_goesIn_94 rfl rfl ?_
  refine x_getR (r := 1) (k := 0) (j := 1) dX7_goesIn_95 hM.1 rfl rfl (Nat.le_of_ble_eq_true rfl) (fun w h => List.mem_cons_of_mem _ (inlX7 w h)) w_X7_goesIn_f9 ?_
  refine x_iload_n dX7_goesIn_98 rfl rfl ?_
  refine x_iconst (5 : Int32) dX7_goesIn_99 (by decide) ?_
  refine x_iadd dX7_goesIn_100 ?_
  refine x_iald dX7_goesIn_101 hM.2.1 ?_
  refine x_imul dX7_goesIn_102 ?_
  refine x_aload_n dX7_goesIn_103 rfl rfl ?_
  refine x_getR (r := 1) (k := 0) (j := 1) dX7_goesIn_104 hM.1 rfl rfl (Nat.le_of_ble_eq_true rfl) (fun w h => List.mem_cons_of_mem _ (inlX7 w h)) w_X7_goesIn_f9 ?_
  refine x_iload_n dX7_goesIn_107 rfl rfl ?_
  refine x_iconst (4 : Int32) dX7_goesIn_108 (by decide) ?_
  refine x_iadd dX7_goesIn_109 ?_
  refine x_iald dX7_goesIn_110 hM.2.1 ?_
  refine x_iload dX7_goesIn_111 rfl ?_
  refine x_b (fun r8_ S8 e8 => ?_)
  refine x_callSi (As := [.int (S7.1 (1) ((x1 + (4 : Int32))).toNatClampNeg), .int x2]) dX7_goesIn_113 (aMet_of e8 (m_X7_along (S7.1 (1) ((x1 + (4 : Int32))).toNatClampNeg) x2 S7)) g_X7_goesIn_145 rfl dd_X7_along rfl rfl (Nat.le_of_ble_eq_true rfl) (Nat.le_of_ble_eq_true rfl) (Nat.le_of_ble_eq_true rfl) ?_
  refine x_imul dX7_goesIn_116 ?_
  refine x_iadd dX7_goesIn_117 ?_
  refine x_putI (k := 0) (j := 14) dX7_goesIn_118 hM.1 rfl rfl (Nat.le_of_ble_eq_true rfl) (fun w h => List.mem_cons_of_mem _ (inlX7 w h)) w_X7_goesIn_f152 tyX7 tyX7_ok nmX7 rfl (by decide +kernel) ?_
  refine x_ltS (fun S9 => ?_)
  refine x_aload_n dX7_goesIn_121 rfl rfl ?_
  refine x_aload_n dX7_goesIn_122 rfl rfl ?_
  refine x_getR (r := 1) (k := 0) (j := 1) dX7_goesIn_123 hM.1 rfl rfl (Nat.le_of_ble_eq_true rfl) (fun w h => List.mem_cons_of_mem _ (inlX7 w h)) w_X7_goesIn_f9 ?_
  refine x_sipush (134 : Int32) dX7_goesIn_126 (by decide) ?_
  refine x_iload_n dX7_goesIn_129 rfl rfl ?_
  refine x_iadd dX7_goesIn_130 ?_
  refine x_iald dX7_goesIn_131 hM.2.1 ?_
  refine x_aload_n dX7_goesIn_132 rfl rfl ?_
  refine x_getR (r := 1) (k := 0) (j := 1) dX7_goesIn_133 hM.1 rfl rfl (Nat.le_of_ble_eq_true rfl) (fun w h => List.mem_cons_of_mem _ (inlX7 w h)) w_X7_goesIn_f9 ?_
  refine x_sipush (140 : Int32) dX7_goesIn_136 (by decide) ?_
  refine x_iload_n dX7_goesIn_139 rfl rfl ?_
  refine x_iadd dX7_goesIn_140 ?_
  refine x_iald dX7_goesIn_141 hM.2.1 ?_
  refine x_iload dX7_goesIn_142 rfl ?_
  refine x_b (fun r10_ S10 e10 => ?_)
  refine x_callSi (As := [.int (S9.1 (1) (((140 : Int32) + p1)).toNatClampNeg), .int x2]) dX7_goesIn_144 (aMet_of e10 (m_X7_side (S9.1 (1) (((140 : Int32) + p1)).toNatClampNeg) x2 S9)) g_X7_goesIn_155 rfl dd_X7_side rfl rfl (Nat.le_of_ble_eq_true rfl) (Nat.le_of_ble_eq_true rfl) (Nat.le_of_ble_eq_true rfl) ?_
  refine x_imul dX7_goesIn_147 ?_
  refine x_aload_n dX7_goesIn_148 rfl rfl ?_
  refine x_getR (r := 1) (k := 0) (j := 1) dX7_goesIn_149 hM.1 rfl rfl (Nat.le_of_ble_eq_true rfl) (fun w h => List.mem_cons_of_mem _ (inlX7 w h)) w_X7_goesIn_f9 ?_
  refine x_iload_n dX7_goesIn_152 rfl rfl ?_
  refine x_iconst (2 : Int32) dX7_goesIn_153 (by decide) ?_
  refine x_iadd dX7_goesIn_154 ?_
  refine x_iald dX7_goesIn_155 hM.2.1 ?_
  refine x_iadd dX7_goesIn_156 ?_
  refine x_aload_n dX7_goesIn_157 rfl rfl ?_
  refine x_getR (r := 1) (k := 0) (j := 1) dX7_goesIn_158 hM.1 rfl rfl (Nat.le_of_ble_eq_true rfl) (fun w h => List.mem_cons_of_mem _ (inlX7 w h)) w_X7_goesIn_f9 ?_
  refine x_iload_n dX7_goesIn_161 rfl rfl ?_
  refine x_iconst (1 : Int32) dX7_goesIn_162 (by decide) ?_
  refine x_iadd dX7_goesIn_163 ?_
  refine x_iald dX7_goesIn_164 hM.2.1 ?_
  refine x_isub dX7_goesIn_165 ?_
  refine x_aload_n dX7_goesIn_166 rfl rfl ?_
  refine x_iconst (1 : Int32) dX7_goesIn_167 (by decide) ?_
  refine x_b (fun r11_ S11 e11 => ?_)
  refine x_callVi (As := [.int (1 : Int32)]) dX7_goesIn_168 (aMet_of e11 (m_X7_told hM (1 : Int32) S10)) g_X7_goesIn_148 rfl hM.1 rfl dd_X7_told rfl rfl (Nat.le_of_ble_eq_true rfl) (Nat.le_of_ble_eq_true rfl) (Nat.le_of_ble_eq_true rfl) ?_
  refine x_aload_n dX7_goesIn_171 rfl rfl ?_
  refine x_getR (r := 1) (k := 0) (j := 1) dX7_goesIn_172 hM.1 rfl rfl (Nat.le_of_ble_eq_true rfl) (fun w h => List.mem_cons_of_mem _ (inlX7 w h)) w_X7_goesIn_f9 ?_
  refine x_iload_n dX7_goesIn_175 rfl rfl ?_
  refine x_iconst (5 : Int32) dX7_goesIn_176 (by decide) ?_
  refine x_iadd dX7_goesIn_177 ?_
  refine x_iald dX7_goesIn_178 hM.2.1 ?_
  refine x_imul dX7_goesIn_179 ?_
  refine x_aload_n dX7_goesIn_180 rfl rfl ?_
  refine x_getR (r := 1) (k := 0) (j := 1) dX7_goesIn_181 hM.1 rfl rfl (Nat.le_of_ble_eq_true rfl) (fun w h => List.mem_cons_of_mem _ (inlX7 w h)) w_X7_goesIn_f9 ?_
  refine x_iload_n dX7_goesIn_184 rfl rfl ?_
  refine x_iconst (4 : Int32) dX7_goesIn_185 (by decide) ?_
  refine x_iadd dX7_goesIn_186 ?_
  refine x_iald dX7_goesIn_187 hM.2.1 ?_
  refine x_iload dX7_goesIn_188 rfl ?_
  refine x_b (fun r12_ S12 e12 => ?_)
  refine x_callSi (As := [.int (S11.1 (1) ((x1 + (4 : Int32))).toNatClampNeg), .int x2]) dX7_goesIn_190 (aMet_of e12 (m_X7_side (S11.1 (1) ((x1 + (4 : Int32))).toNatClampNeg) x2 S11)) g_X7_goesIn_155 rfl dd_X7_side rfl rfl (Nat.le_of_ble_eq_true rfl) (Nat.le_of_ble_eq_true rfl) (Nat.le_of_ble_eq_true rfl) ?_
  refine x_imul dX7_goesIn_193 ?_
  refine x_iadd dX7_goesIn_194 ?_
  refine x_putI (k := 0) (j := 15) dX7_goesIn_195 hM.1 rfl rfl (Nat.le_of_ble_eq_true rfl) (fun w h => List.mem_cons_of_mem _ (inlX7 w h)) w_X7_goesIn_f158 tyX7 tyX7_ok nmX7 rfl (by decide +kernel) ?_
  refine x_ltS (fun S13 => ?_)
  refine x_iload_n dX7_goesIn_198 rfl rfl ?_
  refine x_iconst (-1 : Int32) dX7_goesIn_199 (by decide) ?_
  refine x_icmp_eq (tgt := 249) dX7_goesIn_200 (by decide) ?_ ?_
  · exact x_le (v_X7_goesIn_249 hM p1 x2 x3 x4 S13) (And.intro rfl (And.intro rfl (And.intro rfl (And.intro rfl (And.intro rfl trivial)))))
  · refine x_aload_n dX7_goesIn_203 rfl rfl ?_
    refine x_iload_n dX7_goesIn_204 rfl rfl ?_
    refine x_iload_n dX7_goesIn_205 rfl rfl ?_
    refine x_b (fun r14_ S14 e14 => ?_)
    refine x_callVv (As := [.int p1, .int p2]) dX7_goesIn_206 (aMet_of e14 (m_X7_looks hM p1 p2 S13)) g_X7_goesIn_161 rfl hM.1 rfl dd_X7_looks rfl rfl (Nat.le_of_ble_eq_true rfl) (Nat.le_of_ble_eq_true rfl) (Nat.le_of_ble_eq_true rfl) ?_
    refine x_aload_n dX7_goesIn_209 rfl rfl ?_
    refine x_dup dX7_goesIn_210 rfl ?_
    refine x_getI (k := 0) (j := 14) dX7_goesIn_211 hM.1 rfl rfl (Nat.le_of_ble_eq_true rfl) (fun w h => List.mem_cons_of_mem _ (inlX7 w h)) w_X7_goesIn_f152 ?_
    refine x_aload_n dX7_goesIn_214 rfl rfl ?_
    refine x_getI (k := 0) (j := 13) dX7_goesIn_215 hM.1 rfl rfl (Nat.le_of_ble_eq_true rfl) (fun w h => List.mem_cons_of_mem _ (inlX7 w h)) w_X7_goesIn_f135 ?_
    refine x_iload_n dX7_goesIn_218 rfl rfl ?_
    refine x_iload dX7_goesIn_219 rfl ?_
    refine x_b (fun r15_ S15 e15 => ?_)
    refine x_callSi (As := [.int p2, .int x2]) dX7_goesIn_221 (aMet_of e15 (m_X7_along p2 x2 S14)) g_X7_goesIn_145 rfl dd_X7_along rfl rfl (Nat.le_of_ble_eq_true rfl) (Nat.le_of_ble_eq_true rfl) (Nat.le_of_ble_eq_true rfl) ?_
    refine x_imul dX7_goesIn_224 ?_
    refine x_iadd dX7_goesIn_225 ?_
    refine x_putI (k := 0) (j := 14) dX7_goesIn_226 hM.1 rfl rfl (Nat.le_of_ble_eq_true rfl) (fun w h => List.mem_cons_of_mem _ (inlX7 w h)) w_X7_goesIn_f152 tyX7 tyX7_ok nmX7 rfl (by decide +kernel) ?_
    refine x_ltS (fun S16 => ?_)
    refine x_aload_n dX7_goesIn_229 rfl rfl ?_
    refine x_dup dX7_goesIn_230 rfl ?_
    refine x_getI (k := 0) (j := 15) dX7_goesIn_231 hM.1 rfl rfl (Nat.le_of_ble_eq_true rfl) (fun w h => List.mem_cons_of_mem _ (inlX7 w h)) w_X7_goesIn_f158 ?_
    refine x_aload_n dX7_goesIn_234 rfl rfl ?_
    refine x_getI (k := 0) (j := 13) dX7_goesIn_235 hM.1 rfl rfl (Nat.le_of_ble_eq_true rfl) (fun w h => List.mem_cons_of_mem _ (inlX7 w h)) w_X7_goesIn_f135 ?_
    refine x_iload_n dX7_goesIn_238 rfl rfl ?_
    refine x_iload dX7_goesIn_239 rfl ?_
    refine x_b (fun r17_ S17 e17 => ?_)
    refine x_callSi (As := [.int p2, .int x2]) dX7_goesIn_241 (aMet_of e17 (m_X7_side p2 x2 S16)) g_X7_goesIn_155 rfl dd_X7_side rfl rfl (Nat.le_of_ble_eq_true rfl) (Nat.le_of_ble_eq_true rfl) (Nat.le_of_ble_eq_true rfl) ?_
    refine x_imul dX7_goesIn_244 ?_
    refine x_iadd dX7_goesIn_245 ?_
    refine x_putI (k := 0) (j := 15) dX7_goesIn_246 hM.1 rfl rfl (Nat.le_of_ble_eq_true rfl) (fun w h => List.mem_cons_of_mem _ (inlX7 w h)) w_X7_goesIn_f158 tyX7 tyX7_ok nmX7 rfl (by decide +kernel) ?_
    refine x_ltS (fun S18 => ?_)
    exact x_le (v_X7_goesIn_249 hM p1 x2 x3 x4 S18) (And.intro rfl (And.intro rfl (And.intro rfl (And.intro rfl (And.intro rfl trivial)))))

/-! PURE PART: feed, book, trace, as; a TREE's beginning, a TREE copied -/
set_option maxRecDepth 20000 in
theorem nar_b0 : ∀ j : Fin 128, (nI j.1).toInt8.toInt32 = nI j.1 := by decide
theorem nar_b (j : Nat) (hj : j < 128) : vp_nar .byte (nI j).toInt8.toInt32 = nI j := by
  rw [vp_nar_byte, nar_b0 ⟨j, hj⟩, nar_b0 ⟨j, hj⟩]
set_option maxRecDepth 20000 in
theorem fit_b0 : ∀ j : Fin 128, fits .byte (.int (nI j.1)) = true := by decide
theorem fit_b (j : Nat) (hj : j < 128) : fits .byte (.int (nI j)) = true := fit_b0 ⟨j, hj⟩
theorem aFit_upd {f : Nat → Int32} {n k : Nat} {v : Int32} (h : aFit f n = true) (hv : fits .byte (.int v) = true) : aFit (upd f k v) n = true := by
  refine List.all_eq_true.mpr (fun i hi => ?_)
  rw [upd_rd]
  by_cases e : i = k
  · rw [if_pos e]; exact hv
  · rw [if_neg e]; exact aFit_at h i (List.mem_range.mp hi)
def upd0 (f : Nat → Nat) (k v : Nat) : Nat → Nat := fun j => if j = k then v else f j
theorem pu_feed_ok : pu_feed Rel := by
  intro K X M p hR
  obtain ⟨⟨P, hV, hX, hM⟩, -, -⟩ := id hR
  have hn := hV.1
  have hg := hV.2.2.2.1
  have hb := hV.2.2.1
  have x2 : X.1 1 2 = nI (pG P) := hX.2.2.2.1
  have m3 : M.1 1 3 = nI (pG P) := hM.2.2.2.1
  unfold f_X6_feed f_X7_feed
  rcases in_casesN p 127 (by omega) X M with ⟨a, ha, rfl, o1, i1⟩ | ⟨-, o1, i1⟩
  · by_cases h : pG P < 100
    · have h2 : ¬ pG P = 100 := by omega
      simp (disch := omega) only [li_0, li_1, li_2, li_3, li_4, li_5, li_6, li_7, li_8, li_9, li_10, li_20, li_32, li_36, li_40, li_48, li_57, li_63, li_64, li_80, li_100, li_110, li_116, li_122, li_127, li_128, li_134, li_140, li_146, li_152, li_158, li_194, li_200, li_205, li_210, li_274, li_279, li_512, li_800, li_979, li_1000, nI_add, pk_mul, nI_clamp, chkN, leq_I, lt_I, eq_I, neq1_I, neq5_I, lt0_I, le0_I, Nat.not_lt_zero, oNl, ↓aLt_eq, ↓aB_some, ↓aO_some, ↓aO_none, ↓reduceIte, Nat.reduceAdd, Nat.reduceMul, Nat.reduceEqDiff, Nat.reduceLT, Nat.reduceLeDiff, reduceCtorEq, not_true_eq_false, not_false_eq_true, and_true, true_and, and_false, false_and, or_false, false_or, or_true, true_or, o1, i1, x2, m3, h, h2, aUi_rd, oNe, nar_b a (by omega)]
      refine ⟨_, _, _, rfl, rfl, ?_⟩
      refine Rel_upd (P := ((pN P, pW P, pB P, pG P + 1, pO P), upd0 P.2.1 (pG P) a, P.2.2)) hR ⟨hV.1, hV.2.1, hV.2.2.1, h, hV.2.2.2.2.1, fun i hi => ?_, hV.2.2.2.2.2.2⟩ ?_ ?_ (fun k hk => by rw [aUi_row (by omega), aUi_row (by omega)]) rfl rfl rfl rfl
      · have hi : i < pG P + 1 := hi
        show (if i = pG P then a else pTape P i) < 128
        by_cases e : i = pG P
        · rw [if_pos e]; omega
        · rw [if_neg e]; exact hV.2.2.2.2.2.1 i (by omega)
      · refine RX_hd hV hX (fun k h1 h2 => by rw [aUi_row (by omega), aUi_row (by omega)]) rfl rfl rfl (by rw [aUi_ne (by omega), aUi_row (by omega)]; exact hX.1) (by rw [aUi_ne (by omega), aUi_row (by omega)]; exact hX.2.1) (by rw [aUi_ne (by omega), aUi_row (by omega)]; exact hX.2.2.1) aUi_at (by rw [aUi_ne (by omega), aUi_row (by omega)]; exact hX.2.2.2.2.1) (fun i hi => ?_) ?_ (by rw [aUi_row (by omega), aUi_row (by omega)]; exact hX.2.2.2.2.2.2.2.1)
        · have hi : i < pG P + 1 := hi
          rw [aUi_row (by omega), aUi_k, upd_rd]
          show _ = nI (if i = pG P then a else pTape P i)
          by_cases e : i = pG P
          · rw [if_pos e, if_pos e]
          · rw [if_neg e, if_neg e]; exact hX.2.2.2.2.2.1 i (by omega)
        · rw [aUi_row (by omega), aUi_k]
          exact aFit_upd hX.2.2.2.2.2.2.1 (fit_b a (by omega))
      · rw [aUi_k, aUi_k]
        refine RM_hd hV hM (fun q hq => by rw [pk_un (by omega), pk_un (by omega)]) rfl rfl rfl (by rw [pk_un (by omega), pk_un (by omega)]; exact hM.1) (by rw [pk_un (by omega), pk_un (by omega)]; exact hM.2.1) (by rw [pk_un (by omega), pk_un (by omega)]; exact hM.2.2.1) pk_us (by rw [pk_un (by omega), pk_un (by omega)]; exact hM.2.2.2.2.1) (fun i hi => ?_) (fun i hi => by rw [pk_un (by omega), pk_un (by omega)]; exact hM.2.2.2.2.2.2.1 i hi)
        have hi : i < pG P + 1 := hi
        rw [pk_un (by omega), upd_rd]
        show _ = nI (if i = pG P then a else pTape P i)
        by_cases e : i = pG P
        · rw [if_pos e, if_pos (by omega)]
        · rw [if_neg e, if_neg (by omega)]; exact hM.2.2.2.2.2.1 i (by omega)
    · have h2 : pG P = 100 := by omega
      simp (disch := omega) only [li_0, li_1, li_2, li_3, li_4, li_5, li_6, li_7, li_8, li_9, li_10, li_20, li_32, li_36, li_40, li_48, li_57, li_63, li_64, li_80, li_100, li_110, li_116, li_122, li_127, li_128, li_134, li_140, li_146, li_152, li_158, li_194, li_200, li_205, li_210, li_274, li_279, li_512, li_800, li_979, li_1000, nI_add, pk_mul, nI_clamp, chkN, leq_I, lt_I, eq_I, neq1_I, neq5_I, lt0_I, le0_I, Nat.not_lt_zero, oNl, ↓aLt_eq, ↓aB_some, ↓aO_some, ↓aO_none, ↓reduceIte, Nat.reduceAdd, Nat.reduceMul, Nat.reduceEqDiff, Nat.reduceLT, Nat.reduceLeDiff, reduceCtorEq, not_true_eq_false, not_false_eq_true, and_true, true_and, and_false, false_and, or_false, false_or, or_true, true_or, o1, i1, x2, m3, h, h2]
      exact ⟨_, X, M, rfl, rfl, hR⟩
  · simp (disch := omega) only [li_0, li_1, li_2, li_3, li_4, li_5, li_6, li_7, li_8, li_9, li_10, li_20, li_32, li_36, li_40, li_48, li_57, li_63, li_64, li_80, li_100, li_110, li_116, li_122, li_127, li_128, li_134, li_140, li_146, li_152, li_158, li_194, li_200, li_205, li_210, li_274, li_279, li_512, li_800, li_979, li_1000, nI_add, pk_mul, nI_clamp, chkN, leq_I, lt_I, eq_I, neq1_I, neq5_I, lt0_I, le0_I, Nat.not_lt_zero, oNl, ↓aLt_eq, ↓aB_some, ↓aO_some, ↓aO_none, ↓reduceIte, Nat.reduceAdd, Nat.reduceMul, Nat.reduceEqDiff, Nat.reduceLT, Nat.reduceLeDiff, reduceCtorEq, not_true_eq_false, not_false_eq_true, and_true, true_and, and_false, false_and, or_false, false_or, or_true, true_or, o1, i1]
    exact ⟨_, X, M, rfl, rfl, hR⟩
theorem pu_book_ok : pu_book Rel := by
  intro K X M p hR
  obtain ⟨⟨P, hV, hX, hM⟩, -, -⟩ := id hR
  have hn := hV.1
  have hg := hV.2.2.2.1
  have hb := hV.2.2.1
  have x2 : X.1 1 5 = nI (pB P) := hX.2.2.1
  have m3 : M.1 1 2 = nI (pB P) := hM.2.2.1
  unfold f_X6_book f_X7_book f_X7_isWay
  by_cases hp : p = -nI 1
  · subst hp
    simp (disch := omega) only [li_0, li_1, li_2, li_3, li_4, li_5, li_6, li_7, li_8, li_9, li_10, li_20, li_32, li_36, li_40, li_48, li_57, li_63, li_64, li_80, li_100, li_110, li_116, li_122, li_127, li_128, li_134, li_140, li_146, li_152, li_158, li_194, li_200, li_205, li_210, li_274, li_279, li_512, li_800, li_979, li_1000, nI_add, pk_mul, nI_clamp, chkN, leq_I, lt_I, eq_I, neq1_I, neq5_I, lt0_I, le0_I, Nat.not_lt_zero, oNl, ↓aLt_eq, ↓aB_some, ↓aO_some, ↓aO_none, ↓reduceIte, Nat.reduceAdd, Nat.reduceMul, Nat.reduceEqDiff, Nat.reduceLT, Nat.reduceLeDiff, reduceCtorEq, not_true_eq_false, not_false_eq_true, and_true, true_and, and_false, false_and, or_false, false_or, or_true, true_or]
    refine ⟨_, _, _, rfl, rfl, ?_⟩
    refine Rel_upd (P := ((pN P, pW P, 0, pG P, pO P), P.2)) hR ⟨hV.1, hV.2.1, Nat.zero_le 6, hV.2.2.2.1, hV.2.2.2.2.1, hV.2.2.2.2.2.1, fun i hi => absurd hi (Nat.not_lt_zero i), hV.2.2.2.2.2.2.2⟩ ?_ ?_ (fun k hk => aUi_row (by omega)) rfl rfl rfl rfl
    · exact RX_hd hV hX (fun k h1 h2 => aUi_row (by omega)) rfl rfl rfl (by rw [aUi_ne (by omega)]; exact hX.1) (by rw [aUi_ne (by omega)]; exact hX.2.1) aUi_at (by rw [aUi_ne (by omega)]; exact hX.2.2.2.1) (by rw [aUi_ne (by omega)]; exact hX.2.2.2.2.1) (by rw [aUi_row (by omega)]; exact hX.2.2.2.2.2.1) (by rw [aUi_row (by omega)]; exact hX.2.2.2.2.2.2.1) (fun i hi => absurd hi (Nat.not_lt_zero i))
    · rw [aUi_k]
      exact RM_hd hV hM (fun q hq => pk_un (by omega)) rfl rfl rfl (by rw [pk_un (by omega)]; exact hM.1) (by rw [pk_un (by omega)]; exact hM.2.1) pk_us (by rw [pk_un (by omega)]; exact hM.2.2.2.1) (by rw [pk_un (by omega)]; exact hM.2.2.2.2.1) (fun i hi => by rw [pk_un (by omega)]; exact hM.2.2.2.2.2.1 i hi) (fun i hi => absurd hi (Nat.not_lt_zero i))
  · rcases in_casesN p 7 (by omega) X M with ⟨a, ha, rfl, o1, i1⟩ | ⟨-, o1, i1⟩
    · by_cases h : pB P < 6
      · have h2 : ¬ pB P = 6 := by omega
        simp (disch := omega) only [li_0, li_1, li_2, li_3, li_4, li_5, li_6, li_7, li_8, li_9, li_10, li_20, li_32, li_36, li_40, li_48, li_57, li_63, li_64, li_80, li_100, li_110, li_116, li_122, li_127, li_128, li_134, li_140, li_146, li_152, li_158, li_194, li_200, li_205, li_210, li_274, li_279, li_512, li_800, li_979, li_1000, nI_add, pk_mul, nI_clamp, chkN, leq_I, lt_I, eq_I, neq1_I, neq5_I, lt0_I, le0_I, Nat.not_lt_zero, oNl, ↓aLt_eq, ↓aB_some, ↓aO_some, ↓aO_none, ↓reduceIte, Nat.reduceAdd, Nat.reduceMul, Nat.reduceEqDiff, Nat.reduceLT, Nat.reduceLeDiff, reduceCtorEq, not_true_eq_false, not_false_eq_true, and_true, true_and, and_false, false_and, or_false, false_or, or_true, true_or, hp, o1, i1, x2, m3, h, h2, aUi_rd, oNe]
        refine ⟨_, _, _, rfl, rfl, ?_⟩
        refine Rel_upd (P := ((pN P, pW P, pB P + 1, pG P, pO P), P.2.1, upd0 P.2.2.1 (pB P) a, P.2.2.2)) hR ⟨hV.1, hV.2.1, h, hV.2.2.2.1, hV.2.2.2.2.1, hV.2.2.2.2.2.1, fun i hi => ?_, hV.2.2.2.2.2.2.2⟩ ?_ ?_ (fun k hk => by rw [aUi_row (by omega), aUi_row (by omega)]) rfl rfl rfl rfl
        · have hi : i < pB P + 1 := hi
          show (if i = pB P then a else pBook P i) < 8
          by_cases e : i = pB P
          · rw [if_pos e]; omega
          · rw [if_neg e]; exact hV.2.2.2.2.2.2.1 i (by omega)
        · refine RX_hd hV hX (fun k h1 h2 => by rw [aUi_row (by omega), aUi_row (by omega)]) rfl rfl rfl (by rw [aUi_ne (by omega), aUi_row (by omega)]; exact hX.1) (by rw [aUi_ne (by omega), aUi_row (by omega)]; exact hX.2.1) aUi_at (by rw [aUi_ne (by omega), aUi_row (by omega)]; exact hX.2.2.2.1) (by rw [aUi_ne (by omega), aUi_row (by omega)]; exact hX.2.2.2.2.1) (by rw [aUi_row (by omega), aUi_row (by omega)]; exact hX.2.2.2.2.2.1) (by rw [aUi_row (by omega), aUi_row (by omega)]; exact hX.2.2.2.2.2.2.1) (fun i hi => ?_)
          have hi : i < pB P + 1 := hi
          rw [aUi_row (by omega), aUi_k, upd_rd]
          show _ = nI (if i = pB P then a else pBook P i)
          by_cases e : i = pB P
          · rw [if_pos e, if_pos e]
          · rw [if_neg e, if_neg e]; exact hX.2.2.2.2.2.2.2.1 i (by omega)
        · rw [aUi_k, aUi_k]
          refine RM_hd hV hM (fun q hq => by rw [pk_un (by omega), pk_un (by omega)]) rfl rfl rfl (by rw [pk_un (by omega), pk_un (by omega)]; exact hM.1) (by rw [pk_un (by omega), pk_un (by omega)]; exact hM.2.1) pk_us (by rw [pk_un (by omega), pk_un (by omega)]; exact hM.2.2.2.1) (by rw [pk_un (by omega), pk_un (by omega)]; exact hM.2.2.2.2.1) (fun i hi => by rw [pk_un (by omega), pk_un (by have hi : i < pG P := hi; omega)]; exact hM.2.2.2.2.2.1 i hi) (fun i hi => ?_)
          have hi : i < pB P + 1 := hi
          rw [pk_un (by omega), upd_rd]
          show _ = nI (if i = pB P then a else pBook P i)
          by_cases e : i = pB P
          · rw [if_pos e, if_pos (by omega)]
          · rw [if_neg e, if_neg (by omega)]; exact hM.2.2.2.2.2.2.1 i (by omega)
      · have h2 : pB P = 6 := by omega
        simp (disch := omega) only [li_0, li_1, li_2, li_3, li_4, li_5, li_6, li_7, li_8, li_9, li_10, li_20, li_32, li_36, li_40, li_48, li_57, li_63, li_64, li_80, li_100, li_110, li_116, li_122, li_127, li_128, li_134, li_140, li_146, li_152, li_158, li_194, li_200, li_205, li_210, li_274, li_279, li_512, li_800, li_979, li_1000, nI_add, pk_mul, nI_clamp, chkN, leq_I, lt_I, eq_I, neq1_I, neq5_I, lt0_I, le0_I, Nat.not_lt_zero, oNl, ↓aLt_eq, ↓aB_some, ↓aO_some, ↓aO_none, ↓reduceIte, Nat.reduceAdd, Nat.reduceMul, Nat.reduceEqDiff, Nat.reduceLT, Nat.reduceLeDiff, reduceCtorEq, not_true_eq_false, not_false_eq_true, and_true, true_and, and_false, false_and, or_false, false_or, or_true, true_or, hp, o1, i1, x2, m3, h, h2]
        exact ⟨_, X, M, rfl, rfl, hR⟩
    · simp (disch := omega) only [li_0, li_1, li_2, li_3, li_4, li_5, li_6, li_7, li_8, li_9, li_10, li_20, li_32, li_36, li_40, li_48, li_57, li_63, li_64, li_80, li_100, li_110, li_116, li_122, li_127, li_128, li_134, li_140, li_146, li_152, li_158, li_194, li_200, li_205, li_210, li_274, li_279, li_512, li_800, li_979, li_1000, nI_add, pk_mul, nI_clamp, chkN, leq_I, lt_I, eq_I, neq1_I, neq5_I, lt0_I, le0_I, Nat.not_lt_zero, oNl, ↓aLt_eq, ↓aB_some, ↓aO_some, ↓aO_none, ↓reduceIte, Nat.reduceAdd, Nat.reduceMul, Nat.reduceEqDiff, Nat.reduceLT, Nat.reduceLeDiff, reduceCtorEq, not_true_eq_false, not_false_eq_true, and_true, true_and, and_false, false_and, or_false, false_or, or_true, true_or, hp, o1, i1]
      exact ⟨_, X, M, rfl, rfl, hR⟩
theorem lt_cases (x : Int32) (m : Nat) (hm : m < 2 ^ 30) (X M : aSt) : (∃ j, j < m ∧ x = nI j ∧ f_X6_outside x (nI m - nI 1) X = some (0, X) ∧ f_X7_in x (nI 0) (nI m - nI 1) M = some (1, M)) ∨ (f_X6_outside x (nI m - nI 1) X = some (1, X) ∧ f_X7_in x (nI 0) (nI m - nI 1) M = some (0, M)) := by
  by_cases h0 : m = 0
  · subst h0
    have h2 : (nI 0 - nI 1 : Int32).toInt = -1 := by decide
    refine Or.inr ⟨?_, ?_⟩
    · unfold f_X6_outside
      by_cases hx : x < 0
      · rw [if_pos hx]
      · rw [if_neg hx, if_neg]
        obtain ⟨j, hj, rfl⟩ := nI_of hx
        intro h
        have h1 := Int32.le_iff_toInt_le.mp h
        rw [nI_toInt hj] at h1
        omega
    · unfold f_X7_in
      by_cases hx : x < nI 0
      · rw [if_pos hx]
      · rw [if_neg hx, if_pos]
        obtain ⟨j, hj, rfl⟩ := nI_of hx
        apply Int32.lt_iff_toInt_lt.mpr
        rw [nI_toInt hj]
        omega
  · rw [pk_sub (by omega)]
    rcases in_casesN x (m - 1) (by omega) X M with ⟨j, h1, h2, h3⟩ | ⟨-, h⟩
    · exact Or.inl ⟨j, by omega, h2, h3⟩
    · exact Or.inr h
theorem pu_trace_ok : pu_trace Rel := by
  intro K X M p hR
  obtain ⟨-, ⟨n, hn, b1, b2, b3⟩, -⟩ := id hR
  unfold f_X6_trace f_X7_trace f_X7_trace_20
  by_cases h : n < 20
  · rcases lt_cases p n (by omega) X M with ⟨j, hj, rfl, o1, i1⟩ | ⟨o1, i1⟩
    · simp (disch := omega) only [li_0, li_1, li_2, li_3, li_4, li_5, li_6, li_7, li_8, li_9, li_10, li_20, li_32, li_36, li_40, li_48, li_57, li_63, li_64, li_80, li_100, li_110, li_116, li_122, li_127, li_128, li_134, li_140, li_146, li_152, li_158, li_194, li_200, li_205, li_210, li_274, li_279, li_512, li_800, li_979, li_1000, nI_add, pk_mul, nI_clamp, chkN, leq_I, lt_I, eq_I, neq1_I, neq5_I, lt0_I, le0_I, Nat.not_lt_zero, oNl, ↓aLt_eq, ↓aB_some, ↓aO_some, ↓aO_none, ↓reduceIte, Nat.reduceAdd, Nat.reduceMul, Nat.reduceEqDiff, Nat.reduceLT, Nat.reduceLeDiff, reduceCtorEq, not_true_eq_false, not_false_eq_true, and_true, true_and, and_false, false_and, or_false, false_or, or_true, true_or, b1, b2, oGe, oNl, o1, i1, b3 j hj (by omega)]
      exact ⟨_, X, M, rfl, rfl, hR⟩
    · simp (disch := omega) only [li_0, li_1, li_2, li_3, li_4, li_5, li_6, li_7, li_8, li_9, li_10, li_20, li_32, li_36, li_40, li_48, li_57, li_63, li_64, li_80, li_100, li_110, li_116, li_122, li_127, li_128, li_134, li_140, li_146, li_152, li_158, li_194, li_200, li_205, li_210, li_274, li_279, li_512, li_800, li_979, li_1000, nI_add, pk_mul, nI_clamp, chkN, leq_I, lt_I, eq_I, neq1_I, neq5_I, lt0_I, le0_I, Nat.not_lt_zero, oNl, ↓aLt_eq, ↓aB_some, ↓aO_some, ↓aO_none, ↓reduceIte, Nat.reduceAdd, Nat.reduceMul, Nat.reduceEqDiff, Nat.reduceLT, Nat.reduceLeDiff, reduceCtorEq, not_true_eq_false, not_false_eq_true, and_true, true_and, and_false, false_and, or_false, false_or, or_true, true_or, b1, b2, oGe, oNl, o1, i1]
      exact ⟨_, X, M, rfl, rfl, hR⟩
  · by_cases h2 : n = 20
    · subst h2
      rcases lt_cases p 20 (by omega) X M with ⟨j, hj, rfl, o1, i1⟩ | ⟨o1, i1⟩
      · simp (disch := omega) only [li_0, li_1, li_2, li_3, li_4, li_5, li_6, li_7, li_8, li_9, li_10, li_20, li_32, li_36, li_40, li_48, li_57, li_63, li_64, li_80, li_100, li_110, li_116, li_122, li_127, li_128, li_134, li_140, li_146, li_152, li_158, li_194, li_200, li_205, li_210, li_274, li_279, li_512, li_800, li_979, li_1000, nI_add, pk_mul, nI_clamp, chkN, leq_I, lt_I, eq_I, neq1_I, neq5_I, lt0_I, le0_I, Nat.not_lt_zero, oNl, ↓aLt_eq, ↓aB_some, ↓aO_some, ↓aO_none, ↓reduceIte, Nat.reduceAdd, Nat.reduceMul, Nat.reduceEqDiff, Nat.reduceLT, Nat.reduceLeDiff, reduceCtorEq, not_true_eq_false, not_false_eq_true, and_true, true_and, and_false, false_and, or_false, false_or, or_true, true_or, b1, b2, oGe, oNl, o1, i1, b3 j (by omega) (by omega), Nat.le_refl, ite_self]
        exact ⟨_, X, M, rfl, rfl, hR⟩
      · simp (disch := omega) only [li_0, li_1, li_2, li_3, li_4, li_5, li_6, li_7, li_8, li_9, li_10, li_20, li_32, li_36, li_40, li_48, li_57, li_63, li_64, li_80, li_100, li_110, li_116, li_122, li_127, li_128, li_134, li_140, li_146, li_152, li_158, li_194, li_200, li_205, li_210, li_274, li_279, li_512, li_800, li_979, li_1000, nI_add, pk_mul, nI_clamp, chkN, leq_I, lt_I, eq_I, neq1_I, neq5_I, lt0_I, le0_I, Nat.not_lt_zero, oNl, ↓aLt_eq, ↓aB_some, ↓aO_some, ↓aO_none, ↓reduceIte, Nat.reduceAdd, Nat.reduceMul, Nat.reduceEqDiff, Nat.reduceLT, Nat.reduceLeDiff, reduceCtorEq, not_true_eq_false, not_false_eq_true, and_true, true_and, and_false, false_and, or_false, false_or, or_true, true_or, b1, b2, oGe, oNl, o1, i1, Nat.le_refl]
        exact ⟨_, X, M, rfl, rfl, hR⟩
    · rcases lt_cases p 20 (by omega) X M with ⟨j, hj, rfl, o1, i1⟩ | ⟨o1, i1⟩
      · simp (disch := omega) only [li_0, li_1, li_2, li_3, li_4, li_5, li_6, li_7, li_8, li_9, li_10, li_20, li_32, li_36, li_40, li_48, li_57, li_63, li_64, li_80, li_100, li_110, li_116, li_122, li_127, li_128, li_134, li_140, li_146, li_152, li_158, li_194, li_200, li_205, li_210, li_274, li_279, li_512, li_800, li_979, li_1000, nI_add, pk_mul, nI_clamp, chkN, leq_I, lt_I, eq_I, neq1_I, neq5_I, lt0_I, le0_I, Nat.not_lt_zero, oNl, ↓aLt_eq, ↓aB_some, ↓aO_some, ↓aO_none, ↓reduceIte, Nat.reduceAdd, Nat.reduceMul, Nat.reduceEqDiff, Nat.reduceLT, Nat.reduceLeDiff, reduceCtorEq, not_true_eq_false, not_false_eq_true, and_true, true_and, and_false, false_and, or_false, false_or, or_true, true_or, b1, b2, oLt, oLe, o1, i1, b3 j (by omega) (by omega)]
        exact ⟨_, X, M, rfl, rfl, hR⟩
      · simp (disch := omega) only [li_0, li_1, li_2, li_3, li_4, li_5, li_6, li_7, li_8, li_9, li_10, li_20, li_32, li_36, li_40, li_48, li_57, li_63, li_64, li_80, li_100, li_110, li_116, li_122, li_127, li_128, li_134, li_140, li_146, li_152, li_158, li_194, li_200, li_205, li_210, li_274, li_279, li_512, li_800, li_979, li_1000, nI_add, pk_mul, nI_clamp, chkN, leq_I, lt_I, eq_I, neq1_I, neq5_I, lt0_I, le0_I, Nat.not_lt_zero, oNl, ↓aLt_eq, ↓aB_some, ↓aO_some, ↓aO_none, ↓reduceIte, Nat.reduceAdd, Nat.reduceMul, Nat.reduceEqDiff, Nat.reduceLT, Nat.reduceLeDiff, reduceCtorEq, not_true_eq_false, not_false_eq_true, and_true, true_and, and_false, false_and, or_false, false_or, or_true, true_or, b1, b2, oLt, oLe, o1, i1]
        exact ⟨_, X, M, rfl, rfl, hR⟩

/-! PURE PART: lean, plan, gusts, feed, book, trace -/
theorem in_casesN (x : Int32) (n : Nat) (hn : n < 2 ^ 31) (X M : aSt) : (∃ j, j ≤ n ∧ x = nI j ∧ f_X6_outside x (nI n) X = some (0, X) ∧ f_X7_in x (nI 0) (nI n) M = some (1, M)) ∨ ((x < 0 ∨ nI n < x) ∧ f_X6_outside x (nI n) X = some (1, X) ∧ f_X7_in x (nI 0) (nI n) M = some (0, M)) := in_cases x n hn X M
theorem aUi_comm {S : aSt} {k j i : Nat} {x y : Int32} (h : j ≠ i) : aUi (aUi S k j x) k i y = aUi (aUi S k i y) k j x := by
  refine Prod.ext (funext fun a => funext fun b => ?_) rfl
  simp only [aUi_rd]
  by_cases h1 : a = k
  · by_cases h2 : b = i
    · have h3 : ¬ b = j := fun e => h (e.symm.trans h2)
      simp [h1, h2, h3]
      exact fun e => absurd e.symm h
    · simp [h1, h2]
  · simp [h1]
theorem pu_lean_ok : pu_lean Rel := by
  intro K X M p w l h hR
  obtain ⟨⟨P, hV, hX, hM⟩, -, -⟩ := id hR
  have hn := hV.1
  unfold f_X6_lean f_X7_lean f_X7_isWay
  rcases tree_cases p hV hX hM with ⟨i, hi, rfl, e1, e2⟩ | ⟨e1, e2⟩
  · rcases in_casesN w 7 (by omega) X M with ⟨a, ha, rfl, o1, i1⟩ | ⟨-, o1, i1⟩
    · rcases in_casesN l 9 (by omega) X M with ⟨b, hb, rfl, o2, i2⟩ | ⟨-, o2, i2⟩
      · rcases in_casesN h 9 (by omega) X M with ⟨c, hc, rfl, o3, i3⟩ | ⟨-, o3, i3⟩
        · simp (disch := omega) only [li_0, li_1, li_2, li_3, li_4, li_5, li_6, li_7, li_8, li_9, li_10, li_20, li_32, li_36, li_40, li_48, li_57, li_63, li_64, li_80, li_100, li_110, li_116, li_122, li_127, li_128, li_134, li_140, li_146, li_152, li_158, li_194, li_200, li_205, li_210, li_274, li_279, li_512, li_800, li_979, li_1000, nI_add, pk_mul, nI_clamp, chkN, leq_I, lt_I, eq_I, neq1_I, neq5_I, lt0_I, le0_I, Nat.not_lt_zero, oNl, ↓aLt_eq, ↓aB_some, ↓aO_some, ↓aO_none, ↓reduceIte, Nat.reduceAdd, Nat.reduceMul, Nat.reduceEqDiff, Nat.reduceLT, Nat.reduceLeDiff, reduceCtorEq, not_true_eq_false, not_false_eq_true, and_true, true_and, and_false, false_and, or_false, false_or, or_true, true_or, e1, e2, o1, i1, o2, i2, o3, i3]
          have ht : X.1 (10 + 2 * i) 5 = nI (pT P i 4) := (hX.2.2.2.2.2.2.2.2.2.1 i hi).2.1 4 (by omega)
          have hs : M.1 1 (134 + i) = nI (pT P i 4) := (hM.2.2.2.2.2.2.2.2.1 i hi).1 4 (by omega)
          rw [ht, hs]
          refine ⟨_, _, _, rfl, rfl, ?_⟩
          · refine Rel_upd (P := setT (setT (setT P i 4 b) i 5 a) i 6 c) hR (PV_setT (PV_setT (PV_setT hV (show b ≤ bdT 4 from hb) (by omega) (by omega)) (show a ≤ bdT 5 from ha) (by omega) (by omega)) (show c ≤ bdT 6 from hc) (by omega) (by omega)) ?_ ?_ (fun k hk => ?_) rfl rfl rfl rfl
            · rw [aUi_comm (show 6 ≠ 5 by omega)]
              exact RX_setT (j := 6) (PV_setT (PV_setT hV (show b ≤ bdT 4 from hb) (by omega) (by omega)) (show a ≤ bdT 5 from ha) (by omega) (by omega)) (RX_setT (j := 5) (PV_setT hV (show b ≤ bdT 4 from hb) (by omega) (by omega)) (RX_setT (j := 4) hV hX hi (by omega)) hi (by omega)) hi (by omega)
            · rw [aUi_k, aUi_k, aUi_k]
              exact RM_tree (j := 6) (PV_setT (PV_setT hV (show b ≤ bdT 4 from hb) (by omega) (by omega)) (show a ≤ bdT 5 from ha) (by omega) (by omega)) (RM_tree (j := 5) (PV_setT hV (show b ≤ bdT 4 from hb) (by omega) (by omega)) (RM_tree (j := 4) hV hM (Or.inl ⟨by omega, by omega⟩) hi) (Or.inl ⟨by omega, by omega⟩) hi) (Or.inl ⟨by omega, by omega⟩) hi
            · rw [aUi_row (by omega), aUi_row (by omega), aUi_row (by omega)]
        · simp (disch := omega) only [li_0, li_1, li_2, li_3, li_4, li_5, li_6, li_7, li_8, li_9, li_10, li_20, li_32, li_36, li_40, li_48, li_57, li_63, li_64, li_80, li_100, li_110, li_116, li_122, li_127, li_128, li_134, li_140, li_146, li_152, li_158, li_194, li_200, li_205, li_210, li_274, li_279, li_512, li_800, li_979, li_1000, nI_add, pk_mul, nI_clamp, chkN, leq_I, lt_I, eq_I, neq1_I, neq5_I, lt0_I, le0_I, Nat.not_lt_zero, oNl, ↓aLt_eq, ↓aB_some, ↓aO_some, ↓aO_none, ↓reduceIte, Nat.reduceAdd, Nat.reduceMul, Nat.reduceEqDiff, Nat.reduceLT, Nat.reduceLeDiff, reduceCtorEq, not_true_eq_false, not_false_eq_true, and_true, true_and, and_false, false_and, or_false, false_or, or_true, true_or, e1, e2, o1, i1, o2, i2, o3, i3]
          exact ⟨_, X, M, rfl, rfl, hR⟩
      · simp (disch := omega) only [li_0, li_1, li_2, li_3, li_4, li_5, li_6, li_7, li_8, li_9, li_10, li_20, li_32, li_36, li_40, li_48, li_57, li_63, li_64, li_80, li_100, li_110, li_116, li_122, li_127, li_128, li_134, li_140, li_146, li_152, li_158, li_194, li_200, li_205, li_210, li_274, li_279, li_512, li_800, li_979, li_1000, nI_add, pk_mul, nI_clamp, chkN, leq_I, lt_I, eq_I, neq1_I, neq5_I, lt0_I, le0_I, Nat.not_lt_zero, oNl, ↓aLt_eq, ↓aB_some, ↓aO_some, ↓aO_none, ↓reduceIte, Nat.reduceAdd, Nat.reduceMul, Nat.reduceEqDiff, Nat.reduceLT, Nat.reduceLeDiff, reduceCtorEq, not_true_eq_false, not_false_eq_true, and_true, true_and, and_false, false_and, or_false, false_or, or_true, true_or, e1, e2, o1, i1, o2, i2]
        exact ⟨_, X, M, rfl, rfl, hR⟩
    · simp (disch := omega) only [li_0, li_1, li_2, li_3, li_4, li_5, li_6, li_7, li_8, li_9, li_10, li_20, li_32, li_36, li_40, li_48, li_57, li_63, li_64, li_80, li_100, li_110, li_116, li_122, li_127, li_128, li_134, li_140, li_146, li_152, li_158, li_194, li_200, li_205, li_210, li_274, li_279, li_512, li_800, li_979, li_1000, nI_add, pk_mul, nI_clamp, chkN, leq_I, lt_I, eq_I, neq1_I, neq5_I, lt0_I, le0_I, Nat.not_lt_zero, oNl, ↓aLt_eq, ↓aB_some, ↓aO_some, ↓aO_none, ↓reduceIte, Nat.reduceAdd, Nat.reduceMul, Nat.reduceEqDiff, Nat.reduceLT, Nat.reduceLeDiff, reduceCtorEq, not_true_eq_false, not_false_eq_true, and_true, true_and, and_false, false_and, or_false, false_or, or_true, true_or, e1, e2, o1, i1]
      exact ⟨_, X, M, rfl, rfl, hR⟩
  · simp (disch := omega) only [li_0, li_1, li_2, li_3, li_4, li_5, li_6, li_7, li_8, li_9, li_10, li_20, li_32, li_36, li_40, li_48, li_57, li_63, li_64, li_80, li_100, li_110, li_116, li_122, li_127, li_128, li_134, li_140, li_146, li_152, li_158, li_194, li_200, li_205, li_210, li_274, li_279, li_512, li_800, li_979, li_1000, nI_add, pk_mul, nI_clamp, chkN, leq_I, lt_I, eq_I, neq1_I, neq5_I, lt0_I, le0_I, Nat.not_lt_zero, oNl, ↓aLt_eq, ↓aB_some, ↓aO_some, ↓aO_none, ↓reduceIte, Nat.reduceAdd, Nat.reduceMul, Nat.reduceEqDiff, Nat.reduceLT, Nat.reduceLeDiff, reduceCtorEq, not_true_eq_false, not_false_eq_true, and_true, true_and, and_false, false_and, or_false, false_or, or_true, true_or, e1, e2]
    exact ⟨_, X, M, rfl, rfl, hR⟩
theorem pu_plan_ok : pu_plan Rel := by
  intro K X M p q n hR
  obtain ⟨⟨P, hV, hX, hM⟩, -, -⟩ := id hR
  have hn := hV.1
  unfold f_X6_plan f_X7_plan f_X6_plan_34 f_X6_plan_39 f_X6_plan_54 f_X7_plan_30 f_X7_plan_37
  rcases tree_cases p hV hX hM with ⟨i, hi, rfl, e1, e2⟩ | ⟨e1, e2⟩
  · rcases in_casesN q 5 (by omega) X M with ⟨a, ha, rfl, o1, i1⟩ | ⟨-, o1, i1⟩
    · have key : ∀ c, c ≤ bdT (8 + a) → Rel K (aUi X (10 + 2 * i + 1) a (nI c)) (aUi M 1 (158 + 6 * i + a) (nI c)) := fun c hc => by
        refine Rel_upd (P := setT P i (8 + a) c) hR (PV_setT hV hc (by omega) (by omega)) (RX_setL hV hX hi (by omega)) ?_ (fun k hk => ?_) rfl rfl rfl rfl
        · rw [aUi_k]
          exact RM_tree hV hM (Or.inr ⟨a, by omega, rfl, by omega⟩) hi
        · rw [aUi_row (by omega)]
      have ht : X.1 (10 + 2 * i + 1) a = nI (pT P i (8 + a)) := (hX.2.2.2.2.2.2.2.2.2.1 i hi).2.2 a (by omega)
      have hs : M.1 1 (158 + 6 * i + a) = nI (pT P i (8 + a)) := (hM.2.2.2.2.2.2.2.2.1 i hi).2 a (by omega)
      rcases in_casesN n 7 (by omega) X M with ⟨b, hb, rfl, o2, i2⟩ | ⟨hb, o2, i2⟩
      · by_cases h1 : a = 0
        · subst h1
          simp (disch := omega) only [li_0, li_1, li_2, li_3, li_4, li_5, li_6, li_7, li_8, li_9, li_10, li_20, li_32, li_36, li_40, li_48, li_57, li_63, li_64, li_80, li_100, li_110, li_116, li_122, li_127, li_128, li_134, li_140, li_146, li_152, li_158, li_194, li_200, li_205, li_210, li_274, li_279, li_512, li_800, li_979, li_1000, nI_add, pk_mul, nI_clamp, chkN, leq_I, lt_I, eq_I, neq1_I, neq5_I, lt0_I, le0_I, Nat.not_lt_zero, oNl, ↓aLt_eq, ↓aB_some, ↓aO_some, ↓aO_none, ↓reduceIte, Nat.reduceAdd, Nat.reduceMul, Nat.reduceEqDiff, Nat.reduceLT, Nat.reduceLeDiff, reduceCtorEq, not_true_eq_false, not_false_eq_true, and_true, true_and, and_false, false_and, or_false, false_or, or_true, true_or, e1, e2, o1, i1, o2, i2]
          rw [ht]; exact ⟨_, _, _, rfl, congrArg (fun z => some (z, _)) hs, key b hb⟩
        · by_cases h2 : a = 4
          · subst h2
            simp (disch := omega) only [li_0, li_1, li_2, li_3, li_4, li_5, li_6, li_7, li_8, li_9, li_10, li_20, li_32, li_36, li_40, li_48, li_57, li_63, li_64, li_80, li_100, li_110, li_116, li_122, li_127, li_128, li_134, li_140, li_146, li_152, li_158, li_194, li_200, li_205, li_210, li_274, li_279, li_512, li_800, li_979, li_1000, nI_add, pk_mul, nI_clamp, chkN, leq_I, lt_I, eq_I, neq1_I, neq5_I, lt0_I, le0_I, Nat.not_lt_zero, oNl, ↓aLt_eq, ↓aB_some, ↓aO_some, ↓aO_none, ↓reduceIte, Nat.reduceAdd, Nat.reduceMul, Nat.reduceEqDiff, Nat.reduceLT, Nat.reduceLeDiff, reduceCtorEq, not_true_eq_false, not_false_eq_true, and_true, true_and, and_false, false_and, or_false, false_or, or_true, true_or, e1, e2, o1, i1, o2, i2]
            rw [ht, hs]; exact ⟨_, _, _, rfl, rfl, key b hb⟩
          · rcases in_casesN (nI b) 9 (by omega) X M with ⟨c, hc, hbc, o3, i3⟩ | ⟨hc, -, -⟩
            · simp (disch := omega) only [li_0, li_1, li_2, li_3, li_4, li_5, li_6, li_7, li_8, li_9, li_10, li_20, li_32, li_36, li_40, li_48, li_57, li_63, li_64, li_80, li_100, li_110, li_116, li_122, li_127, li_128, li_134, li_140, li_146, li_152, li_158, li_194, li_200, li_205, li_210, li_274, li_279, li_512, li_800, li_979, li_1000, nI_add, pk_mul, nI_clamp, chkN, leq_I, lt_I, eq_I, neq1_I, neq5_I, lt0_I, le0_I, Nat.not_lt_zero, oNl, ↓aLt_eq, ↓aB_some, ↓aO_some, ↓aO_none, ↓reduceIte, Nat.reduceAdd, Nat.reduceMul, Nat.reduceEqDiff, Nat.reduceLT, Nat.reduceLeDiff, reduceCtorEq, not_true_eq_false, not_false_eq_true, and_true, true_and, and_false, false_and, or_false, false_or, or_true, true_or, e1, e2, o1, i1, o3, i3, h1, h2]
              rw [ht, hs]; refine ⟨_, _, _, rfl, rfl, key b ?_⟩
              rcases (show a = 1 ∨ a = 2 ∨ a = 3 ∨ a = 5 by omega) with e | e | e | e <;> rw [e] <;> show b ≤ 9 <;> omega
            · rcases hc with hc | hc
              · exact absurd hc (nI_pos (by omega))
              · exact absurd hc (nI_nlt (by omega) (by omega))
      · by_cases h1 : a = 0
        · subst h1
          simp (disch := omega) only [li_0, li_1, li_2, li_3, li_4, li_5, li_6, li_7, li_8, li_9, li_10, li_20, li_32, li_36, li_40, li_48, li_57, li_63, li_64, li_80, li_100, li_110, li_116, li_122, li_127, li_128, li_134, li_140, li_146, li_152, li_158, li_194, li_200, li_205, li_210, li_274, li_279, li_512, li_800, li_979, li_1000, nI_add, pk_mul, nI_clamp, chkN, leq_I, lt_I, eq_I, neq1_I, neq5_I, lt0_I, le0_I, Nat.not_lt_zero, oNl, ↓aLt_eq, ↓aB_some, ↓aO_some, ↓aO_none, ↓reduceIte, Nat.reduceAdd, Nat.reduceMul, Nat.reduceEqDiff, Nat.reduceLT, Nat.reduceLeDiff, reduceCtorEq, not_true_eq_false, not_false_eq_true, and_true, true_and, and_false, false_and, or_false, false_or, or_true, true_or, e1, e2, o1, i1, o2, i2]
          exact ⟨_, X, M, rfl, rfl, hR⟩
        · by_cases h2 : a = 4
          · subst h2
            simp (disch := omega) only [li_0, li_1, li_2, li_3, li_4, li_5, li_6, li_7, li_8, li_9, li_10, li_20, li_32, li_36, li_40, li_48, li_57, li_63, li_64, li_80, li_100, li_110, li_116, li_122, li_127, li_128, li_134, li_140, li_146, li_152, li_158, li_194, li_200, li_205, li_210, li_274, li_279, li_512, li_800, li_979, li_1000, nI_add, pk_mul, nI_clamp, chkN, leq_I, lt_I, eq_I, neq1_I, neq5_I, lt0_I, le0_I, Nat.not_lt_zero, oNl, ↓aLt_eq, ↓aB_some, ↓aO_some, ↓aO_none, ↓reduceIte, Nat.reduceAdd, Nat.reduceMul, Nat.reduceEqDiff, Nat.reduceLT, Nat.reduceLeDiff, reduceCtorEq, not_true_eq_false, not_false_eq_true, and_true, true_and, and_false, false_and, or_false, false_or, or_true, true_or, e1, e2, o1, i1, o2, i2]
            exact ⟨_, X, M, rfl, rfl, hR⟩
          · rcases in_casesN n 9 (by omega) X M with ⟨c, hc, rfl, o3, i3⟩ | ⟨hc, o3, i3⟩
            · simp (disch := omega) only [li_0, li_1, li_2, li_3, li_4, li_5, li_6, li_7, li_8, li_9, li_10, li_20, li_32, li_36, li_40, li_48, li_57, li_63, li_64, li_80, li_100, li_110, li_116, li_122, li_127, li_128, li_134, li_140, li_146, li_152, li_158, li_194, li_200, li_205, li_210, li_274, li_279, li_512, li_800, li_979, li_1000, nI_add, pk_mul, nI_clamp, chkN, leq_I, lt_I, eq_I, neq1_I, neq5_I, lt0_I, le0_I, Nat.not_lt_zero, oNl, ↓aLt_eq, ↓aB_some, ↓aO_some, ↓aO_none, ↓reduceIte, Nat.reduceAdd, Nat.reduceMul, Nat.reduceEqDiff, Nat.reduceLT, Nat.reduceLeDiff, reduceCtorEq, not_true_eq_false, not_false_eq_true, and_true, true_and, and_false, false_and, or_false, false_or, or_true, true_or, e1, e2, o1, i1, o3, i3, h1, h2]
              rw [ht, hs]; refine ⟨_, _, _, rfl, rfl, key c ?_⟩
              rcases (show a = 1 ∨ a = 2 ∨ a = 3 ∨ a = 5 by omega) with e | e | e | e <;> rw [e] <;> exact hc
            · simp (disch := omega) only [li_0, li_1, li_2, li_3, li_4, li_5, li_6, li_7, li_8, li_9, li_10, li_20, li_32, li_36, li_40, li_48, li_57, li_63, li_64, li_80, li_100, li_110, li_116, li_122, li_127, li_128, li_134, li_140, li_146, li_152, li_158, li_194, li_200, li_205, li_210, li_274, li_279, li_512, li_800, li_979, li_1000, nI_add, pk_mul, nI_clamp, chkN, leq_I, lt_I, eq_I, neq1_I, neq5_I, lt0_I, le0_I, Nat.not_lt_zero, oNl, ↓aLt_eq, ↓aB_some, ↓aO_some, ↓aO_none, ↓reduceIte, Nat.reduceAdd, Nat.reduceMul, Nat.reduceEqDiff, Nat.reduceLT, Nat.reduceLeDiff, reduceCtorEq, not_true_eq_false, not_false_eq_true, and_true, true_and, and_false, false_and, or_false, false_or, or_true, true_or, e1, e2, o1, i1, o3, i3, h1, h2]
              exact ⟨_, X, M, rfl, rfl, hR⟩
    · simp (disch := omega) only [li_0, li_1, li_2, li_3, li_4, li_5, li_6, li_7, li_8, li_9, li_10, li_20, li_32, li_36, li_40, li_48, li_57, li_63, li_64, li_80, li_100, li_110, li_116, li_122, li_127, li_128, li_134, li_140, li_146, li_152, li_158, li_194, li_200, li_205, li_210, li_274, li_279, li_512, li_800, li_979, li_1000, nI_add, pk_mul, nI_clamp, chkN, leq_I, lt_I, eq_I, neq1_I, neq5_I, lt0_I, le0_I, Nat.not_lt_zero, oNl, ↓aLt_eq, ↓aB_some, ↓aO_some, ↓aO_none, ↓reduceIte, Nat.reduceAdd, Nat.reduceMul, Nat.reduceEqDiff, Nat.reduceLT, Nat.reduceLeDiff, reduceCtorEq, not_true_eq_false, not_false_eq_true, and_true, true_and, and_false, false_and, or_false, false_or, or_true, true_or, e1, e2, o1, i1]
      exact ⟨_, X, M, rfl, rfl, hR⟩
  · simp (disch := omega) only [li_0, li_1, li_2, li_3, li_4, li_5, li_6, li_7, li_8, li_9, li_10, li_20, li_32, li_36, li_40, li_48, li_57, li_63, li_64, li_80, li_100, li_110, li_116, li_122, li_127, li_128, li_134, li_140, li_146, li_152, li_158, li_194, li_200, li_205, li_210, li_274, li_279, li_512, li_800, li_979, li_1000, nI_add, pk_mul, nI_clamp, chkN, leq_I, lt_I, eq_I, neq1_I, neq5_I, lt0_I, le0_I, Nat.not_lt_zero, oNl, ↓aLt_eq, ↓aB_some, ↓aO_some, ↓aO_none, ↓reduceIte, Nat.reduceAdd, Nat.reduceMul, Nat.reduceEqDiff, Nat.reduceLT, Nat.reduceLeDiff, reduceCtorEq, not_true_eq_false, not_false_eq_true, and_true, true_and, and_false, false_and, or_false, false_or, or_true, true_or, e1, e2]
    exact ⟨_, X, M, rfl, rfl, hR⟩
theorem RX_hd {P P' : PS} {X X' : aSt} (hV : PV P) (h : RX 1 P X) (hr : ∀ k, 4 ≤ k → k < 22 → X'.1 k = X.1 k) (h2 : X'.2 1 = X.2 1) (e1 : P'.2.2.2 = P.2.2.2) (e2 : pN P' = pN P) (a : X'.1 1 4 = nI (pN P')) (b : X'.1 1 3 = nI (pW P')) (c : X'.1 1 5 = nI (pB P')) (d : X'.1 1 2 = nI (pG P')) (e : X'.1 1 1 = nI (pO P')) (f : ∀ i, i < pG P' → X'.1 2 i = nI (pTape P' i)) (g : aFit (X'.1 2) 100 = true) (k : ∀ i, i < pB P' → X'.1 3 i = nI (pBook P' i)) : RX 1 P' X' := by
  obtain ⟨-, -, -, -, -, -, -, -, a9, a10, a11⟩ := h
  have hn := hV.1
  have e3 : pT P' = pT P := congrArg (fun z => z.1) e1
  have e4 : pTh P' = pTh P := congrArg (fun z => z.2.1) e1
  have e5 : pWd P' = pWd P := congrArg (fun z => z.2.2) e1
  refine ⟨a, b, c, d, e, f, g, k, by rw [h2, e4]; exact a9, fun i hi => ?_, ?_⟩
  · rw [e2] at hi
    rw [hr (1 + 9 + 2 * i) (by omega) (by omega), hr (1 + 9 + 2 * i + 1) (by omega) (by omega), e3]
    exact a10 i hi
  · rw [e5]
    exact RXW_congr (fun k h1 h2 => hr k (by omega) (by omega)) a11
theorem RM_hd {P P' : PS} {s s' : Nat → Int32} (hV : PV P) (h : RM P s) (hr : ∀ q, (q = 4 ∨ (110 ≤ q ∧ q < 194) ∨ 200 ≤ q) → s' q = s q) (e1 : P'.2.2.2 = P.2.2.2) (e2 : pN P' = pN P) (e3 : pW P' = pW P) (a : s' 0 = nI (pN P')) (b : s' 1 = nI (pW P')) (c : s' 2 = nI (pB P')) (d : s' 3 = nI (pG P')) (e : s' 5 = nI (pO P')) (f : ∀ i, i < pG P' → s' (10 + i) = nI (pTape P' i)) (k : ∀ i, i < pB P' → s' (194 + i) = nI (pBook P' i)) : RM P' s' := by
  obtain ⟨-, -, -, -, -, -, -, a8, a9, a10⟩ := h
  have hn := hV.1
  have e4 : pT P' = pT P := congrArg (fun z => z.1) e1
  have e5 : pTh P' = pTh P := congrArg (fun z => z.2.1) e1
  have e6 : pWd P' = pWd P := congrArg (fun z => z.2.2) e1
  refine ⟨a, b, c, d, e, f, k, fun p hp => ?_, fun i hi => ⟨fun j hj => ?_, fun j hj => ?_⟩, ?_⟩
  · rw [hr _ (by omega), e5]; exact a8 p hp
  · rw [e2] at hi
    rw [hr _ (by omega), e4]; exact (a9 i hi).1 j hj
  · rw [e2] at hi
    rw [hr _ (by omega), e4]; exact (a9 i hi).2 j hj
  · rw [e3, e6]
    rcases a10 with ⟨h1, h2⟩ | ⟨q, hq, h1, h2, h3, h4, h5⟩
    · exact Or.inl ⟨by rw [hr 4 (by omega)]; exact h1, h2⟩
    · exact Or.inr ⟨q, hq, by rw [hr 4 (by omega)]; exact h1, by rw [hr _ (by omega)]; exact h2, by rw [hr _ (by omega)]; exact h3, by rw [hr _ (by omega)]; exact h4, fun z hz => by rw [hr _ (by omega)]; exact h5 z hz⟩
theorem pu_gusts_ok : pu_gusts Rel := by
  intro K X M p hR
  obtain ⟨⟨P, hV, hX, hM⟩, -, -⟩ := id hR
  have hn := hV.1
  have hg := hV.2.2.2.1
  have hb := hV.2.2.1
  unfold f_X6_gusts f_X7_gusts
  rcases in_casesN p 10 (by omega) X M with ⟨a, ha, rfl, o1, i1⟩ | ⟨-, o1, i1⟩
  · simp (disch := omega) only [li_0, li_1, li_2, li_3, li_4, li_5, li_6, li_7, li_8, li_9, li_10, li_20, li_32, li_36, li_40, li_48, li_57, li_63, li_64, li_80, li_100, li_110, li_116, li_122, li_127, li_128, li_134, li_140, li_146, li_152, li_158, li_194, li_200, li_205, li_210, li_274, li_279, li_512, li_800, li_979, li_1000, nI_add, pk_mul, nI_clamp, chkN, leq_I, lt_I, eq_I, neq1_I, neq5_I, lt0_I, le0_I, Nat.not_lt_zero, oNl, ↓aLt_eq, ↓aB_some, ↓aO_some, ↓aO_none, ↓reduceIte, Nat.reduceAdd, Nat.reduceMul, Nat.reduceEqDiff, Nat.reduceLT, Nat.reduceLeDiff, reduceCtorEq, not_true_eq_false, not_false_eq_true, and_true, true_and, and_false, false_and, or_false, false_or, or_true, true_or, o1, i1]
    rw [hX.2.2.2.2.1, hM.2.2.2.2.1]; refine ⟨_, _, _, rfl, rfl, ?_⟩
    refine Rel_upd (P := ((pN P, pW P, pB P, pG P, a), P.2)) hR ⟨hV.1, hV.2.1, hV.2.2.1, hV.2.2.2.1, ha, hV.2.2.2.2.2⟩ ?_ ?_ (fun k hk => aUi_row (by omega)) rfl rfl rfl rfl
    · exact RX_hd hV hX (fun k h1 h2 => aUi_row (by omega)) rfl rfl rfl (by rw [aUi_ne (by omega)]; exact hX.1) (by rw [aUi_ne (by omega)]; exact hX.2.1) (by rw [aUi_ne (by omega)]; exact hX.2.2.1) (by rw [aUi_ne (by omega)]; exact hX.2.2.2.1) aUi_at (by rw [aUi_row (by omega)]; exact hX.2.2.2.2.2.1) (by rw [aUi_row (by omega)]; exact hX.2.2.2.2.2.2.1) (by rw [aUi_row (by omega)]; exact hX.2.2.2.2.2.2.2.1)
    · rw [aUi_k]
      exact RM_hd hV hM (fun q hq => pk_un (by omega)) rfl rfl rfl (by rw [pk_un (by omega)]; exact hM.1) (by rw [pk_un (by omega)]; exact hM.2.1) (by rw [pk_un (by omega)]; exact hM.2.2.1) (by rw [pk_un (by omega)]; exact hM.2.2.2.1) pk_us (fun i hi => by rw [pk_un (by omega)]; exact hM.2.2.2.2.2.1 i hi) (fun i hi => by rw [pk_un (by omega)]; exact hM.2.2.2.2.2.2.1 i hi)
  · simp (disch := omega) only [li_0, li_1, li_2, li_3, li_4, li_5, li_6, li_7, li_8, li_9, li_10, li_20, li_32, li_36, li_40, li_48, li_57, li_63, li_64, li_80, li_100, li_110, li_116, li_122, li_127, li_128, li_134, li_140, li_146, li_152, li_158, li_194, li_200, li_205, li_210, li_274, li_279, li_512, li_800, li_979, li_1000, nI_add, pk_mul, nI_clamp, chkN, leq_I, lt_I, eq_I, neq1_I, neq5_I, lt0_I, le0_I, Nat.not_lt_zero, oNl, ↓aLt_eq, ↓aB_some, ↓aO_some, ↓aO_none, ↓reduceIte, Nat.reduceAdd, Nat.reduceMul, Nat.reduceEqDiff, Nat.reduceLT, Nat.reduceLeDiff, reduceCtorEq, not_true_eq_false, not_false_eq_true, and_true, true_and, and_false, false_and, or_false, false_or, or_true, true_or, o1, i1]
    exact ⟨_, X, M, rfl, rfl, hR⟩

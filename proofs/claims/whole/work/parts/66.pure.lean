/-! PURE PART: as; a TREE's beginning, a TREE copied; tree -/
def und (d k : Nat) : Bool := k == 0 || k == d || (decide (0 < k) && decide (k < 4) && d == k + 3)
theorem q_under {d k : Nat} (hd : d < 7) (hk : k < 7) (S : aSt) : f_X7_isUnder (nI d) (nI k) S = some (if und d k then 1 else 0, S) := by
  rcases (show d = 0 ∨ d = 1 ∨ d = 2 ∨ d = 3 ∨ d = 4 ∨ d = 5 ∨ d = 6 by omega) with rfl | rfl | rfl | rfl | rfl | rfl | rfl <;> rcases (show k = 0 ∨ k = 1 ∨ k = 2 ∨ k = 3 ∨ k = 4 ∨ k = 5 ∨ k = 6 by omega) with rfl | rfl | rfl | rfl | rfl | rfl | rfl <;> rfl
theorem q_as {d k c : Nat} (hd : d < 7) (hk : k < 7) (S : aSt) : f_X6_as_33 aF (nI k) c (nI d) (nI 0) S = some (if und d k then S.1 c 2 else -6, S) := by
  rcases (show d = 0 ∨ d = 1 ∨ d = 2 ∨ d = 3 ∨ d = 4 ∨ d = 5 ∨ d = 6 by omega) with rfl | rfl | rfl | rfl | rfl | rfl | rfl <;> rcases (show k = 0 ∨ k = 1 ∨ k = 2 ∨ k = 3 ∨ k = 4 ∨ k = 5 ∨ k = 6 by omega) with rfl | rfl | rfl | rfl | rfl | rfl | rfl <;> rfl
theorem pu_as_ok : pu_as Rel := by
  intro K X M p q hR
  obtain ⟨⟨P, hV, hX, hM⟩, -, -⟩ := id hR
  have hn := hV.1
  unfold f_X6_as f_X7_as
  rcases tree_cases p hV hX hM with ⟨i, hi, rfl, e1, e2⟩ | ⟨e1, e2⟩
  · have hx : ∀ j, j < 8 → X.1 (10 + 2 * i) (j + 1) = nI (pT P i j) := (hX.2.2.2.2.2.2.2.2.2.1 i hi).2.1
    have hs := (hM.2.2.2.2.2.2.2.2.1 i hi).1
    have h0 : pT P i 0 ≤ 6 := (hV.2.2.2.2.2.2.2.1 i hi).1 0 (by omega)
    have x1 : X.1 (10 + 2 * i) 1 = nI (pT P i 0) := hx 0 (by omega)
    have x2 : X.1 (10 + 2 * i) 2 = nI (pT P i 1) := hx 1 (by omega)
    have s1 : M.1 1 (110 + i) = nI (pT P i 0) := hs 0 (by omega)
    have s2 : M.1 1 (116 + i) = nI (pT P i 1) := hs 1 (by omega)
    rcases in_casesN q 6 (by omega) X M with ⟨k, hk, rfl, o1, i1⟩ | ⟨-, o1, i1⟩
    · by_cases hu : und (pT P i 0) k = true
      · simp (disch := omega) only [li_0, li_1, li_2, li_3, li_4, li_5, li_6, li_7, li_8, li_9, li_10, li_20, li_32, li_36, li_40, li_48, li_57, li_63, li_64, li_80, li_100, li_110, li_116, li_122, li_127, li_128, li_134, li_140, li_146, li_152, li_158, li_194, li_200, li_205, li_210, li_274, li_279, li_512, li_800, li_979, li_1000, nI_add, pk_mul, nI_clamp, chkN, leq_I, lt_I, eq_I, neq1_I, neq5_I, lt0_I, le0_I, Nat.not_lt_zero, oNl, ↓aLt_eq, ↓aB_some, ↓aO_some, ↓aO_none, ↓reduceIte, Nat.reduceAdd, Nat.reduceMul, Nat.reduceEqDiff, Nat.reduceLT, Nat.reduceLeDiff, reduceCtorEq, not_true_eq_false, not_false_eq_true, and_true, true_and, and_false, false_and, or_false, false_or, or_true, true_or, e1, e2, o1, i1, x1, s1, s2, x2, q_under (show pT P i 0 < 7 by omega) (show k < 7 by omega), q_as (show pT P i 0 < 7 by omega) (show k < 7 by omega), hu]
        exact ⟨_, X, M, rfl, rfl, hR⟩
      · have hu : und (pT P i 0) k = false := by simpa using hu
        simp (disch := omega) only [li_0, li_1, li_2, li_3, li_4, li_5, li_6, li_7, li_8, li_9, li_10, li_20, li_32, li_36, li_40, li_48, li_57, li_63, li_64, li_80, li_100, li_110, li_116, li_122, li_127, li_128, li_134, li_140, li_146, li_152, li_158, li_194, li_200, li_205, li_210, li_274, li_279, li_512, li_800, li_979, li_1000, nI_add, pk_mul, nI_clamp, chkN, leq_I, lt_I, eq_I, neq1_I, neq5_I, lt0_I, le0_I, Nat.not_lt_zero, oNl, ↓aLt_eq, ↓aB_some, ↓aO_some, ↓aO_none, ↓reduceIte, Nat.reduceAdd, Nat.reduceMul, Nat.reduceEqDiff, Nat.reduceLT, Nat.reduceLeDiff, reduceCtorEq, not_true_eq_false, not_false_eq_true, and_true, true_and, and_false, false_and, or_false, false_or, or_true, true_or, e1, e2, o1, i1, x1, s1, s2, x2, q_under (show pT P i 0 < 7 by omega) (show k < 7 by omega), q_as (show pT P i 0 < 7 by omega) (show k < 7 by omega), hu, Bool.false_eq_true]
        exact ⟨_, X, M, rfl, rfl, hR⟩
    · simp (disch := omega) only [li_0, li_1, li_2, li_3, li_4, li_5, li_6, li_7, li_8, li_9, li_10, li_20, li_32, li_36, li_40, li_48, li_57, li_63, li_64, li_80, li_100, li_110, li_116, li_122, li_127, li_128, li_134, li_140, li_146, li_152, li_158, li_194, li_200, li_205, li_210, li_274, li_279, li_512, li_800, li_979, li_1000, nI_add, pk_mul, nI_clamp, chkN, leq_I, lt_I, eq_I, neq1_I, neq5_I, lt0_I, le0_I, Nat.not_lt_zero, oNl, ↓aLt_eq, ↓aB_some, ↓aO_some, ↓aO_none, ↓reduceIte, Nat.reduceAdd, Nat.reduceMul, Nat.reduceEqDiff, Nat.reduceLT, Nat.reduceLeDiff, reduceCtorEq, not_true_eq_false, not_false_eq_true, and_true, true_and, and_false, false_and, or_false, false_or, or_true, true_or, e1, e2, o1, i1]
      exact ⟨_, X, M, rfl, rfl, hR⟩
  · simp (disch := omega) only [li_0, li_1, li_2, li_3, li_4, li_5, li_6, li_7, li_8, li_9, li_10, li_20, li_32, li_36, li_40, li_48, li_57, li_63, li_64, li_80, li_100, li_110, li_116, li_122, li_127, li_128, li_134, li_140, li_146, li_152, li_158, li_194, li_200, li_205, li_210, li_274, li_279, li_512, li_800, li_979, li_1000, nI_add, pk_mul, nI_clamp, chkN, leq_I, lt_I, eq_I, neq1_I, neq5_I, lt0_I, le0_I, Nat.not_lt_zero, oNl, ↓aLt_eq, ↓aB_some, ↓aO_some, ↓aO_none, ↓reduceIte, Nat.reduceAdd, Nat.reduceMul, Nat.reduceEqDiff, Nat.reduceLT, Nat.reduceLeDiff, reduceCtorEq, not_true_eq_false, not_false_eq_true, and_true, true_and, and_false, false_and, or_false, false_or, or_true, true_or, e1, e2]
    exact ⟨_, X, M, rfl, rfl, hR⟩
theorem aF_s (k : Nat) (h : k ≤ 10000) : ∃ n, aF = n + k := ⟨10000 - k, by show 10000 = _; omega⟩
theorem q_begin (c : Nat) (a0 a1 a2 a3 a4 : Int32) (S : aSt) : ∃ S', f_X4_begin c a0 a1 a2 a3 a4 S = some ((), S') ∧ S'.2 = S.2 ∧ (∀ k, k ≠ c → k ≠ c + 1 → S'.1 k = S.1 k) ∧ S'.1 c 0 = a0 ∧ S'.1 c 1 = a1 ∧ S'.1 c 2 = a2 ∧ S'.1 c 3 = a3 ∧ S'.1 c 4 = a4 ∧ S'.1 c 5 = 0 ∧ S'.1 c 6 = 0 ∧ S'.1 c 7 = 0 ∧ S'.1 c 8 = 1 ∧ ∀ k, k < 6 → S'.1 (c + 1) k = 0 := by
  obtain ⟨n, hn⟩ := aF_s 7 (by omega)
  unfold f_X4_begin
  rw [hn]
  simp (disch := omega) only [li_0, li_1, li_2, li_3, li_4, li_5, li_6, li_7, li_8, li_9, li_10, li_20, li_32, li_36, li_40, li_48, li_57, li_63, li_64, li_80, li_100, li_110, li_116, li_122, li_127, li_128, li_134, li_140, li_146, li_152, li_158, li_194, li_200, li_205, li_210, li_274, li_279, li_512, li_800, li_979, li_1000, nI_add, pk_mul, nI_clamp, chkN, leq_I, lt_I, eq_I, neq1_I, neq5_I, lt0_I, le0_I, Nat.not_lt_zero, oNl, ↓aLt_eq, ↓aB_some, ↓aO_some, ↓aO_none, ↓reduceIte, Nat.reduceAdd, Nat.reduceMul, Nat.reduceEqDiff, Nat.reduceLT, Nat.reduceLeDiff, reduceCtorEq, not_true_eq_false, not_false_eq_true, and_true, true_and, and_false, false_and, or_false, false_or, or_true, true_or, f_X4_begin_50, oNl, oLe, Nat.le_refl]
  refine ⟨_, rfl, rfl, fun k h1 h2 => ?_, ?_, ?_, ?_, ?_, ?_, ?_, ?_, ?_, ?_, fun k hk => ?_⟩
  · simp only [aUi_row h1, aUi_row h2]
  all_goals try simp [aUi_rd, nI_0]
  · rcases (show k = 0 ∨ k = 1 ∨ k = 2 ∨ k = 3 ∨ k = 4 ∨ k = 5 by omega) with rfl | rfl | rfl | rfl | rfl | rfl <;> simp [nI_0]

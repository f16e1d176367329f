/-! PURE PART: rows for walking the functions; calls that look at or write single numbers -/
theorem li_0 : (0 : Int32) = nI 0 := rfl
theorem li_1 : (1 : Int32) = nI 1 := rfl
theorem li_2 : (2 : Int32) = nI 2 := rfl
theorem li_3 : (3 : Int32) = nI 3 := rfl
theorem li_4 : (4 : Int32) = nI 4 := rfl
theorem li_5 : (5 : Int32) = nI 5 := rfl
theorem li_6 : (6 : Int32) = nI 6 := rfl
theorem li_7 : (7 : Int32) = nI 7 := rfl
theorem li_8 : (8 : Int32) = nI 8 := rfl
theorem li_9 : (9 : Int32) = nI 9 := rfl
theorem li_10 : (10 : Int32) = nI 10 := rfl
theorem li_20 : (20 : Int32) = nI 20 := rfl
theorem li_32 : (32 : Int32) = nI 32 := rfl
theorem li_36 : (36 : Int32) = nI 36 := rfl
theorem li_40 : (40 : Int32) = nI 40 := rfl
theorem li_48 : (48 : Int32) = nI 48 := rfl
theorem li_57 : (57 : Int32) = nI 57 := rfl
theorem li_63 : (63 : Int32) = nI 63 := rfl
theorem li_64 : (64 : Int32) = nI 64 := rfl
theorem li_80 : (80 : Int32) = nI 80 := rfl
theorem li_100 : (100 : Int32) = nI 100 := rfl
theorem li_110 : (110 : Int32) = nI 110 := rfl
theorem li_116 : (116 : Int32) = nI 116 := rfl
theorem li_122 : (122 : Int32) = nI 122 := rfl
theorem li_127 : (127 : Int32) = nI 127 := rfl
theorem li_128 : (128 : Int32) = nI 128 := rfl
theorem li_134 : (134 : Int32) = nI 134 := rfl
theorem li_140 : (140 : Int32) = nI 140 := rfl
theorem li_146 : (146 : Int32) = nI 146 := rfl
theorem li_152 : (152 : Int32) = nI 152 := rfl
theorem li_158 : (158 : Int32) = nI 158 := rfl
theorem li_194 : (194 : Int32) = nI 194 := rfl
theorem li_200 : (200 : Int32) = nI 200 := rfl
theorem li_205 : (205 : Int32) = nI 205 := rfl
theorem li_210 : (210 : Int32) = nI 210 := rfl
theorem li_274 : (274 : Int32) = nI 274 := rfl
theorem li_279 : (279 : Int32) = nI 279 := rfl
theorem li_512 : (512 : Int32) = nI 512 := rfl
theorem li_800 : (800 : Int32) = nI 800 := rfl
theorem li_979 : (979 : Int32) = nI 979 := rfl
theorem li_1000 : (1000 : Int32) = nI 1000 := rfl
theorem aLt_eq {γ δ : Type} (a : γ) (k : γ → δ) : aLt a k = k a := rfl
theorem aO_some {γ : Type} (a : Nat) (A : γ) (B : Nat → γ) : aO (some a) A B = B a := rfl
theorem aO_none {γ : Type} (A : γ) (B : Nat → γ) : aO none A B = A := rfl
theorem chkF {m n : Nat} (h : m < n ∧ n < 2 ^ 31) : (nI m < nI 0 ∨ n ≤ (nI m).toNatClampNeg) = False := eq_false (q_chk h.1 h.2)
theorem leq_I {a b : Nat} (h : a < 2 ^ 31 ∧ b < 2 ^ 31) : (nI a ≤ nI b) = (a ≤ b) := propext (nI_leI h.1 h.2)
theorem lt_I {a b : Nat} (h : a < 2 ^ 31 ∧ b < 2 ^ 31) : (nI a < nI b) = (a < b) := propext (nI_ltI h.1 h.2)
theorem eq_I {a b : Nat} (h : a < 2 ^ 31 ∧ b < 2 ^ 31) : (nI a = nI b) = (a = b) := propext (nI_eq h.1 h.2)
theorem neg_ne {a : Nat} {x : Int32} (ha : a < 2 ^ 31) (hx : x.toInt < 0) : ¬ nI a = x := fun e => by
  rw [← e, nI_toInt ha] at hx
  omega
theorem neq1_I {a : Nat} (ha : a < 2 ^ 31) : (nI a = -nI 1) = False := eq_false (neg_ne ha (by decide))
theorem neq5_I {a : Nat} (ha : a < 2 ^ 31) : (nI a = -nI 5) = False := eq_false (neg_ne ha (by decide))
theorem chkN {m n q : Nat} (h : q < n) : (m < 0 ∨ n ≤ q) = False := eq_false (by omega)
theorem lt0_I {a : Nat} (ha : a < 2 ^ 31) : (nI a < 0) = False := eq_false (nI_pos ha)
theorem le0_I {a : Nat} (ha : a < 2 ^ 31) : (0 ≤ nI a) = True := eq_true (nI_pos' ha)
theorem oLt {a b : Nat} (h : a < b) : (a < b) = True := eq_true h
theorem oGe {a b : Nat} (h : b ≤ a) : (a < b) = False := eq_false (Nat.not_lt.mpr h)
theorem oNe {a b : Nat} (h : a ≠ b) : (a = b) = False := eq_false h
theorem oLe {a b : Nat} (h : a ≤ b) : (a ≤ b) = True := eq_true h
theorem oNl {a b : Nat} (h : b < a) : (a ≤ b) = False := eq_false (Nat.not_le.mpr h)
/-- of the ways to read a number: inside, or both sides say so -/
theorem in_cases (x : Int32) (n : Nat) (hn : n < 2 ^ 31) (X M : aSt) : (∃ j, j ≤ n ∧ x = nI j ∧ f_X6_outside x (nI n) X = some (0, X) ∧ f_X7_in x 0 (nI n) M = some (1, M)) ∨ ((x < 0 ∨ nI n < x) ∧ f_X6_outside x (nI n) X = some (1, X) ∧ f_X7_in x 0 (nI n) M = some (0, M)) := by
  rcases a_cases x n hn with ⟨j, hj, rfl⟩ | h
  · exact Or.inl ⟨j, hj, rfl, q_out_in hj hn X, q_in_in (m := 0) (Nat.zero_le j) hj hn M⟩
  · exact Or.inr ⟨h, q_out_out h X, q_in_out (m := 0) h M⟩
theorem pu_of_ok : pu_of Rel := by
  intro K X M p q hR
  obtain ⟨⟨P, hV, hX, hM⟩, -, -⟩ := id hR
  have hn := hV.1
  unfold f_X6_of f_X7_of
  rcases tree_cases p hV hX hM with ⟨i, hi, rfl, e1, e2⟩ | ⟨e1, e2⟩
  · rw [e1, e2, aB_some, aB_some, if_neg (show ¬ (1 : Int32) = 0 by decide), aO_some]
    have hx : ∀ j, j < 8 → X.1 (10 + 2 * i) (j + 1) = nI (pT P i j) := (hX.2.2.2.2.2.2.2.2.2.1 i hi).2.1
    have hs := (hM.2.2.2.2.2.2.2.2.1 i hi).1
    have h7 : pT P i 7 ≤ 1 := (hV.2.2.2.2.2.2.2.1 i hi).1 7 (by omega)
    rcases in_cases q 7 (by omega) X M with ⟨j, hj, rfl, -, hin⟩ | ⟨h, -, hin⟩
    · refine ⟨nI (pT P i j), X, M, ?_, ?_, hR⟩
      · match j, hj with
        | 0, _ => exact congrArg (fun z => some (z, X)) (hx 0 (by omega))
        | 1, _ => exact congrArg (fun z => some (z, X)) (hx 1 (by omega))
        | 2, _ => exact congrArg (fun z => some (z, X)) (hx 2 (by omega))
        | 3, _ => exact congrArg (fun z => some (z, X)) (hx 3 (by omega))
        | 4, _ => exact congrArg (fun z => some (z, X)) (hx 4 (by omega))
        | 5, _ => exact congrArg (fun z => some (z, X)) (hx 5 (by omega))
        | 6, _ => exact congrArg (fun z => some (z, X)) (hx 6 (by omega))
        | 7, _ =>
          show (if X.1 (10 + 2 * i) 8 = 0 then some ((0 : Int32), X) else some ((1 : Int32), X)) = _
          rw [hx 7 (by omega)]
          rcases (show pT P i 7 = 0 ∨ pT P i 7 = 1 by omega) with e | e <;> rw [e] <;> rfl
        | n + 8, h => exact absurd h (by omega)
      · rw [show (7 : Int32) = nI 7 from rfl, hin]
        simp (disch := omega) only [li_0, li_1, li_2, li_3, li_4, li_5, li_6, li_7, li_8, li_9, li_10, li_20, li_32, li_36, li_40, li_48, li_57, li_63, li_64, li_80, li_100, li_110, li_116, li_122, li_127, li_128, li_134, li_140, li_146, li_152, li_158, li_194, li_200, li_205, li_210, li_274, li_279, li_512, li_800, li_979, li_1000, nI_add, pk_mul, nI_clamp, chkN, leq_I, lt_I, eq_I, neq1_I, neq5_I, lt0_I, le0_I, Nat.not_lt_zero, oNl, ↓aLt_eq, ↓aB_some, ↓aO_some, ↓aO_none, ↓reduceIte, Nat.reduceAdd, Nat.reduceMul, Nat.reduceEqDiff, Nat.reduceLT, Nat.reduceLeDiff, reduceCtorEq, not_true_eq_false, not_false_eq_true, and_true, true_and, and_false, false_and, or_false, false_or, or_true, true_or, hs j (by omega)]
    · rw [show (7 : Int32) = nI 7 from rfl, hin]
      refine ⟨-1, X, M, ?_, rfl, hR⟩
      have hne : ∀ k, k ≤ 7 → ¬ q = nI k := fun k hk => ne_out h hk (by omega)
      simp (disch := omega) only [li_0, li_1, li_2, li_3, li_4, li_5, li_6, li_7, li_8, li_9, li_10, li_20, li_32, li_36, li_40, li_48, li_57, li_63, li_64, li_80, li_100, li_110, li_116, li_122, li_127, li_128, li_134, li_140, li_146, li_152, li_158, li_194, li_200, li_205, li_210, li_274, li_279, li_512, li_800, li_979, li_1000, nI_add, pk_mul, nI_clamp, chkN, leq_I, lt_I, eq_I, neq1_I, neq5_I, lt0_I, le0_I, Nat.not_lt_zero, oNl, ↓aLt_eq, ↓aB_some, ↓aO_some, ↓aO_none, ↓reduceIte, Nat.reduceAdd, Nat.reduceMul, Nat.reduceEqDiff, Nat.reduceLT, Nat.reduceLeDiff, reduceCtorEq, not_true_eq_false, not_false_eq_true, and_true, true_and, and_false, false_and, or_false, false_or, or_true, true_or, hne 0 (by omega), hne 1 (by omega), hne 2 (by omega), hne 3 (by omega), hne 4 (by omega), hne 5 (by omega), hne 6 (by omega), hne 7 (by omega)]
  · rw [e1, e2, aB_some, aB_some, if_pos rfl]
    exact ⟨-1, X, M, rfl, rfl, hR⟩

/-! PURE PART: a TREE copied; tree -/
theorem aRow_at {S : aSt} {k : Nat} {f : Nat → Int32} : (aRow S k f).1 k = f := by simp [aRow, va_up]
theorem aRow_ne {S : aSt} {k q : Nat} {f : Nat → Int32} (h : q ≠ k) : (aRow S k f).1 q = S.1 q := by simp [aRow, va_up, h]
theorem aCp_ne {S : aSt} {k0 k1 n q : Nat} (h : q ≠ k1) : (aCp S k0 k1 n).1 q = S.1 q := aRow_ne h
theorem aCp_at {S : aSt} {k0 k1 n j : Nat} (h : j < n) : (aCp S k0 k1 n).1 k1 j = S.1 k0 j := by
  unfold aCp
  rw [aRow_at, pk_cpy_in (Nat.zero_le j) (by omega), Nat.sub_zero, Nat.zero_add]
theorem q_copyT {c d : Nat} {S : aSt} (h1 : d ≠ c) (h2 : d ≠ c + 1) (h3 : d + 1 ≠ c) (h8 : S.1 d 8 = 0 ∨ S.1 d 8 = 1) : ∃ S', f_X4_copyFrom c d S = some ((), S') ∧ S'.2 = S.2 ∧ (∀ k, k ≠ c → k ≠ c + 1 → S'.1 k = S.1 k) ∧ (∀ j, j < 9 → S'.1 c j = S.1 d j) ∧ ∀ k, k < 6 → S'.1 (c + 1) k = S.1 (d + 1) k := by
  obtain ⟨S1, e1, e2, e3, b0, b1, b2, b3, b4, -, -, -, -, -⟩ := q_begin c (S.1 d 0) (S.1 d 1) (S.1 d 2) (S.1 d 3) (S.1 d 4) S
  have r : S1.1 d = S.1 d := e3 d h1 h2
  unfold f_X4_copyFrom
  rw [e1, aB_some]
  simp only [aLt]
  have g : (aUi (aUi (aUi S1 c 5 (S1.1 d 5)) c 6 ((aUi S1 c 5 (S1.1 d 5)).1 d 6)) c 7 ((aUi (aUi S1 c 5 (S1.1 d 5)) c 6 ((aUi S1 c 5 (S1.1 d 5)).1 d 6)).1 d 7)).1 d 8 = S.1 d 8 := by
    rw [aUi_row h1, aUi_row h1, aUi_row h1, r]
  rw [g, if_pos h8]
  refine ⟨_, rfl, e2, fun k k1 k2 => ?_, fun j hj => ?_, fun k hk => ?_⟩
  · rw [aCp_ne k2, aUi_row k1, aUi_row k1, aUi_row k1, aUi_row k1]
    exact e3 k k1 k2
  · rw [aCp_ne (by omega)]
    simp only [aUi_rd, h1, false_and, if_false, r]
    rcases (show j = 0 ∨ j = 1 ∨ j = 2 ∨ j = 3 ∨ j = 4 ∨ j = 5 ∨ j = 6 ∨ j = 7 ∨ j = 8 by omega) with rfl | rfl | rfl | rfl | rfl | rfl | rfl | rfl | rfl <;> simp [b0, b1, b2, b3, b4]
  · rw [aCp_at hk, aUi_row (by omega), aUi_row (by omega), aUi_row (by omega), aUi_row (by omega), e3 (d + 1) h3 (by omega)]
theorem aF_big : 9999 < aF := by decide
def newT (k v p h : Nat) (b : Nat) : Nat := if b = 0 then k else if b = 1 then v else if b = 2 then p else if b = 3 then h else if b = 7 then 1 else 0
theorem q_taken {P : PS} {X M : aSt} (hV : PV P) (hX : RX 1 P X) (hM : RM P (M.1 1)) (k v h : Int32) (p : Nat) (hp : p < 64) : ∀ e t n n', t + e = pN P → e < n → e < n' → (f_X2_isTaken_2 n 1 (nI p) (nI t) X = some (1, X) ∧ f_X7_tree_49 n' k v (nI p) h (nI t) M = some (-3, M)) ∨ ((∀ i, t ≤ i → i < pN P → pT P i 2 ≠ p) ∧ f_X2_isTaken_2 n 1 (nI p) (nI t) X = some (0, X) ∧ f_X7_tree_49 n' k v (nI p) h (nI t) M = f_X7_tree_49 1 k v (nI p) h (nI (pN P)) M) := by
  have hn := hV.1
  intro e
  induction e with
  | zero =>
    intro t n n' h1 h2 h3
    obtain ⟨n, rfl⟩ : ∃ m, n = m + 1 := ⟨n - 1, by omega⟩
    obtain ⟨n', rfl⟩ : ∃ m, n' = m + 1 := ⟨n' - 1, by omega⟩
    have ht : t = pN P := by omega
    subst ht
    refine Or.inr ⟨fun i a b => absurd b (by omega), ?_, ?_⟩
    · simp (disch := omega) only [li_0, li_1, li_2, li_3, li_4, li_5, li_6, li_7, li_8, li_9, li_10, li_20, li_32, li_36, li_40, li_48, li_57, li_63, li_64, li_80, li_100, li_110, li_116, li_122, li_127, li_128, li_134, li_140, li_146, li_152, li_158, li_194, li_200, li_205, li_210, li_274, li_279, li_512, li_800, li_979, li_1000, nI_add, pk_mul, nI_clamp, chkN, leq_I, lt_I, eq_I, neq1_I, neq5_I, lt0_I, le0_I, Nat.not_lt_zero, oNl, ↓aLt_eq, ↓aB_some, ↓aO_some, ↓aO_none, ↓reduceIte, Nat.reduceAdd, Nat.reduceMul, Nat.reduceEqDiff, Nat.reduceLT, Nat.reduceLeDiff, reduceCtorEq, not_true_eq_false, not_false_eq_true, and_true, true_and, and_false, false_and, or_false, false_or, or_true, true_or, f_X2_isTaken_2, hX.1, Nat.le_refl]
    · have m0 : M.1 1 0 = nI (pN P) := hM.1
      simp only [f_X7_tree_49, m0, Int32.le_refl, if_true]
  | succ e ih =>
    intro t n n' h1 h2 h3
    obtain ⟨n, rfl⟩ : ∃ m, n = m + 1 := ⟨n - 1, by omega⟩
    obtain ⟨n', rfl⟩ : ∃ m, n' = m + 1 := ⟨n' - 1, by omega⟩
    have ht : t < pN P := by omega
    have x3 : X.1 (1 + 9 + 2 * t) 3 = nI (pT P t 2) := (hX.2.2.2.2.2.2.2.2.2.1 t ht).2.1 2 (by omega)
    have s3 : M.1 1 (122 + t) = nI (pT P t 2) := (hM.2.2.2.2.2.2.2.2.1 t ht).1 2 (by omega)
    have hb : pT P t 2 ≤ 63 := (hV.2.2.2.2.2.2.2.1 t ht).1 2 (by omega)
    have m0 : M.1 1 0 = nI (pN P) := hM.1
    have x4 : X.1 1 4 = nI (pN P) := hX.1
    rw [f_X2_isTaken_2, f_X7_tree_49]
    rw [x4, m0, if_neg (show ¬ nI (pN P) ≤ nI t from nI_ge ht (by omega)), if_neg (show ¬ nI (pN P) ≤ nI t from nI_ge ht (by omega)), if_neg (q_chk (by omega) (by omega)), nI_clamp (by omega), x3, show (122 : Int32) + nI t = nI (122 + t) from nI_add 122 t, if_neg (q_chk (by omega) (by omega)), nI_clamp (by omega), s3, nI_1]
    by_cases hq : pT P t 2 = p
    · rw [hq, if_pos rfl, if_pos rfl]
      exact Or.inl ⟨rfl, rfl⟩
    · rw [if_neg (fun e => hq ((nI_eq (by omega) (by omega)).mp e)), if_neg (fun e => hq ((nI_eq (by omega) (by omega)).mp e))]
      rcases ih (t + 1) n n' (by omega) (by omega) (by omega) with ⟨g1, g2⟩ | ⟨g1, g2, g3⟩
      · exact Or.inl ⟨g1, g2⟩
      · refine Or.inr ⟨fun i a b => ?_, g2, g3⟩
        by_cases hi : i = t
        · rw [hi]; exact hq
        · exact g1 i (by omega) b
theorem q_tree202 {t : Nat} (ht : t < 6) (M : aSt) : ∃ M', f_X7_tree_202 aF (nI t) (nI 0) M = some (nI t, aUi M' 1 0 (M.1 1 0 + 1)) ∧ (∀ k, k ≠ 1 → M'.1 k = M.1 k) ∧ (∀ q, (q < 158 + 6 * t ∨ 164 + 6 * t ≤ q) → M'.1 1 q = M.1 1 q) ∧ ∀ k, k < 6 → M'.1 1 (158 + 6 * t + k) = 0 := by
  obtain ⟨n, hn⟩ := aF_s 7 (by omega)
  rw [hn]
  refine ⟨aUi (aUi (aUi (aUi (aUi (aUi M 1 (158 + 6 * t + 0) 0) 1 (158 + 6 * t + 1) 0) 1 (158 + 6 * t + 2) 0) 1 (158 + 6 * t + 3) 0) 1 (158 + 6 * t + 4) 0) 1 (158 + 6 * t + 5) 0, ?_, fun k hk => ?_, fun q hq => ?_, fun k hk => ?_⟩
  · simp (disch := omega) only [li_0, li_1, li_2, li_3, li_4, li_5, li_6, li_7, li_8, li_9, li_10, li_20, li_32, li_36, li_40, li_48, li_57, li_63, li_64, li_80, li_100, li_110, li_116, li_122, li_127, li_128, li_134, li_140, li_146, li_152, li_158, li_194, li_200, li_205, li_210, li_274, li_279, li_512, li_800, li_979, li_1000, nI_add, pk_mul, nI_clamp, chkN, leq_I, lt_I, eq_I, neq1_I, neq5_I, lt0_I, le0_I, Nat.not_lt_zero, oNl, ↓aLt_eq, ↓aB_some, ↓aO_some, ↓aO_none, ↓reduceIte, Nat.reduceAdd, Nat.reduceMul, Nat.reduceEqDiff, Nat.reduceLT, Nat.reduceLeDiff, reduceCtorEq, not_true_eq_false, not_false_eq_true, and_true, true_and, and_false, false_and, or_false, false_or, or_true, true_or, f_X7_tree_202, oNl, oLe, Nat.le_refl, aUi_rd, oNe, Nat.add_zero]
  · simp only [aUi_row hk]
  · simp (disch := omega) only [aUi_ne]
  · rcases (show k = 0 ∨ k = 1 ∨ k = 2 ∨ k = 3 ∨ k = 4 ∨ k = 5 by omega) with rfl | rfl | rfl | rfl | rfl | rfl <;> simp [aUi_rd]
set_option maxRecDepth 100000 in
theorem pu_tree_ok : pu_tree Rel := by
  intro K X M k v p h hR
  obtain ⟨⟨P, hV, hX, hM⟩, -, -⟩ := id hR
  have hn := hV.1
  have hg := hV.2.2.2.1
  have hbk := hV.2.2.1
  have hwd := hV.2.1
  have x4 : X.1 1 4 = nI (pN P) := hX.1
  have m0 : M.1 1 0 = nI (pN P) := hM.1
  unfold f_X6_tree f_X7_tree
  rcases in_casesN k 6 (by omega) X M with ⟨a, ha, rfl, o1, i1⟩ | ⟨-, o1, i1⟩
  · rcases in_casesN p 63 (by omega) X M with ⟨b, hb, rfl, o2, i2⟩ | ⟨-, o2, i2⟩
    · rcases in_casesN v 9 (by omega) X M with ⟨c, hc, rfl, o3, i3⟩ | ⟨-, o3, i3⟩
      · rcases a_cases1 h 1 7 (by omega) (by omega) with ⟨d, hd1, hd, rfl⟩ | h4
        · have i4 : f_X7_in (nI d) (nI 1) (nI 7) M = some (1, M) := q_in_in hd1 hd (by omega) M
          rcases q_taken hV hX hM (nI a) (nI c) (nI d) b (by omega) (pN P) 0 aF aF (by omega) (by have := aF_big; omega) (by have := aF_big; omega) with ⟨g1, g2⟩ | ⟨g1, g2, g3⟩
          · have g1 : f_X2_isTaken 1 (nI b) X = some (1, X) := by unfold f_X2_isTaken; exact g1
            simp (disch := omega) only [li_0, li_1, li_2, li_3, li_4, li_5, li_6, li_7, li_8, li_9, li_10, li_20, li_32, li_36, li_40, li_48, li_57, li_63, li_64, li_80, li_100, li_110, li_116, li_122, li_127, li_128, li_134, li_140, li_146, li_152, li_158, li_194, li_200, li_205, li_210, li_274, li_279, li_512, li_800, li_979, li_1000, nI_add, pk_mul, nI_clamp, chkN, leq_I, lt_I, eq_I, neq1_I, neq5_I, lt0_I, le0_I, Nat.not_lt_zero, oNl, ↓aLt_eq, ↓aB_some, ↓aO_some, ↓aO_none, ↓reduceIte, Nat.reduceAdd, Nat.reduceMul, Nat.reduceEqDiff, Nat.reduceLT, Nat.reduceLeDiff, reduceCtorEq, not_true_eq_false, not_false_eq_true, and_true, true_and, and_false, false_and, or_false, false_or, or_true, true_or, o1, i1, o2, i2, o3, i3, i4, g1, g2, oGe, oLe]
            exact ⟨_, X, M, rfl, rfl, hR⟩
          · have g2 : f_X2_isTaken 1 (nI b) X = some (0, X) := by unfold f_X2_isTaken; exact g2
            by_cases h6 : pN P = 6
            · simp (disch := omega) only [li_0, li_1, li_2, li_3, li_4, li_5, li_6, li_7, li_8, li_9, li_10, li_20, li_32, li_36, li_40, li_48, li_57, li_63, li_64, li_80, li_100, li_110, li_116, li_122, li_127, li_128, li_134, li_140, li_146, li_152, li_158, li_194, li_200, li_205, li_210, li_274, li_279, li_512, li_800, li_979, li_1000, nI_add, pk_mul, nI_clamp, chkN, leq_I, lt_I, eq_I, neq1_I, neq5_I, lt0_I, le0_I, Nat.not_lt_zero, oNl, ↓aLt_eq, ↓aB_some, ↓aO_some, ↓aO_none, ↓reduceIte, Nat.reduceAdd, Nat.reduceMul, Nat.reduceEqDiff, Nat.reduceLT, Nat.reduceLeDiff, reduceCtorEq, not_true_eq_false, not_false_eq_true, and_true, true_and, and_false, false_and, or_false, false_or, or_true, true_or, o1, i1, o2, i2, o3, i3, i4, g2, g3, oGe, oLe, x4]
              rw [f_X7_tree_49]
              simp (disch := omega) only [li_0, li_1, li_2, li_3, li_4, li_5, li_6, li_7, li_8, li_9, li_10, li_20, li_32, li_36, li_40, li_48, li_57, li_63, li_64, li_80, li_100, li_110, li_116, li_122, li_127, li_128, li_134, li_140, li_146, li_152, li_158, li_194, li_200, li_205, li_210, li_274, li_279, li_512, li_800, li_979, li_1000, nI_add, pk_mul, nI_clamp, chkN, leq_I, lt_I, eq_I, neq1_I, neq5_I, lt0_I, le0_I, Nat.not_lt_zero, oNl, ↓aLt_eq, ↓aB_some, ↓aO_some, ↓aO_none, ↓reduceIte, Nat.reduceAdd, Nat.reduceMul, Nat.reduceEqDiff, Nat.reduceLT, Nat.reduceLeDiff, reduceCtorEq, not_true_eq_false, not_false_eq_true, and_true, true_and, and_false, false_and, or_false, false_or, or_true, true_or, m0, h6, Nat.le_refl, oGe]
              exact ⟨_, X, M, rfl, rfl, hR⟩
            · simp (disch := omega) only [li_0, li_1, li_2, li_3, li_4, li_5, li_6, li_7, li_8, li_9, li_10, li_20, li_32, li_36, li_40, li_48, li_57, li_63, li_64, li_80, li_100, li_110, li_116, li_122, li_127, li_128, li_134, li_140, li_146, li_152, li_158, li_194, li_200, li_205, li_210, li_274, li_279, li_512, li_800, li_979, li_1000, nI_add, pk_mul, nI_clamp, chkN, leq_I, lt_I, eq_I, neq1_I, neq5_I, lt0_I, le0_I, Nat.not_lt_zero, oNl, ↓aLt_eq, ↓aB_some, ↓aO_some, ↓aO_none, ↓reduceIte, Nat.reduceAdd, Nat.reduceMul, Nat.reduceEqDiff, Nat.reduceLT, Nat.reduceLeDiff, reduceCtorEq, not_true_eq_false, not_false_eq_true, and_true, true_and, and_false, false_and, or_false, false_or, or_true, true_or, o1, i1, o2, i2, o3, i3, i4, g2, g3, oGe, oLe, oLt, x4]
              rw [f_X7_tree_49]
              simp (disch := omega) only [li_0, li_1, li_2, li_3, li_4, li_5, li_6, li_7, li_8, li_9, li_10, li_20, li_32, li_36, li_40, li_48, li_57, li_63, li_64, li_80, li_100, li_110, li_116, li_122, li_127, li_128, li_134, li_140, li_146, li_152, li_158, li_194, li_200, li_205, li_210, li_274, li_279, li_512, li_800, li_979, li_1000, nI_add, pk_mul, nI_clamp, chkN, leq_I, lt_I, eq_I, neq1_I, neq5_I, lt0_I, le0_I, Nat.not_lt_zero, oNl, ↓aLt_eq, ↓aB_some, ↓aO_some, ↓aO_none, ↓reduceIte, Nat.reduceAdd, Nat.reduceMul, Nat.reduceEqDiff, Nat.reduceLT, Nat.reduceLeDiff, reduceCtorEq, not_true_eq_false, not_false_eq_true, and_true, true_and, and_false, false_and, or_false, false_or, or_true, true_or, m0, h6, Nat.le_refl]
              obtain ⟨X1, e1, e2, e3, b0, b1, b2, b3, b4, b5, b6, b7, b8, b9⟩ := q_begin (10 + 2 * pN P) (nI (pN P)) (nI a) (nI c) (nI b) (nI d) X
              obtain ⟨M1, f1, f2, f3, f4⟩ := q_tree202 (t := pN P) (by omega) (aUi (aUi (aUi (aUi (aUi (aUi (aUi (aUi M 1 (110 + pN P) (nI a)) 1 (116 + pN P) (nI c)) 1 (122 + pN P) (nI b)) 1 (128 + pN P) (nI d)) 1 (134 + pN P) (nI 0)) 1 (140 + pN P) (nI 0)) 1 (146 + pN P) (nI 0)) 1 (152 + pN P) (nI 1))
              have y4 : X1.1 1 4 = nI (pN P) := by rw [e3 1 (by omega) (by omega)]; exact x4
              simp (disch := omega) only [li_0, li_1, li_2, li_3, li_4, li_5, li_6, li_7, li_8, li_9, li_10, li_20, li_32, li_36, li_40, li_48, li_57, li_63, li_64, li_80, li_100, li_110, li_116, li_122, li_127, li_128, li_134, li_140, li_146, li_152, li_158, li_194, li_200, li_205, li_210, li_274, li_279, li_512, li_800, li_979, li_1000, nI_add, pk_mul, nI_clamp, chkN, leq_I, lt_I, eq_I, neq1_I, neq5_I, lt0_I, le0_I, Nat.not_lt_zero, oNl, ↓aLt_eq, ↓aB_some, ↓aO_some, ↓aO_none, ↓reduceIte, Nat.reduceAdd, Nat.reduceMul, Nat.reduceEqDiff, Nat.reduceLT, Nat.reduceLeDiff, reduceCtorEq, not_true_eq_false, not_false_eq_true, and_true, true_and, and_false, false_and, or_false, false_or, or_true, true_or, e1, f1, y4, aUi_rd, oNe, m0]
              refine ⟨_, _, _, rfl, rfl, ?_⟩
              have f5 : ∀ k, k ≠ 1 → M1.1 k = M.1 k := fun k hk => by rw [f2 k hk]; simp only [aUi_row hk]
              refine Rel_upd (P := ((pN P + 1, pW P, pB P, pG P, pO P), P.2.1, P.2.2.1, (fun i j => if i = pN P then newT a c b d j else pT P i j), P.2.2.2.2)) hR ?_ ?_ ?_ (fun k hk => by rw [aUi_row (by omega), e3 k (by omega) (by omega)]) (by show X1.2 34 = _; rw [e2]) (by rw [aUi_row (by omega)]; exact f5 0 (by omega)) (by rw [aUi_row (by omega)]; exact f5 2 (by omega)) (by rw [aUi_row (by omega)]; exact f5 8 (by omega))
              · refine ⟨by show pN P + 1 ≤ 6; omega, hV.2.1, hV.2.2.1, hV.2.2.2.1, hV.2.2.2.2.1, hV.2.2.2.2.2.1, hV.2.2.2.2.2.2.1, fun i hi => ?_, fun i j hi hj => ?_, hV.2.2.2.2.2.2.2.2.2⟩
                · have hi : i < pN P + 1 := hi
                  show (∀ j, j < 14 → (if i = pN P then newT a c b d j else pT P i j) ≤ bdT j) ∧ 1 ≤ (if i = pN P then newT a c b d 3 else pT P i 3)
                  by_cases hc2 : i = pN P
                  · simp only [hc2, if_true]
                    refine ⟨fun j hj => ?_, hd1⟩
                    rcases (show j = 0 ∨ j = 1 ∨ j = 2 ∨ j = 3 ∨ j = 7 ∨ (j = 4 ∨ j = 5 ∨ j = 6 ∨ j = 8 ∨ j = 9 ∨ j = 10 ∨ j = 11 ∨ j = 12 ∨ j = 13) by omega) with rfl | rfl | rfl | rfl | rfl | hj
                    · exact ha
                    · exact hc
                    · exact hb
                    · exact hd
                    · exact Nat.le_refl 1
                    · rcases hj with rfl | rfl | rfl | rfl | rfl | rfl | rfl | rfl | rfl <;> exact Nat.zero_le _
                  · simp only [hc2, if_false]
                    exact hV.2.2.2.2.2.2.2.1 i (by omega)
                · have hi : i < pN P + 1 := hi
                  have hj : j < pN P + 1 := hj
                  show (if i = pN P then newT a c b d 2 else pT P i 2) = (if j = pN P then newT a c b d 2 else pT P j 2) → i = j
                  have hN : newT a c b d 2 = b := rfl
                  rw [hN]
                  intro e
                  by_cases h1 : i = pN P
                  · by_cases h2 : j = pN P
                    · omega
                    · rw [if_pos h1, if_neg h2] at e
                      exact absurd e.symm (g1 j (by omega) (by omega))
                  · by_cases h2 : j = pN P
                    · rw [if_neg h1, if_pos h2] at e
                      exact absurd e (g1 i (by omega) (by omega))
                    · rw [if_neg h1, if_neg h2] at e
                      exact hV.2.2.2.2.2.2.2.2.1 i j (by omega) (by omega) e
              · obtain ⟨a1, a2, a3, a4, a5, a6, a7, a8, a9, a10, a11⟩ := hX
                have r1 : ∀ k, k ≠ 10 + 2 * pN P → k ≠ 10 + 2 * pN P + 1 → k ≠ 1 → (aUi X1 1 4 (nI (pN P + 1))).1 k = X.1 k := fun k k1 k2 k3 => by rw [aUi_row k3, e3 k k1 k2]
                have r2 : ∀ j, j ≠ 4 → (aUi X1 1 4 (nI (pN P + 1))).1 1 j = X.1 1 j := fun j hj => by rw [aUi_ne hj, e3 1 (by omega) (by omega)]
                refine ⟨aUi_at, by rw [r2 3 (by omega)]; exact a2, by rw [r2 5 (by omega)]; exact a3, by rw [r2 2 (by omega)]; exact a4, by rw [r2 1 (by omega)]; exact a5, by rw [r1 _ (by omega) (by omega) (by omega)]; exact a6, by rw [r1 _ (by omega) (by omega) (by omega)]; exact a7, by rw [r1 _ (by omega) (by omega) (by omega)]; exact a8, by show X1.2 1 0 = _; rw [e2]; exact a9, fun i hi => ?_, RXW_congr (fun k k1 k2 => r1 k (by omega) (by omega) (by omega)) a11⟩
                have hi : i < pN P + 1 := hi
                by_cases hc2 : i = pN P
                · subst hc2
                  rw [aUi_row (by omega), aUi_row (by omega)]
                  refine ⟨?_, fun j hj => ?_, fun q hq => ?_⟩
                  · rw [show 1 + 9 + 2 * pN P = 10 + 2 * pN P by omega]; exact b0
                  · show X1.1 (1 + 9 + 2 * pN P) (j + 1) = nI (if pN P = pN P then newT a c b d j else pT P (pN P) j)
                    rw [if_pos rfl, show 1 + 9 + 2 * pN P = 10 + 2 * pN P by omega]
                    rcases (show j = 0 ∨ j = 1 ∨ j = 2 ∨ j = 3 ∨ j = 4 ∨ j = 5 ∨ j = 6 ∨ j = 7 by omega) with rfl | rfl | rfl | rfl | rfl | rfl | rfl | rfl
                    · exact b1
                    · exact b2
                    · exact b3
                    · exact b4
                    · exact b5
                    · exact b6
                    · exact b7
                    · exact b8
                  · show X1.1 (1 + 9 + 2 * pN P + 1) q = nI (if pN P = pN P then newT a c b d (8 + q) else pT P (pN P) (8 + q))
                    rw [if_pos rfl, show 1 + 9 + 2 * pN P = 10 + 2 * pN P by omega, b9 q hq]
                    rcases (show q = 0 ∨ q = 1 ∨ q = 2 ∨ q = 3 ∨ q = 4 ∨ q = 5 by omega) with rfl | rfl | rfl | rfl | rfl | rfl <;> rfl
                · rw [r1 _ (by omega) (by omega) (by omega), r1 _ (by omega) (by omega) (by omega)]
                  show X.1 (1 + 9 + 2 * i) 0 = nI i ∧ (∀ j, j < 8 → X.1 (1 + 9 + 2 * i) (j + 1) = nI (if i = pN P then newT a c b d j else pT P i j)) ∧ ∀ k, k < 6 → X.1 (1 + 9 + 2 * i + 1) k = nI (if i = pN P then newT a c b d (8 + k) else pT P i (8 + k))
                  simp only [hc2, if_false]
                  exact a10 i (by omega)
              · obtain ⟨a1, a2, a3, a4, a5, a6, a7, a8, a9, a10⟩ := hM
                have r : ∀ q, q ≠ 0 → (q < 158 + 6 * pN P ∨ 164 + 6 * pN P ≤ q) → ¬ (q = 110 + pN P ∨ q = 116 + pN P ∨ q = 122 + pN P ∨ q = 128 + pN P ∨ q = 134 + pN P ∨ q = 140 + pN P ∨ q = 146 + pN P ∨ q = 152 + pN P) → (aUi M1 1 0 (nI (pN P + 1))).1 1 q = M.1 1 q := fun q q0 q1 q2 => by
                  rw [aUi_ne q0, f3 q q1]
                  simp (disch := omega) only [aUi_ne]
                refine ⟨aUi_at, by rw [r _ (by omega) (by omega) (by omega)]; exact a2, by rw [r _ (by omega) (by omega) (by omega)]; exact a3, by rw [r _ (by omega) (by omega) (by omega)]; exact a4, by rw [r _ (by omega) (by omega) (by omega)]; exact a5, fun q hq => ?_, fun q hq => ?_, fun q hq => ?_, fun i hi => ⟨fun j hj => ?_, fun q hq => ?_⟩, ?_⟩
                · have hq' : q < pG P := hq
                  rw [r _ (by omega) (by omega) (by omega)]; exact a6 q hq
                · have hq' : q < pB P := hq
                  rw [r _ (by omega) (by omega) (by omega)]; exact a7 q hq
                · rw [r _ (by omega) (by omega) (by omega)]; exact a8 q hq
                · have hi : i < pN P + 1 := hi
                  show (aUi M1 1 0 (nI (pN P + 1))).1 1 (110 + 6 * j + i) = nI (if i = pN P then newT a c b d j else pT P i j)
                  by_cases hc2 : i = pN P
                  · rw [if_pos hc2, hc2, aUi_ne (by omega), f3 _ (by omega)]
                    rcases (show j = 0 ∨ j = 1 ∨ j = 2 ∨ j = 3 ∨ j = 4 ∨ j = 5 ∨ j = 6 ∨ j = 7 by omega) with rfl | rfl | rfl | rfl | rfl | rfl | rfl | rfl <;> (simp (disch := omega) only [aUi_ne, aUi_at, Nat.reduceMul, Nat.reduceAdd, Nat.mul_zero, Nat.add_zero]; rfl)
                  · rw [if_neg hc2, r _ (by omega) (by omega) (by omega)]
                    exact (a9 i (by omega)).1 j hj
                · have hi : i < pN P + 1 := hi
                  show (aUi M1 1 0 (nI (pN P + 1))).1 1 (158 + 6 * i + q) = nI (if i = pN P then newT a c b d (8 + q) else pT P i (8 + q))
                  by_cases hc2 : i = pN P
                  · rw [if_pos hc2, hc2, aUi_ne (by omega), f4 q hq]
                    rcases (show q = 0 ∨ q = 1 ∨ q = 2 ∨ q = 3 ∨ q = 4 ∨ q = 5 by omega) with rfl | rfl | rfl | rfl | rfl | rfl <;> rfl
                  · rw [if_neg hc2, r _ (by omega) (by omega) (by omega)]
                    exact (a9 i (by omega)).2 q hq
                · show RMW (pW P) (pWd P) _
                  rcases a10 with ⟨h1, h2⟩ | ⟨q, hq, h1, h2, h3, h4, h5⟩
                  · exact Or.inl ⟨by rw [r 4 (by omega) (by omega) (by omega)]; exact h1, h2⟩
                  · exact Or.inr ⟨q, hq, by rw [r 4 (by omega) (by omega) (by omega)]; exact h1, by rw [r _ (by omega) (by omega) (by omega)]; exact h2, by rw [r _ (by omega) (by omega) (by omega)]; exact h3, by rw [r _ (by omega) (by omega) (by omega)]; exact h4, fun z hz => by rw [r _ (by omega) (by omega) (by omega)]; exact h5 z hz⟩
        · have i4 : f_X7_in h (nI 1) (nI 7) M = some (0, M) := q_in_out h4 M
          rcases h4 with h4 | h4
          · simp (disch := omega) only [li_0, li_1, li_2, li_3, li_4, li_5, li_6, li_7, li_8, li_9, li_10, li_20, li_32, li_36, li_40, li_48, li_57, li_63, li_64, li_80, li_100, li_110, li_116, li_122, li_127, li_128, li_134, li_140, li_146, li_152, li_158, li_194, li_200, li_205, li_210, li_274, li_279, li_512, li_800, li_979, li_1000, nI_add, pk_mul, nI_clamp, chkN, leq_I, lt_I, eq_I, neq1_I, neq5_I, lt0_I, le0_I, Nat.not_lt_zero, oNl, ↓aLt_eq, ↓aB_some, ↓aO_some, ↓aO_none, ↓reduceIte, Nat.reduceAdd, Nat.reduceMul, Nat.reduceEqDiff, Nat.reduceLT, Nat.reduceLeDiff, reduceCtorEq, not_true_eq_false, not_false_eq_true, and_true, true_and, and_false, false_and, or_false, false_or, or_true, true_or, o1, i1, o2, i2, o3, i3, i4, h4]
            exact ⟨_, X, M, rfl, rfl, hR⟩
          · have h5 : ¬ h ≤ nI 7 := Int32.not_le.mpr h4
            simp (disch := omega) only [li_0, li_1, li_2, li_3, li_4, li_5, li_6, li_7, li_8, li_9, li_10, li_20, li_32, li_36, li_40, li_48, li_57, li_63, li_64, li_80, li_100, li_110, li_116, li_122, li_127, li_128, li_134, li_140, li_146, li_152, li_158, li_194, li_200, li_205, li_210, li_274, li_279, li_512, li_800, li_979, li_1000, nI_add, pk_mul, nI_clamp, chkN, leq_I, lt_I, eq_I, neq1_I, neq5_I, lt0_I, le0_I, Nat.not_lt_zero, oNl, ↓aLt_eq, ↓aB_some, ↓aO_some, ↓aO_none, ↓reduceIte, Nat.reduceAdd, Nat.reduceMul, Nat.reduceEqDiff, Nat.reduceLT, Nat.reduceLeDiff, reduceCtorEq, not_true_eq_false, not_false_eq_true, and_true, true_and, and_false, false_and, or_false, false_or, or_true, true_or, o1, i1, o2, i2, o3, i3, i4, h5, ite_self]
            exact ⟨_, X, M, rfl, rfl, hR⟩
      · simp (disch := omega) only [li_0, li_1, li_2, li_3, li_4, li_5, li_6, li_7, li_8, li_9, li_10, li_20, li_32, li_36, li_40, li_48, li_57, li_63, li_64, li_80, li_100, li_110, li_116, li_122, li_127, li_128, li_134, li_140, li_146, li_152, li_158, li_194, li_200, li_205, li_210, li_274, li_279, li_512, li_800, li_979, li_1000, nI_add, pk_mul, nI_clamp, chkN, leq_I, lt_I, eq_I, neq1_I, neq5_I, lt0_I, le0_I, Nat.not_lt_zero, oNl, ↓aLt_eq, ↓aB_some, ↓aO_some, ↓aO_none, ↓reduceIte, Nat.reduceAdd, Nat.reduceMul, Nat.reduceEqDiff, Nat.reduceLT, Nat.reduceLeDiff, reduceCtorEq, not_true_eq_false, not_false_eq_true, and_true, true_and, and_false, false_and, or_false, false_or, or_true, true_or, o1, i1, o2, i2, o3, i3]
        exact ⟨_, X, M, rfl, rfl, hR⟩
    · simp (disch := omega) only [li_0, li_1, li_2, li_3, li_4, li_5, li_6, li_7, li_8, li_9, li_10, li_20, li_32, li_36, li_40, li_48, li_57, li_63, li_64, li_80, li_100, li_110, li_116, li_122, li_127, li_128, li_134, li_140, li_146, li_152, li_158, li_194, li_200, li_205, li_210, li_274, li_279, li_512, li_800, li_979, li_1000, nI_add, pk_mul, nI_clamp, chkN, leq_I, lt_I, eq_I, neq1_I, neq5_I, lt0_I, le0_I, Nat.not_lt_zero, oNl, ↓aLt_eq, ↓aB_some, ↓aO_some, ↓aO_none, ↓reduceIte, Nat.reduceAdd, Nat.reduceMul, Nat.reduceEqDiff, Nat.reduceLT, Nat.reduceLeDiff, reduceCtorEq, not_true_eq_false, not_false_eq_true, and_true, true_and, and_false, false_and, or_false, false_or, or_true, true_or, o1, i1, o2, i2]
      exact ⟨_, X, M, rfl, rfl, hR⟩
  · simp (disch := omega) only [li_0, li_1, li_2, li_3, li_4, li_5, li_6, li_7, li_8, li_9, li_10, li_20, li_32, li_36, li_40, li_48, li_57, li_63, li_64, li_80, li_100, li_110, li_116, li_122, li_127, li_128, li_134, li_140, li_146, li_152, li_158, li_194, li_200, li_205, li_210, li_274, li_279, li_512, li_800, li_979, li_1000, nI_add, pk_mul, nI_clamp, chkN, leq_I, lt_I, eq_I, neq1_I, neq5_I, lt0_I, le0_I, Nat.not_lt_zero, oNl, ↓aLt_eq, ↓aB_some, ↓aO_some, ↓aO_none, ↓reduceIte, Nat.reduceAdd, Nat.reduceMul, Nat.reduceEqDiff, Nat.reduceLT, Nat.reduceLeDiff, reduceCtorEq, not_true_eq_false, not_false_eq_true, and_true, true_and, and_false, false_and, or_false, false_or, or_true, true_or, o1, i1]
    exact ⟨_, X, M, rfl, rfl, hR⟩

/-! PURE PART: the start, calls that only look, the first calls -/
theorem aFit_0 : aFit (fun _ => 0) 100 = true := by decide
theorem Rel0 : Rel none sx0 sm0 := by
  refine ⟨⟨((0, 0, 0, 0, 0), (fun _ => 0), (fun _ => 0), (fun _ _ => 0), 0, (3, 2, [])), ?_, ?_, ?_⟩, ⟨0, by omega, rfl, rfl, fun i h => absurd h (by omega)⟩, Or.inl ⟨rfl, rfl⟩⟩
  · refine ⟨by decide, by decide, by decide, by decide, by decide, fun i h => absurd h (Nat.not_lt_zero i), fun i h => absurd h (Nat.not_lt_zero i), fun i h => absurd h (Nat.not_lt_zero i), fun i j h => absurd h (Nat.not_lt_zero i), by decide, by decide, by decide, by decide, fun c h => absurd h List.not_mem_nil⟩
  · refine ⟨rfl, rfl, rfl, rfl, rfl, fun i h => absurd h (Nat.not_lt_zero i), aFit_0, fun i h => absurd h (Nat.not_lt_zero i), rfl, fun i h => absurd h (Nat.not_lt_zero i), rfl, rfl, rfl, fun i h => absurd h (Nat.not_lt_zero i), fun i h => absurd h (Nat.not_lt_zero i), fun i h => absurd h (Nat.not_lt_zero i)⟩
  · refine ⟨rfl, rfl, rfl, rfl, rfl, fun i h => absurd h (Nat.not_lt_zero i), fun i h => absurd h (Nat.not_lt_zero i), fun p hp => ?_, fun i h => absurd h (Nat.not_lt_zero i), Or.inl ⟨rfl, rfl⟩⟩
    show (upd (fun _ => 0) 4 (-1)) (210 + p) = _
    have e : (pTh ((0, 0, 0, 0, 0), (fun _ => 0), (fun _ => 0), (fun _ _ => 0), 0, (3, 2, []))).toBitVec.getLsbD p = false := by
      show (0 : Int64).toBitVec.getLsbD p = false
      simp
    rw [e, pk_un (by omega)]
    rfl
theorem RXW_congr {w : Nat} {W : PW} {X X' : aSt} (h : ∀ k, w ≤ k → k < w + 5 → X'.1 k = X.1 k) (hR : RXW w W X) : RXW w W X' := by
  unfold RXW at hR ⊢
  rw [h w (by omega) (by omega), h (w + 1) (by omega) (by omega), h (w + 2) (by omega) (by omega), h (w + 3) (by omega) (by omega), h (w + 4) (by omega) (by omega)]
  exact hR
theorem RX_congr {g : Nat} {P : PS} {X X' : aSt} (hV : PV P) (h1 : ∀ k, g ≤ k → k < g + 21 → X'.1 k = X.1 k) (h2 : X'.2 g = X.2 g) (h : RX g P X) : RX g P X' := by
  obtain ⟨a1, a2, a3, a4, a5, a6, a7, a8, a9, a10, a11⟩ := h
  have hn := hV.1
  refine ⟨by rw [h1 g (by omega) (by omega)]; exact a1, by rw [h1 g (by omega) (by omega)]; exact a2, by rw [h1 g (by omega) (by omega)]; exact a3, by rw [h1 g (by omega) (by omega)]; exact a4, by rw [h1 g (by omega) (by omega)]; exact a5, fun i hi => by rw [h1 (g + 1) (by omega) (by omega)]; exact a6 i hi, by rw [h1 (g + 1) (by omega) (by omega)]; exact a7, fun i hi => by rw [h1 (g + 2) (by omega) (by omega)]; exact a8 i hi, by rw [h2]; exact a9, fun i hi => ?_, RXW_congr (fun k hk1 hk2 => h1 k (by omega) (by omega)) a11⟩
  rw [h1 (g + 9 + 2 * i) (by omega) (by omega), h1 (g + 9 + 2 * i + 1) (by omega) (by omega)]
  exact a10 i hi
theorem Rel_look {K : Option Nat} {X M X' M' : aSt} (h : Rel K X M) (hX : XF X X') (hM : MF M M') : Rel K X' M' := by
  obtain ⟨⟨P, hV, hRX, hRM⟩, ⟨n, hn, b1, b2, b3⟩, hK⟩ := h
  refine ⟨⟨P, hV, RX_congr hV (fun k h1 h2 => hX.1 k (Or.inl (by omega))) (hX.2 1 (by omega)) hRX, by rw [hM.1]; exact hRM⟩, ⟨n, hn, by rw [hX.1 30 (by omega)]; exact b1, by rw [hM.2.2.2.2]; exact b2, fun i h1 h2 => by rw [hX.1 31 (by omega), hM.2.2.1]; exact b3 i h1 h2⟩, ?_⟩
  rcases hK with ⟨e, h⟩ | ⟨e, h, Q, hVQ, hQ, hMQ⟩
  · exact Or.inl ⟨e, by rw [hM.2.2.2.1]; exact h⟩
  · exact Or.inr ⟨e, by rw [hM.2.2.2.1]; exact h, Q, hVQ, RX_congr hVQ (fun k h1 h2 => hX.1 k (by omega)) (hX.2 34 (by omega)) hQ, by rw [hM.2.1]; exact hMQ⟩
theorem XF.rf (S : aSt) : XF S S := ⟨fun _ _ => rfl, fun _ _ => rfl⟩
theorem MF.rf (S : aSt) : MF S S := ⟨rfl, rfl, rfl, rfl, rfl⟩
/-- a number told as a TREE's -/
theorem tree_cases (x : Int32) {P : PS} {X M : aSt} (hV : PV P) (hX : RX 1 P X) (hM : RM P (M.1 1)) : (∃ i, i < pN P ∧ x = nI i ∧ f_X2_find 1 x X = some (some (10 + 2 * i), X) ∧ f_X7_isTree x M = some (1, M)) ∨ (f_X2_find 1 x X = some (none, X) ∧ f_X7_isTree x M = some (0, M)) := by
  have e1 : X.1 1 4 = nI (pN P) := hX.1
  have e2 : M.1 1 0 = nI (pN P) := hM.1
  have hn := hV.1
  by_cases h0 : pN P = 0
  · refine Or.inr ⟨?_, ?_⟩
    · unfold f_X2_find
      rw [e1, h0]
      have : f_X6_outside x (nI 0 - 1) X = some (1, X) := by
        unfold f_X6_outside
        by_cases hx : x < 0
        · rw [if_pos hx]
        · rw [if_neg hx, if_neg]
          obtain ⟨j, hj, rfl⟩ := nI_of hx
          intro h
          have h1 := Int32.le_iff_toInt_le.mp h
          rw [nI_toInt hj] at h1
          have h2 : (nI 0 - 1 : Int32).toInt = -1 := by decide
          omega
      rw [this]
      rfl
    · unfold f_X7_isTree
      rw [e2, h0]
      have : f_X7_in x 0 (nI 0 - 1) M = some (0, M) := by
        unfold f_X7_in
        by_cases hx : x < 0
        · rw [if_pos hx]
        · rw [if_neg hx, if_pos]
          obtain ⟨j, hj, rfl⟩ := nI_of hx
          apply Int32.lt_iff_toInt_lt.mpr
          rw [nI_toInt hj]
          have h2 : (nI 0 - 1 : Int32).toInt = -1 := by decide
          omega
      rw [this]
      rfl
  · have e3 : nI (pN P) - 1 = nI (pN P - 1) := pk_sub (b := 1) (by omega)
    rcases a_cases x (pN P - 1) (by omega) with ⟨j, hj, rfl⟩ | h
    · refine Or.inl ⟨j, by omega, rfl, ?_, ?_⟩
      · unfold f_X2_find
        rw [e1, e3, q_out_in hj (by omega)]
        show (if (0 : Int32) = 0 then (if nI j < 0 ∨ 6 ≤ (nI j).toNatClampNeg then none else some (some (1 + 9 + 2 * (nI j).toNatClampNeg), X)) else some (none, X)) = _
        rw [if_pos rfl, if_neg (q_chk (by omega) (by omega)), nI_clamp (by omega)]
      · unfold f_X7_isTree
        rw [e2, e3]
        have := q_in_in (j := j) (m := 0) (n := pN P - 1) (Nat.zero_le _) hj (by omega) M
        rw [show (0 : Int32) = nI 0 from rfl, this]
        rfl
    · refine Or.inr ⟨?_, ?_⟩
      · unfold f_X2_find
        rw [e1, e3, q_out_out h]
        rfl
      · unfold f_X7_isTree
        rw [e2, e3]
        have := q_in_out (m := 0) (n := pN P - 1) h M
        rw [show (0 : Int32) = nI 0 from rfl, this]
        rfl
theorem ne_out {x : Int32} {n k : Nat} (h : x < 0 ∨ nI n < x) (hk : k ≤ n) (hn : n < 2 ^ 31) : ¬ x = nI k := by
  rintro rfl
  rcases h with h | h
  · exact nI_pos (by omega) h
  · exact nI_nlt hk hn h
theorem q_tellsOf {P : PS} {M : aSt} (hM : RM P (M.1 1)) (hV : PV P) : f_X7_tellsOf 200 3 M = some (nI (pWd P).1, M) ∧ f_X7_tellsOf 205 2 M = some (nI (pWd P).2.1, M) := by
  rcases hM.2.2.2.2.2.2.2.2.2 with ⟨h1, h2⟩ | ⟨h, hh, h1, h2, h3, -⟩
  · unfold f_X7_tellsOf
    rw [h1, h2]
    exact ⟨rfl, rfl⟩
  · have hw := hV.2.1
    unfold f_X7_tellsOf
    have e1 : (200 : Int32) + nI h = nI (200 + h) := nI_add 200 h
    have e2 : (205 : Int32) + nI h = nI (205 + h) := nI_add 205 h
    have hne : ¬ nI h = -1 := fun e => by
      have h9 := congrArg Int32.toInt e
      rw [nI_toInt (by omega)] at h9
      have : (-1 : Int32).toInt = -1 := by decide
      omega
    rw [h1, e1, e2, if_neg hne, if_neg hne, if_neg (q_chk (by omega) (by omega)), if_neg (q_chk (by omega) (by omega)), nI_clamp (by omega), nI_clamp (by omega), h2, h3]
    exact ⟨rfl, rfl⟩
theorem pu_told_ok : pu_told Rel := by
  intro K X M p hR
  obtain ⟨⟨P, hV, hX, hM⟩, -, -⟩ := id hR
  obtain ⟨t1, t2⟩ := q_tellsOf hM hV
  have w1 : X.1 (1 + 3) 2 = nI (pWd P).1 := hX.2.2.2.2.2.2.2.2.2.2.2.1
  have w2 : X.1 (1 + 3) 3 = nI (pWd P).2.1 := hX.2.2.2.2.2.2.2.2.2.2.2.2.1
  have w3 : X.1 1 1 = nI (pO P) := hX.2.2.2.2.1
  have w4 : M.1 1 5 = nI (pO P) := hM.2.2.2.2.1
  unfold f_X6_told f_X7_told
  rw [t1, t2, w1, w2, w3, w4]
  by_cases h0 : p = 0
  · rw [if_pos h0, if_pos h0]; exact ⟨_, X, M, rfl, rfl, hR⟩
  · rw [if_neg h0, if_neg h0]
    by_cases h1 : p = 1
    · rw [if_pos h1, if_pos h1]; exact ⟨_, X, M, rfl, rfl, hR⟩
    · rw [if_neg h1, if_neg h1]
      by_cases h2 : p = 2
      · rw [if_pos h2, if_pos h2]; exact ⟨_, X, M, rfl, rfl, hR⟩
      · rw [if_neg h2, if_neg h2]; exact ⟨_, X, M, rfl, rfl, hR⟩

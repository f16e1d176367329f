/-! PURE PART: calls that write a number -/
theorem aUi_rd (S : aSt) (k j a b : Nat) (x : Int32) : (aUi S k j x).1 a b = if a = k ∧ b = j then x else S.1 a b := by
  by_cases h : a = k
  · subst h
    by_cases h2 : b = j
    · subst h2; simp [aUi_at]
    · simp [aUi_ne h2, h2]
  · simp [aUi_row h, h]
theorem upd_rd (f : Nat → Int32) (k j : Nat) (x : Int32) : upd f k x j = if j = k then x else f j := rfl
theorem Rel_upd {K : Option Nat} {X M X' M' : aSt} {P : PS} (h : Rel K X M) (hV : PV P) (hX : RX 1 P X') (hM : RM P (M'.1 1)) (h1 : ∀ k, (k = 30 ∨ k = 31 ∨ 34 ≤ k) → X'.1 k = X.1 k) (h2 : X'.2 34 = X.2 34) (h3 : M'.1 0 = M.1 0) (h4 : M'.1 2 = M.1 2) (h5 : M'.1 8 = M.1 8) : Rel K X' M' := by
  obtain ⟨-, ⟨n, hn, b1, b2, b3⟩, hK⟩ := h
  refine ⟨⟨P, hV, hX, hM⟩, ⟨n, hn, by rw [h1 30 (by omega)]; exact b1, by rw [h3]; exact b2, fun i q1 q2 => by rw [h1 31 (by omega), h5]; exact b3 i q1 q2⟩, ?_⟩
  rcases hK with ⟨e, h⟩ | ⟨e, h, Q, hVQ, hQ, hMQ⟩
  · exact Or.inl ⟨e, by rw [h3]; exact h⟩
  · exact Or.inr ⟨e, by rw [h3]; exact h, Q, hVQ, RX_congr hVQ (fun k q1 q2 => h1 k (by omega)) h2 hQ, by rw [h4]; exact hMQ⟩
def setT (P : PS) (i j v : Nat) : PS := (P.1, P.2.1, P.2.2.1, (fun a b => if a = i ∧ b = j then v else pT P a b), P.2.2.2.2.1, P.2.2.2.2.2)
theorem PV_setT {P : PS} {i j v : Nat} (h : PV P) (hv : v ≤ bdT j) (h2 : j ≠ 2) (h3 : j ≠ 3) : PV (setT P i j v) := by
  obtain ⟨a1, a2, a3, a4, a5, a6, a7, a8, a9, a10⟩ := h
  refine ⟨a1, a2, a3, a4, a5, a6, a7, fun a ha => ⟨fun b hb => ?_, ?_⟩, fun a b ha hb e => a9 a b ha hb ?_, a10⟩
  · show (if a = i ∧ b = j then v else pT P a b) ≤ bdT b
    by_cases hc : a = i ∧ b = j
    · rw [if_pos hc, hc.2]; exact hv
    · rw [if_neg hc]; exact (a8 a ha).1 b hb
  · show 1 ≤ (if a = i ∧ 3 = j then v else pT P a 3)
    rw [if_neg (fun hc => h3 hc.2.symm)]
    exact (a8 a ha).2
  · have e : (if a = i ∧ 2 = j then v else pT P a 2) = (if b = i ∧ 2 = j then v else pT P b 2) := e
    rw [if_neg (fun hc => h2 hc.2.symm), if_neg (fun hc => h2 hc.2.symm)] at e
    exact e
theorem RX_setT {P : PS} {X : aSt} {i j v : Nat} (hV : PV P) (h : RX 1 P X) (hi : i < pN P) (hj : j < 8) : RX 1 (setT P i j v) (aUi X (10 + 2 * i) (j + 1) (nI v)) := by
  obtain ⟨a1, a2, a3, a4, a5, a6, a7, a8, a9, a10, a11⟩ := h
  have hn := hV.1
  have row : ∀ k, k ≠ 10 + 2 * i → (aUi X (10 + 2 * i) (j + 1) (nI v)).1 k = X.1 k := fun k hk => aUi_row hk
  refine ⟨by rw [row 1 (by omega)]; exact a1, by rw [row 1 (by omega)]; exact a2, by rw [row 1 (by omega)]; exact a3, by rw [row 1 (by omega)]; exact a4, by rw [row 1 (by omega)]; exact a5, by rw [row (1 + 1) (by omega)]; exact a6, by rw [row (1 + 1) (by omega)]; exact a7, by rw [row (1 + 2) (by omega)]; exact a8, a9, fun a ha => ?_, RXW_congr (fun k h1 h2 => row k (by omega)) a11⟩
  obtain ⟨b1, b2, b3⟩ := a10 a ha
  refine ⟨?_, fun b hb => ?_, fun b hb => ?_⟩
  · rw [aUi_rd, if_neg (by omega)]; exact b1
  · rw [aUi_rd]
    show (if 1 + 9 + 2 * a = 10 + 2 * i ∧ b + 1 = j + 1 then nI v else X.1 (1 + 9 + 2 * a) (b + 1)) = nI (if a = i ∧ b = j then v else pT P a b)
    by_cases hc : a = i ∧ b = j
    · rw [if_pos hc, if_pos (by omega)]
    · rw [if_neg hc, if_neg (by omega)]; exact b2 b hb
  · rw [row _ (by omega)]
    show X.1 (1 + 9 + 2 * a + 1) b = nI (if a = i ∧ 8 + b = j then v else pT P a (8 + b))
    rw [if_neg (by omega)]
    exact b3 b hb
theorem RX_setL {P : PS} {X : aSt} {i k v : Nat} (hV : PV P) (h : RX 1 P X) (hi : i < pN P) (hk : k < 6) : RX 1 (setT P i (8 + k) v) (aUi X (10 + 2 * i + 1) k (nI v)) := by
  obtain ⟨a1, a2, a3, a4, a5, a6, a7, a8, a9, a10, a11⟩ := h
  have hn := hV.1
  have row : ∀ q, q ≠ 10 + 2 * i + 1 → (aUi X (10 + 2 * i + 1) k (nI v)).1 q = X.1 q := fun q hq => aUi_row hq
  refine ⟨by rw [row 1 (by omega)]; exact a1, by rw [row 1 (by omega)]; exact a2, by rw [row 1 (by omega)]; exact a3, by rw [row 1 (by omega)]; exact a4, by rw [row 1 (by omega)]; exact a5, by rw [row (1 + 1) (by omega)]; exact a6, by rw [row (1 + 1) (by omega)]; exact a7, by rw [row (1 + 2) (by omega)]; exact a8, a9, fun a ha => ?_, RXW_congr (fun q h1 h2 => row q (by omega)) a11⟩
  obtain ⟨b1, b2, b3⟩ := a10 a ha
  refine ⟨?_, fun b hb => ?_, fun b hb => ?_⟩
  · rw [row _ (by omega)]; exact b1
  · rw [row _ (by omega)]
    show X.1 (1 + 9 + 2 * a) (b + 1) = nI (if a = i ∧ b = 8 + k then v else pT P a b)
    rw [if_neg (by omega)]
    exact b2 b hb
  · rw [aUi_rd]
    show (if 1 + 9 + 2 * a + 1 = 10 + 2 * i + 1 ∧ b = k then nI v else X.1 (1 + 9 + 2 * a + 1) b) = nI (if a = i ∧ 8 + b = 8 + k then v else pT P a (8 + b))
    by_cases hc : a = i ∧ b = k
    · rw [if_pos (by omega), if_pos (by omega)]
    · rw [if_neg (by omega), if_neg (by omega)]; exact b3 b hb
/-- a place of s that belongs to the trees -/
theorem RM_tree {P : PS} {s : Nat → Int32} {i j v d : Nat} (hV : PV P) (h : RM P s) (hd : (j < 8 ∧ d = 110 + 6 * j + i) ∨ (∃ k, k < 6 ∧ j = 8 + k ∧ d = 158 + 6 * i + k)) (hi : i < pN P) : RM (setT P i j v) (upd s d (nI v)) := by
  obtain ⟨a1, a2, a3, a4, a5, a6, a7, a8, a9, a10⟩ := h
  have hn := hV.1
  have hw := hV.2.1
  have hg := hV.2.2.2.1
  have hb := hV.2.2.1
  have hr : 110 ≤ d ∧ d < 194 := by
    rcases hd with ⟨h1, h2⟩ | ⟨k, h1, h2, h3⟩ <;> omega
  have row : ∀ q, q ≠ d → upd s d (nI v) q = s q := fun q hq => pk_un hq
  refine ⟨by rw [row 0 (by omega)]; exact a1, by rw [row 1 (by omega)]; exact a2, by rw [row 2 (by omega)]; exact a3, by rw [row 3 (by omega)]; exact a4, by rw [row 5 (by omega)]; exact a5, fun q hq => ?_, fun q hq => ?_, fun p hp => ?_, fun a ha => ⟨fun b hb => ?_, fun b hb => ?_⟩, ?_⟩
  · have hq' : q < pG P := hq
    rw [row (10 + q) (by omega)]; exact a6 q hq
  · have hq' : q < pB P := hq
    rw [row (194 + q) (by omega)]; exact a7 q hq
  · rw [row (210 + p) (by omega)]; exact a8 p hp
  · have ha' : a < pN P := ha
    show upd s d (nI v) (110 + 6 * b + a) = nI (if a = i ∧ b = j then v else pT P a b)
    by_cases hc : a = i ∧ b = j
    · rw [if_pos hc, show d = 110 + 6 * b + a by rcases hd with ⟨h1, h2⟩ | ⟨k, h1, h2, h3⟩ <;> omega, pk_us]
    · rw [if_neg hc, row _ (by rcases hd with ⟨h1, h2⟩ | ⟨k, h1, h2, h3⟩ <;> omega)]
      exact (a9 a ha).1 b hb
  · have ha' : a < pN P := ha
    show upd s d (nI v) (158 + 6 * a + b) = nI (if a = i ∧ 8 + b = j then v else pT P a (8 + b))
    by_cases hc : a = i ∧ 8 + b = j
    · rw [if_pos hc, show d = 158 + 6 * a + b by rcases hd with ⟨h1, h2⟩ | ⟨k, h1, h2, h3⟩ <;> omega, pk_us]
    · rw [if_neg hc, row _ (by rcases hd with ⟨h1, h2⟩ | ⟨k, h1, h2, h3⟩ <;> omega)]
      exact (a9 a ha).2 b hb
  · rcases a10 with ⟨h1, h2⟩ | ⟨q, hq, h1, h2, h3, h4, h5⟩
    · exact Or.inl ⟨by rw [row 4 (by omega)]; exact h1, h2⟩
    · exact Or.inr ⟨q, hq, by rw [row 4 (by omega)]; exact h1, by rw [row _ (by omega)]; exact h2, by rw [row _ (by omega)]; exact h3, by rw [row _ (by omega)]; exact h4, fun z hz => by rw [row _ (by omega)]; exact h5 z hz⟩

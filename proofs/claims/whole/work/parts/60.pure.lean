/-! PURE PART: numbers, small functions -/
theorem a_cases (x : Int32) (n : Nat) (hn : n < 2 ^ 31) : (∃ j, j ≤ n ∧ x = nI j) ∨ (x < 0 ∨ nI n < x) := by
  by_cases h0 : x < 0
  · exact Or.inr (Or.inl h0)
  · obtain ⟨j, hj, rfl⟩ := nI_of h0
    by_cases h1 : j ≤ n
    · exact Or.inl ⟨j, h1, rfl⟩
    · exact Or.inr (Or.inr (nI_lt (by omega) hj))
theorem a_cases1 (x : Int32) (m n : Nat) (hn : n < 2 ^ 31) (hm : m ≤ n) : (∃ j, m ≤ j ∧ j ≤ n ∧ x = nI j) ∨ (x < nI m ∨ nI n < x) := by
  rcases a_cases x n hn with ⟨j, hj, rfl⟩ | h | h
  · by_cases h : m ≤ j
    · exact Or.inl ⟨j, h, hj, rfl⟩
    · exact Or.inr (Or.inl (nI_lt (by omega) (by omega)))
  · refine Or.inr (Or.inl ?_)
    have h1 : x.toInt < 0 := by simpa using Int32.lt_iff_toInt_lt.mp h
    exact Int32.lt_iff_toInt_lt.mpr (by rw [nI_toInt (by omega)]; omega)
  · exact Or.inr (Or.inr h)
theorem q_out_in {j n : Nat} (h : j ≤ n) (hn : n < 2 ^ 31) (S : aSt) : f_X6_outside (nI j) (nI n) S = some (0, S) := by
  unfold f_X6_outside
  rw [if_neg (nI_pos (by omega)), if_pos (nI_le h hn)]
theorem q_out_out {x : Int32} {n : Nat} (h : x < 0 ∨ nI n < x) (S : aSt) : f_X6_outside x (nI n) S = some (1, S) := by
  unfold f_X6_outside
  rcases h with h | h
  · rw [if_pos h]
  · by_cases h0 : x < 0
    · rw [if_pos h0]
    · rw [if_neg h0, if_neg (Int32.not_le.mpr h)]
theorem q_in_in {j m n : Nat} (h1 : m ≤ j) (h : j ≤ n) (hn : n < 2 ^ 31) (S : aSt) : f_X7_in (nI j) (nI m) (nI n) S = some (1, S) := by
  unfold f_X7_in
  rw [if_neg (nI_nlt h1 (by omega)), if_neg (nI_nlt h hn)]
theorem q_in_out {x : Int32} {m n : Nat} (h : x < nI m ∨ nI n < x) (S : aSt) : f_X7_in x (nI m) (nI n) S = some (0, S) := by
  unfold f_X7_in
  rcases h with h | h
  · rw [if_pos h]
  · by_cases h0 : x < nI m
    · rw [if_pos h0]
    · rw [if_neg h0, if_pos h]
theorem q_chk {m n : Nat} (h : m < n) (hn : n < 2 ^ 31) : ¬ (nI m < 0 ∨ n ≤ (nI m).toNatClampNeg) := nI_in h hn
/-! the two states, as one mathematical one. P: ((trees, woods, booked, signs, odds), tape, book, T, things, wood); T i j: of tree i 0 kind, 1 v, 2 place, 3 height, 4 lean, 5 way, 6 hollow, 7 standing, 8.. plan; wood: (wedge, rope, clauses), a clause: (which, n, signs) -/
abbrev PW : Type := Nat × Nat × List (Nat × Nat × List Nat)
abbrev PS : Type := (Nat × Nat × Nat × Nat × Nat) × (Nat → Nat) × (Nat → Nat) × (Nat → Nat → Nat) × Int64 × PW
def pN (P : PS) : Nat := P.1.1
def pW (P : PS) : Nat := P.1.2.1
def pB (P : PS) : Nat := P.1.2.2.1
def pG (P : PS) : Nat := P.1.2.2.2.1
def pO (P : PS) : Nat := P.1.2.2.2.2
def pTape (P : PS) : Nat → Nat := P.2.1
def pBook (P : PS) : Nat → Nat := P.2.2.1
def pT (P : PS) : Nat → Nat → Nat := P.2.2.2.1
def pTh (P : PS) : Int64 := P.2.2.2.2.1
def pWd (P : PS) : PW := P.2.2.2.2.2
def bdT (j : Nat) : Nat := [6, 9, 63, 7, 9, 7, 9, 1, 7, 9, 9, 9, 7, 9].getD j 0
/-- signs of a clause: 0 not, 1 and, 2 or, 3 + (letter + 6 relation + 18 n) a test -/
def sgX (c : Nat) : Int32 := if c = 0 then -1 else if c = 1 then -2 else if c = 2 then -3 else nI (512 * ((c - 3) % 6) + 128 * ((c - 3) / 6 % 3) + (c - 3) / 18)
def sgM (c : Nat) : Int32 := if c = 0 then -1 else if c = 1 then -2 else if c = 2 then -3 else nI ((c - 3) % 6 + 8 * ((c - 3) / 6 % 3) + 32 * ((c - 3) / 18))
/-- how high the waiting ones stand behind signs that begin with k of them (none: they don't fit, or more than 16) -/
def sgH : List Nat → Nat → Option Nat
  | [], k => some k
  | c :: r, k => if c = 0 then (if k = 0 then none else sgH r k) else if c = 1 ∨ c = 2 then (if k < 2 then none else sgH r (k - 1)) else if 16 ≤ k ∨ 18 * 100 + 3 ≤ c then none else sgH r (k + 1)
def clOk (c : Nat × Nat × List Nat) : Prop := c.1 < 3 ∧ c.2.1 < 100 ∧ sgH c.2.2 0 = some 1
def wdOk (w : PW) : Prop := w.1 < 100 ∧ w.2.1 < 100 ∧ w.2.2.length ≤ 10 ∧ (w.2.2.map (fun c => c.2.2.length)).sum + w.2.2.length ≤ 100 ∧ ∀ c ∈ w.2.2, clOk c
def clEnds : Nat → List (Nat × Nat × List Nat) → List Nat
  | _, [] => []
  | o, c :: r => (o + c.2.2.length) :: clEnds (o + c.2.2.length) r
def clM (c : Nat × Nat × List Nat) : List Int32 := c.2.2.map sgM ++ [(if c.1 = 0 then (-10 : Int32) else if c.1 = 1 then -200 else -400) - nI c.2.1]
def RXW (w : Nat) (W : PW) (X : aSt) : Prop := X.1 w 0 = nI W.2.2.length ∧ X.1 w 2 = nI W.1 ∧ X.1 w 3 = nI W.2.1 ∧ (∀ i (h : i < W.2.2.length), X.1 (w + 1) i = nI W.2.2[i].1 ∧ X.1 (w + 2) i = nI W.2.2[i].2.1) ∧ (∀ i (h : i < (clEnds 0 W.2.2).length), X.1 (w + 3) i = nI (clEnds 0 W.2.2)[i]) ∧ ∀ i (h : i < (W.2.2.flatMap (fun c => c.2.2)).length), X.1 (w + 4) i = sgX (W.2.2.flatMap (fun c => c.2.2))[i]
def RMW (n : Nat) (W : PW) (s : Nat → Int32) : Prop := (s 4 = -1 ∧ W = (3, 2, [])) ∨ ∃ h, h < n ∧ s 4 = nI h ∧ s (200 + h) = nI W.1 ∧ s (205 + h) = nI W.2.1 ∧ s (274 + h) = nI (W.2.2.flatMap clM).length ∧ ∀ i (hi : i < (W.2.2.flatMap clM).length), s (279 + 140 * h + i) = (W.2.2.flatMap clM)[i]
def PV (P : PS) : Prop := pN P ≤ 6 ∧ pW P ≤ 5 ∧ pB P ≤ 6 ∧ pG P ≤ 100 ∧ pO P ≤ 10 ∧ (∀ i, i < pG P → pTape P i < 128) ∧ (∀ i, i < pB P → pBook P i < 8) ∧ (∀ i, i < pN P → (∀ j, j < 14 → pT P i j ≤ bdT j) ∧ 1 ≤ pT P i 3) ∧ (∀ i j, i < pN P → j < pN P → pT P i 2 = pT P j 2 → i = j) ∧ wdOk (pWd P)
def RX (g : Nat) (P : PS) (X : aSt) : Prop := X.1 g 4 = nI (pN P) ∧ X.1 g 3 = nI (pW P) ∧ X.1 g 5 = nI (pB P) ∧ X.1 g 2 = nI (pG P) ∧ X.1 g 1 = nI (pO P) ∧ (∀ i, i < pG P → X.1 (g + 1) i = nI (pTape P i)) ∧ aFit (X.1 (g + 1)) 100 = true ∧ (∀ i, i < pB P → X.1 (g + 2) i = nI (pBook P i)) ∧ X.2 g 0 = pTh P ∧ (∀ i, i < pN P → X.1 (g + 9 + 2 * i) 0 = nI i ∧ (∀ j, j < 8 → X.1 (g + 9 + 2 * i) (j + 1) = nI (pT P i j)) ∧ ∀ k, k < 6 → X.1 (g + 9 + 2 * i + 1) k = nI (pT P i (8 + k))) ∧ RXW (g + 3) (pWd P) X
def RM (P : PS) (s : Nat → Int32) : Prop := s 0 = nI (pN P) ∧ s 1 = nI (pW P) ∧ s 2 = nI (pB P) ∧ s 3 = nI (pG P) ∧ s 5 = nI (pO P) ∧ (∀ i, i < pG P → s (10 + i) = nI (pTape P i)) ∧ (∀ i, i < pB P → s (194 + i) = nI (pBook P i)) ∧ (∀ p, p < 64 → s (210 + p) = if (pTh P).toBitVec.getLsbD p then 1 else 0) ∧ (∀ i, i < pN P → (∀ j, j < 8 → s (110 + 6 * j + i) = nI (pT P i j)) ∧ ∀ k, k < 6 → s (158 + 6 * i + k) = nI (pT P i (8 + k))) ∧ RMW (pW P) (pWd P) s
/-- the trace: how many bodies ran, which -/
def RB (X M : aSt) : Prop := ∃ n : Nat, n < 1000 ∧ X.1 30 1 = nI n ∧ M.1 0 27 = nI n ∧ ∀ i, i < n → i < 20 → X.1 31 i = M.1 8 i
def Rel (K : Option Nat) (X M : aSt) : Prop := (∃ P, PV P ∧ RX 1 P X ∧ RM P (M.1 1)) ∧ RB X M ∧ ((K = none ∧ M.1 0 3 = 0) ∨ (K = some 34 ∧ M.1 0 3 = 1 ∧ ∃ Q, PV Q ∧ RX 34 Q X ∧ RM Q (M.1 2)))
/-- what may change behind calls that only look -/
def XF (S S' : aSt) : Prop := (∀ k, (k < 22 ∨ k = 30 ∨ k = 31 ∨ 34 ≤ k) → S'.1 k = S.1 k) ∧ ∀ k, k ≠ 29 → S'.2 k = S.2 k
def MF (S S' : aSt) : Prop := S'.1 1 = S.1 1 ∧ S'.1 2 = S.1 2 ∧ S'.1 8 = S.1 8 ∧ S'.1 0 3 = S.1 0 3 ∧ S'.1 0 27 = S.1 0 27

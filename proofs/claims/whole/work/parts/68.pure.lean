/-! PURE PART: what a text of signs says; the class's way to it -/
theorem nx_and (a b : Nat) : nI a &&& nI b = nI (a &&& b) := by
  apply Int32.toBitVec_inj.1
  show BitVec.ofNat 32 a &&& BitVec.ofNat 32 b = BitVec.ofNat 32 (a &&& b)
  apply BitVec.eq_of_getLsbD_eq
  intro i hi
  simp [hi]
theorem nx_xor (a b : Nat) : nI a ^^^ nI b = nI (a ^^^ b) := by
  apply Int32.toBitVec_inj.1
  show BitVec.ofNat 32 a ^^^ BitVec.ofNat 32 b = BitVec.ofNat 32 (a ^^^ b)
  apply BitVec.eq_of_getLsbD_eq
  intro i hi
  simp [hi]
theorem nx_or (a b : Nat) : nI a ||| nI b = nI (a ||| b) := by
  apply Int32.toBitVec_inj.1
  show BitVec.ofNat 32 a ||| BitVec.ofNat 32 b = BitVec.ofNat 32 (a ||| b)
  apply BitVec.eq_of_getLsbD_eq
  intro i hi
  simp [hi]
theorem tb_0 (m : Nat) (a : Bool) : (2 * m + a.toNat).testBit 0 = a := by
  rw [Nat.testBit_zero]
  cases a <;> simp
theorem tb_s (m : Nat) (a : Bool) (i : Nat) : (2 * m + a.toNat).testBit (i + 1) = m.testBit i := by
  rw [Nat.testBit_succ]
  congr 1
  cases a <;> simp <;> omega
theorem n_xor1 (m : Nat) (a : Bool) : (2 * m + a.toNat) ^^^ 1 = 2 * m + (!a).toNat := by
  apply Nat.eq_of_testBit_eq
  intro i
  rw [Nat.testBit_xor]
  cases i with
  | zero => rw [tb_0, tb_0]; cases a <;> rfl
  | succ i =>
    rw [tb_s, tb_s, Nat.testBit_succ]
    simp
theorem n_or1 (m : Nat) (a b : Bool) : (2 * m + b.toNat) ||| a.toNat = 2 * m + (b || a).toNat := by
  apply Nat.eq_of_testBit_eq
  intro i
  rw [Nat.testBit_or]
  cases i with
  | zero =>
    rw [tb_0, tb_0, Nat.testBit_zero]
    cases a <;> cases b <;> rfl
  | succ i =>
    rw [tb_s, tb_s, Nat.testBit_succ]
    cases a <;> simp
theorem n_and2 (m : Nat) (b : Bool) (hm : m < 2 ^ 31) : (2 * m + b.toNat) &&& 4294967294 = 2 * m := by
  apply Nat.eq_of_testBit_eq
  intro i
  rw [Nat.testBit_and]
  cases i with
  | zero =>
    have h := tb_0 m false
    simp only [Bool.toNat_false, Nat.add_zero] at h
    rw [h, show Nat.testBit 4294967294 0 = false from rfl, Bool.and_false]
  | succ i =>
    have h := tb_s m false i
    simp only [Bool.toNat_false, Nat.add_zero] at h
    rw [tb_s, h, Nat.testBit_succ, show 4294967294 / 2 = 2 ^ 31 - 1 from rfl, Nat.testBit_two_pow_sub_one]
    by_cases hi : i < 31
    · simp [hi]
    · rw [Nat.testBit_lt_two_pow (Nat.lt_of_lt_of_le hm (Nat.pow_le_pow_right (by omega) (by omega)))]
      rfl
def bn : List Bool → Nat
  | [] => 0
  | a :: s => 2 * bn s + a.toNat
theorem bn_lt : ∀ s : List Bool, bn s < 2 ^ s.length
  | [] => by decide
  | a :: s => by
    have := bn_lt s
    have h2 : a.toNat ≤ 1 := Bool.toNat_le a
    show 2 * bn s + a.toNat < 2 ^ (s.length + 1)
    rw [Nat.pow_succ]
    omega
theorem bn_lt16 {s : List Bool} (h : s.length ≤ 17) : bn s < 131072 := Nat.lt_of_lt_of_le (bn_lt s) (Nat.pow_le_pow_right (n := 2) (by omega) h)
def vl (i : Nat) (T : Nat → Nat) (w l : Nat) : Nat := if l = 0 then i else if l = 1 then T 0 else if l = 2 then T 3 else if l = 3 then T 4 else if l = 4 then T 6 else w
def ts (i : Nat) (T : Nat → Nat) (w c : Nat) : Bool := if (c - 3) / 6 % 3 = 0 then decide (vl i T w ((c - 3) % 6) < (c - 3) / 18) else if (c - 3) / 6 % 3 = 1 then decide (vl i T w ((c - 3) % 6) = (c - 3) / 18) else decide ((c - 3) / 18 < vl i T w ((c - 3) % 6))
def ev1 (t : Nat → Bool) (c : Nat) (st : List Bool) : List Bool := if c = 0 then (match st with | a :: s => (!a) :: s | [] => []) else if c = 1 then (match st with | a :: b :: s => (b && a) :: s | s => s) else if c = 2 then (match st with | a :: b :: s => (b || a) :: s | s => s) else t c :: st
def ev (t : Nat → Bool) : List Nat → List Bool → List Bool
  | [], st => st
  | c :: r, st => ev t r (ev1 t c st)
def bI (a : Bool) : Int32 := if a then 1 else 0
theorem bI_n (a : Bool) : bI a = nI a.toNat := by cases a <;> rfl
/-- a tree's numbers in a cell of the class -/
def TX (c i : Nat) (T : Nat → Nat) (X : aSt) : Prop := X.1 c 0 = nI i ∧ (∀ j, j < 8 → X.1 c (j + 1) = nI (T j)) ∧ ∀ k, k < 6 → X.1 (c + 1) k = nI (T (8 + k))
def TB (T : Nat → Nat) : Prop := (∀ j, j < 14 → T j ≤ bdT j) ∧ 1 ≤ T 3
theorem vl_lt {i w : Nat} {T : Nat → Nat} (hi : i < 6) (hw : w < 8) (hT : TB T) (l : Nat) : vl i T w l < 100 := by
  have h0 : T 0 ≤ 6 := hT.1 0 (by omega)
  have h3 : T 3 ≤ 7 := hT.1 3 (by omega)
  have h4 : T 4 ≤ 9 := hT.1 4 (by omega)
  have h6 : T 6 ≤ 9 := hT.1 6 (by omega)
  unfold vl
  split
  · omega
  · split
    · omega
    · split
      · omega
      · split
        · omega
        · split <;> omega
theorem q_value {c i w a b n : Nat} {T : Nat → Nat} {X : aSt} (hX : TX c i T X) (ha : a < 6) (hb : b < 3) (hn : n < 100) : f_X5_valueOf (nI (512 * a + 128 * b + n)) c (nI w) X = some (nI (vl i T w a), X) := by
  have e : nI (512 * a + 128 * b + n) / nI 512 = nI a := by
    rw [pk_div (by omega) (by omega) (by omega)]
    congr 1
    omega
  unfold f_X5_valueOf
  rw [show (512 : Int32) = nI 512 from rfl, e]
  obtain ⟨x0, x1, x2⟩ := hX
  have y0 : X.1 c 1 = nI (T 0) := x1 0 (by omega)
  have y3 : X.1 c 4 = nI (T 3) := x1 3 (by omega)
  have y4 : X.1 c 5 = nI (T 4) := x1 4 (by omega)
  have y6 : X.1 c 7 = nI (T 6) := x1 6 (by omega)
  rw [x0, y0, y3, y4, y6]
  rcases (show a = 0 ∨ a = 1 ∨ a = 2 ∨ a = 3 ∨ a = 4 ∨ a = 5 by omega) with rfl | rfl | rfl | rfl | rfl | rfl <;> rfl
theorem q_result {x a b n : Nat} (hx : x < 100) (ha : a < 6) (hb : b < 3) (hn : n < 100) (X : aSt) : f_X5_result (nI (512 * a + 128 * b + n)) (nI x) X = some (bI (if b = 0 then decide (x < n) else if b = 1 then decide (x = n) else decide (n < x)), X) := by
  have e1 : nI (512 * a + 128 * b + n) - nI (512 * a + 128 * b + n) / nI 128 * nI 128 = nI n := by
    rw [pk_rem (by omega) (by omega) (by omega)]
    congr 1
    omega
  have e2 : nI (512 * a + 128 * b + n) - nI (512 * a + 128 * b + n) / nI 512 * nI 512 = nI (128 * b + n) := by
    rw [pk_rem (by omega) (by omega) (by omega)]
    congr 1
    omega
  have e3 : nI (128 * b + n) / nI 128 = nI b := by
    rw [pk_div (by omega) (by omega) (by omega)]
    congr 1
    omega
  unfold f_X5_result f_X5_result_50 f_X5_result_64 f_X5_result_78 f_X5_result_79
  rw [show (512 : Int32) = nI 512 from rfl, show (128 : Int32) = nI 128 from rfl, e1, e2, e3]
  rcases (show b = 0 ∨ b = 1 ∨ b = 2 by omega) with rfl | rfl | rfl
  · by_cases h : x < n
    · simp (disch := omega) only [li_0, li_1, li_2, li_3, li_4, li_5, li_6, li_7, li_8, li_9, li_10, li_20, li_32, li_36, li_40, li_48, li_57, li_63, li_64, li_80, li_100, li_110, li_116, li_122, li_127, li_128, li_134, li_140, li_146, li_152, li_158, li_194, li_200, li_205, li_210, li_274, li_279, li_512, li_800, li_979, li_1000, nI_add, pk_mul, nI_clamp, chkN, leq_I, lt_I, eq_I, neq1_I, neq5_I, lt0_I, le0_I, Nat.not_lt_zero, oNl, ↓aLt_eq, ↓aB_some, ↓aO_some, ↓aO_none, ↓reduceIte, Nat.reduceAdd, Nat.reduceMul, Nat.reduceEqDiff, Nat.reduceLT, Nat.reduceLeDiff, reduceCtorEq, not_true_eq_false, not_false_eq_true, and_true, true_and, and_false, false_and, or_false, false_or, or_true, true_or, h, bI, decide_true]
    · simp (disch := omega) only [li_0, li_1, li_2, li_3, li_4, li_5, li_6, li_7, li_8, li_9, li_10, li_20, li_32, li_36, li_40, li_48, li_57, li_63, li_64, li_80, li_100, li_110, li_116, li_122, li_127, li_128, li_134, li_140, li_146, li_152, li_158, li_194, li_200, li_205, li_210, li_274, li_279, li_512, li_800, li_979, li_1000, nI_add, pk_mul, nI_clamp, chkN, leq_I, lt_I, eq_I, neq1_I, neq5_I, lt0_I, le0_I, Nat.not_lt_zero, oNl, ↓aLt_eq, ↓aB_some, ↓aO_some, ↓aO_none, ↓reduceIte, Nat.reduceAdd, Nat.reduceMul, Nat.reduceEqDiff, Nat.reduceLT, Nat.reduceLeDiff, reduceCtorEq, not_true_eq_false, not_false_eq_true, and_true, true_and, and_false, false_and, or_false, false_or, or_true, true_or, h, bI, decide_false, oLe, Bool.false_eq_true]
  · by_cases h : x = n
    · simp (disch := omega) only [li_0, li_1, li_2, li_3, li_4, li_5, li_6, li_7, li_8, li_9, li_10, li_20, li_32, li_36, li_40, li_48, li_57, li_63, li_64, li_80, li_100, li_110, li_116, li_122, li_127, li_128, li_134, li_140, li_146, li_152, li_158, li_194, li_200, li_205, li_210, li_274, li_279, li_512, li_800, li_979, li_1000, nI_add, pk_mul, nI_clamp, chkN, leq_I, lt_I, eq_I, neq1_I, neq5_I, lt0_I, le0_I, Nat.not_lt_zero, oNl, ↓aLt_eq, ↓aB_some, ↓aO_some, ↓aO_none, ↓reduceIte, Nat.reduceAdd, Nat.reduceMul, Nat.reduceEqDiff, Nat.reduceLT, Nat.reduceLeDiff, reduceCtorEq, not_true_eq_false, not_false_eq_true, and_true, true_and, and_false, false_and, or_false, false_or, or_true, true_or, h, bI, decide_true]
    · simp (disch := omega) only [li_0, li_1, li_2, li_3, li_4, li_5, li_6, li_7, li_8, li_9, li_10, li_20, li_32, li_36, li_40, li_48, li_57, li_63, li_64, li_80, li_100, li_110, li_116, li_122, li_127, li_128, li_134, li_140, li_146, li_152, li_158, li_194, li_200, li_205, li_210, li_274, li_279, li_512, li_800, li_979, li_1000, nI_add, pk_mul, nI_clamp, chkN, leq_I, lt_I, eq_I, neq1_I, neq5_I, lt0_I, le0_I, Nat.not_lt_zero, oNl, ↓aLt_eq, ↓aB_some, ↓aO_some, ↓aO_none, ↓reduceIte, Nat.reduceAdd, Nat.reduceMul, Nat.reduceEqDiff, Nat.reduceLT, Nat.reduceLeDiff, reduceCtorEq, not_true_eq_false, not_false_eq_true, and_true, true_and, and_false, false_and, or_false, false_or, or_true, true_or, h, bI, decide_false, Bool.false_eq_true]
  · by_cases h : n < x
    · simp (disch := omega) only [li_0, li_1, li_2, li_3, li_4, li_5, li_6, li_7, li_8, li_9, li_10, li_20, li_32, li_36, li_40, li_48, li_57, li_63, li_64, li_80, li_100, li_110, li_116, li_122, li_127, li_128, li_134, li_140, li_146, li_152, li_158, li_194, li_200, li_205, li_210, li_274, li_279, li_512, li_800, li_979, li_1000, nI_add, pk_mul, nI_clamp, chkN, leq_I, lt_I, eq_I, neq1_I, neq5_I, lt0_I, le0_I, Nat.not_lt_zero, oNl, ↓aLt_eq, ↓aB_some, ↓aO_some, ↓aO_none, ↓reduceIte, Nat.reduceAdd, Nat.reduceMul, Nat.reduceEqDiff, Nat.reduceLT, Nat.reduceLeDiff, reduceCtorEq, not_true_eq_false, not_false_eq_true, and_true, true_and, and_false, false_and, or_false, false_or, or_true, true_or, h, bI, decide_true, oNe]
    · simp (disch := omega) only [li_0, li_1, li_2, li_3, li_4, li_5, li_6, li_7, li_8, li_9, li_10, li_20, li_32, li_36, li_40, li_48, li_57, li_63, li_64, li_80, li_100, li_110, li_116, li_122, li_127, li_128, li_134, li_140, li_146, li_152, li_158, li_194, li_200, li_205, li_210, li_274, li_279, li_512, li_800, li_979, li_1000, nI_add, pk_mul, nI_clamp, chkN, leq_I, lt_I, eq_I, neq1_I, neq5_I, lt0_I, le0_I, Nat.not_lt_zero, oNl, ↓aLt_eq, ↓aB_some, ↓aO_some, ↓aO_none, ↓reduceIte, Nat.reduceAdd, Nat.reduceMul, Nat.reduceEqDiff, Nat.reduceLT, Nat.reduceLeDiff, reduceCtorEq, not_true_eq_false, not_false_eq_true, and_true, true_and, and_false, false_and, or_false, false_or, or_true, true_or, h, bI, decide_false, oLe, oNe, Bool.false_eq_true]

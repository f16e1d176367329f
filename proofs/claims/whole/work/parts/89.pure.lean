/-! PURE PART: PLANS tried: wide, least -/
def fF (W : PW) (T : Nat → Nat) (no w : Nat) : Int32 := kF (T 0) (T 1) (nI (T 4) * al (T 5) no + nI W.1 * nI w)
def fA (T : Nat → Nat) (no l r : Nat) : Int32 := kA (T 0) (T 1) (nI (T 4) * si (T 5) no + nI r - nI l)
def fS (W : PW) (i : Nat) (T : Nat → Nat) (no l r : Nat) : Nat := kS (T 0) (T 1) ((1 + totL i T no 0 W.2.2) * (l + r) - T 6 * (l + r) / 10)
def fP (W : PW) (i : Nat) (T : Nat → Nat) (no : Nat) : Nat := kP (T 0) (T 1) (40 - totL i T no 1 W.2.2)
def fH (W : PW) (i : Nat) (T : Nat → Nat) (no l r w : Nat) : Nat := hw (fF W T no w) (fA T no l r) (fS W i T no l r) (fP W i T no)
/-- how, apart from SITS BACK and SPLITS -/
def hS (W : PW) (i : Nat) (T : Nat → Nat) (no l r : Nat) : Nat := if ab (fA T no l r) ≤ nI (fS W i T no l r) then (if nI 2 * ab (fA T no l r) ≤ nI (fS W i T no l r) then 0 else 1) else 3
/-- 2 it sits back, 4 it splits, 0 neither -/
def fC (W : PW) (i : Nat) (T : Nat → Nat) (no w : Nat) : Nat := if 0 ≤ fF W T no w then (if fF W T no w ≤ nI (fP W i T no) then 0 else 4) else 2
theorem fH_C (W : PW) (i : Nat) (T : Nat → Nat) (no l r w : Nat) : fH W i T no l r w = if fC W i T no w = 0 then hS W i T no l r else fC W i T no w := by
  unfold fH hw fC hS
  by_cases h1 : 0 ≤ fF W T no w
  · rw [if_pos h1, if_pos h1]
    by_cases h2 : fF W T no w ≤ nI (fP W i T no)
    · rw [if_pos h2, if_pos h2, if_pos rfl]
    · rw [if_neg h2, if_neg h2, if_neg (by omega)]
  · rw [if_neg h1, if_neg h1, if_neg (by omega)]
theorem fC_c (W : PW) (i : Nat) (T : Nat → Nat) (no w : Nat) : fC W i T no w = 0 ∨ fC W i T no w = 4 ∨ fC W i T no w = 2 := by
  unfold fC
  split
  · split
    · exact Or.inl rfl
    · exact Or.inr (Or.inl rfl)
  · exact Or.inr (Or.inr rfl)
theorem hS_c (W : PW) (i : Nat) (T : Nat → Nat) (no l r : Nat) : hS W i T no l r = 0 ∨ hS W i T no l r = 1 ∨ hS W i T no l r = 3 := by
  unfold hS
  split
  · split
    · exact Or.inl rfl
    · exact Or.inr (Or.inl rfl)
  · exact Or.inr (Or.inr rfl)
/-- the WAY, where it goes one; the bit of it -/
def yN (W : PW) (i : Nat) (T : Nat → Nat) (no l r : Nat) : Nat := wyN (hS W i T no l r) (fA T no l r) no
def yB (W : PW) (i : Nat) (T : Nat → Nat) (no l r w : Nat) : Nat := if fC W i T no w = 0 then 2 ^ yN W i T no l r else if fC W i T no w = 4 then 2 ^ no else 0
theorem yB_bit (W : PW) (i : Nat) (T : Nat → Nat) (no l r w y : Nat) : (yB W i T no l r w).testBit y = true ↔ (fC W i T no w = 0 ∧ y = yN W i T no l r) ∨ (fC W i T no w = 4 ∧ y = no) := by
  unfold yB
  rcases fC_c W i T no w with h | h | h <;> rw [h]
  · rw [if_pos rfl, Nat.testBit_two_pow, decide_eq_true_eq]
    constructor
    · intro e; exact Or.inl ⟨rfl, e.symm⟩
    · rintro (⟨-, e⟩ | ⟨e, -⟩)
      · exact e.symm
      · omega
  · rw [if_neg (by omega), if_pos rfl, Nat.testBit_two_pow, decide_eq_true_eq]
    constructor
    · intro e; exact Or.inr ⟨rfl, e.symm⟩
    · rintro (⟨e, -⟩ | ⟨-, e⟩)
      · omega
      · exact e.symm
  · rw [if_neg (by omega), if_neg (by omega), Nat.zero_testBit]
    constructor
    · intro e; cases e
    · rintro (⟨e, -⟩ | ⟨e, -⟩) <;> omega
theorem yN_lt {W : PW} {i : Nat} {T : Nat → Nat} {no l r : Nat} (h : no < 8) : yN W i T no l r < 8 := wyN_lt h
theorem wy_C {W : PW} {i : Nat} {T : Nat → Nat} {no l r w : Nat} : wy (fH W i T no l r w) (fA T no l r) no = if fC W i T no w = 0 then nI (yN W i T no l r) else if fC W i T no w = 4 then nI no else -5 := by
  rw [fH_C]
  rcases fC_c W i T no w with h | h | h <;> rw [h]
  · rw [if_pos rfl, if_pos rfl]
    rcases hS_c W i T no l r with k | k | k <;> exact wy_N (by omega)
  · rw [if_neg (by omega), if_neg (by omega), if_pos rfl]
    rfl
  · rw [if_neg (by omega), if_neg (by omega), if_neg (by omega)]
    rfl
theorem q_bitY {W : PW} {i : Nat} {T : Nat → Nat} {no l r w : Nat} (hno : no < 8) (S : aSt) : f_X6_bitOf (wy (fH W i T no l r w) (fA T no l r) no) S = some (nI (yB W i T no l r w), S) := by
  have hy := yN_lt (W := W) (i := i) (T := T) (l := l) (r := r) hno
  rw [wy_C]
  unfold yB
  rcases fC_c W i T no w with h | h | h <;> rw [h]
  · rw [if_pos rfl, if_pos rfl]; exact q_bit (by omega) S
  · rw [if_neg (by omega), if_pos rfl, if_neg (by omega), if_pos rfl]; exact q_bit (by omega) S
  · rw [if_neg (by omega), if_neg (by omega), if_neg (by omega), if_neg (by omega)]; rfl
/-- a PLAN without a rope, whatever the rope's WAY is -/
def PL (T : Nat → Nat) (no l r w : Nat) (T' : Nat → Nat) : Prop := (∀ j, j < 8 → T' j = T j) ∧ T' 8 = no ∧ T' 9 = l ∧ T' 10 = r ∧ T' 11 = w ∧ T' 13 = 0
theorem i_z (x y : Int32) : x * nI 0 * y = 0 := by
  show x * 0 * y = 0
  rw [Int32.mul_zero, Int32.zero_mul]
theorem g_PL {W : PW} {i no l r w : Nat} {T T' : Nat → Nat} (h : PL T no l r w T') : gH W i T' none = fH W i T no l r w ∧ gA W i T' none = fA T no l r := by
  obtain ⟨h1, h8, h9, h10, h11, h13⟩ := h
  have tc : ∀ w q l, totL i T' w q l = totL i T w q l := tot_congr (h1 0 (by omega)) (h1 3 (by omega)) (h1 4 (by omega)) (h1 6 (by omega))
  have e0 := h1 0 (by omega)
  have e1 := h1 1 (by omega)
  have e4 := h1 4 (by omega)
  have e5 := h1 5 (by omega)
  have e6 := h1 6 (by omega)
  have eF : gF W i T' none = fF W T no w := by
    show kF (T' 0) (T' 1) (nI (T' 4) * al (T' 5) (T' 8) + nI W.1 * nI (T' 11) + nI W.2.1 * nI (T' 13) * al (T' 12) (T' 8)) = _
    rw [e0, e1, e4, e5, h8, h11, h13, i_z, Int32.add_zero]
    rfl
  have eA : gA W i T' none = fA T no l r := by
    show kA (T' 0) (T' 1) (nI (T' 4) * si (T' 5) (T' 8) + nI (T' 10) - nI (T' 9) + nI W.2.1 * nI (T' 13) * si (T' 12) (T' 8)) = _
    rw [e0, e1, e4, e5, h8, h9, h10, h13, i_z, Int32.add_zero]
    rfl
  refine ⟨?_, eA⟩
  unfold gH
  rw [eF, eA]
  unfold gS gP gS0 gP0 fH fS fP
  rw [e0, e1, e6, h8, h9, h10, tc, tc]
/-- the trial as the class tries it -/
def IW (W : PW) (i : Nat) (T : Nat → Nat) (no : Nat) (X : aSt) : Prop := RXW 4 W X ∧ X.1 29 8 = nI (1 + totL i T no 0 W.2.2) ∧ X.1 29 9 = nI (40 - totL i T no 1 W.2.2)
def IT (i : Nat) (T : Nat → Nat) (no l r w : Nat) (X : aSt) : Prop := ∃ T', TX 32 i T' X ∧ TB T' ∧ PL T no l r w T'
theorem IW_XF {W : PW} {i no : Nat} {T : Nat → Nat} {X : aSt} {j : Nat} {v : Int32} {k : Nat} (hk : k = 32 ∨ k = 33) (h : IW W i T no X) : IW W i T no (aUi X k j v) := ⟨RXW_congr (fun q _ _ => aUi_row (by omega)) h.1, by rw [aUi_row (by omega)]; exact h.2.1, by rw [aUi_row (by omega)]; exact h.2.2⟩
theorem IT_up {i no l r w v k : Nat} {T : Nat → Nat} {X : aSt} (h : IT i T no l r w X) (hk : k < 4) (hv : v ≤ bdT (8 + k)) : IT i T (if k = 0 then v else no) (if k = 1 then v else l) (if k = 2 then v else r) (if k = 3 then v else w) (aUi X 33 k (nI v)) := by
  obtain ⟨T', h1, h2, h3, h8, h9, h10, h11, h13⟩ := h
  refine ⟨uT T' (8 + k) v, TX_uP (c := 32) h1, TB_uT h2 hv (by omega), fun j hj => by rw [uT_ne (by omega)]; exact h3 j hj, ?_, ?_, ?_, ?_, by rw [uT_ne (by omega)]; exact h13⟩
  all_goals
    rcases (show k = 0 ∨ k = 1 ∨ k = 2 ∨ k = 3 by omega) with rfl | rfl | rfl | rfl <;> simp [uT, h8, h9, h10, h11]
theorem IT_n {i no l r w v : Nat} {T : Nat → Nat} {X : aSt} (h : IT i T no l r w X) (hv : v ≤ 7) : IT i T v l r w (aUi X 33 0 (nI v)) := IT_up (k := 0) h (by omega) hv
theorem IT_l {i no l r w v : Nat} {T : Nat → Nat} {X : aSt} (h : IT i T no l r w X) (hv : v ≤ 9) : IT i T no v r w (aUi X 33 1 (nI v)) := IT_up (k := 1) h (by omega) hv
theorem IT_r {i no l r w v : Nat} {T : Nat → Nat} {X : aSt} (h : IT i T no l r w X) (hv : v ≤ 9) : IT i T no l v w (aUi X 33 2 (nI v)) := IT_up (k := 2) h (by omega) hv
theorem IT_w {i no l r w v : Nat} {T : Nat → Nat} {X : aSt} (h : IT i T no l r w X) (hv : v ≤ 9) : IT i T no l r v (aUi X 33 3 (nI v)) := IT_up (k := 3) h (by omega) hv
theorem IT_CF {i no l r w : Nat} {T : Nat → Nat} {X X' : aSt} (hc : CF X X') (h : IT i T no l r w X) : IT i T no l r w X' := by
  obtain ⟨T', h1, h2⟩ := h
  exact ⟨T', TX_CF (by omega) (by omega) hc h1, h2⟩
theorem q_pushP {W : PW} {i no l r w : Nat} {T : Nat → Nat} {X : aSt} (hi : i < 6) (hO : wdOk W) (hW : IW W i T no X) (hT : IT i T no l r w X) : ∃ X', f_X1_push (1 + 3) 32 (-1) X = some ((), X') ∧ CF X X' ∧ X'.1 29 4 = nI (fH W i T no l r w) ∧ X'.1 29 5 = wy (fH W i T no l r w) (fA T no l r) no ∧ IW W i T no X' ∧ IT i T no l r w X' := by
  obtain ⟨T', h1, h2, h3⟩ := id hT
  have tc : ∀ w q l, totL i T' w q l = totL i T w q l := tot_congr (h3.1 0 (by omega)) (h3.1 3 (by omega)) (h3.1 4 (by omega)) (h3.1 6 (by omega))
  have hG : GW W i T' X := by
    unfold GW
    rw [tc, tc, h3.2.1]
    exact hW.2
  obtain ⟨X', e1, e2, e3, e4⟩ := q_push none h1 hi h2 (by omega) (by omega) hW.1 hO hg0 hG
  obtain ⟨g1, g2⟩ := g_PL (W := W) (i := i) h3
  refine ⟨X', e1, e2, by rw [e3.2.2.2.2.1, g1], ?_, ⟨RXW_CF e2 hW.1, ?_⟩, IT_CF e2 hT⟩
  · rw [e3.2.2.2.2.2]
    unfold gY
    rw [g1, g2, h3.2.1]
  · unfold GW at e4
    rw [tc, tc, h3.2.1] at e4
    exact e4
theorem q_weighP {W : PW} {i no l r w : Nat} {T : Nat → Nat} {X : aSt} (hi : i < 6) (hO : wdOk W) (hW : RXW 4 W X) (hT : IT i T no l r w X) : ∃ X', f_X1_weigh (1 + 3) 32 X = some ((), X') ∧ CF X X' ∧ IW W i T no X' ∧ IT i T no l r w X' := by
  obtain ⟨T', h1, h2, h3⟩ := id hT
  have tc : ∀ w q l, totL i T' w q l = totL i T w q l := tot_congr (h3.1 0 (by omega)) (h3.1 3 (by omega)) (h3.1 4 (by omega)) (h3.1 6 (by omega))
  obtain ⟨X', e1, e2, e3⟩ := q_weigh h1 hi h2 (by omega) (by omega) hW hO
  refine ⟨X', e1, e2, ⟨RXW_CF e2 hW, ?_⟩, IT_CF e2 hT⟩
  unfold GW at e3
  rw [tc, tc, h3.2.1] at e3
  exact e3
/-! the reference's PLANS -/
def plT (T : Nat → Nat) (no l r w : Nat) : Nat → Nat := fun j => if j < 8 then T j else if j = 8 then no else if j = 9 then l else if j = 10 then r else if j = 11 then w else 0
theorem plT_PL (T : Nat → Nat) (no l r w : Nat) : PL T no l r w (plT T no l r w) := ⟨fun j hj => if_pos hj, rfl, rfl, rfl, rfl, rfl⟩
theorem plT_TB {T : Nat → Nat} {no l r w : Nat} (h : TB T) (h1 : no ≤ 7) (h2 : l ≤ 9) (h3 : r ≤ 9) (h4 : w ≤ 9) : TB (plT T no l r w) := by
  refine ⟨fun j hj => ?_, ?_⟩
  · rcases (show j < 8 ∨ j = 8 ∨ j = 9 ∨ j = 10 ∨ j = 11 ∨ j = 12 ∨ j = 13 by omega) with k | rfl | rfl | rfl | rfl | rfl | rfl
    · show (if j < 8 then T j else _) ≤ _
      rw [if_pos k]; exact h.1 j hj
    · exact h1
    · exact h2
    · exact h3
    · exact h4
    · exact Nat.zero_le _
    · exact Nat.zero_le _
  · exact h.2
def dP (q : Nat) : Prop := 158 ≤ q ∧ q < 194
def TM8 (i : Nat) (T : Nat → Nat) (s : Nat → Int32) : Prop := ∀ j, j < 8 → s (110 + 6 * j + i) = nI (T j)
theorem q_plans {i no l r w : Nat} {T : Nat → Nat} {M : aSt} (hi : i < 6) (hT : TM8 i T (M.1 1)) : ∃ M', f_X7_plans (nI i) (nI no) (nI l) (nI r) (nI w) M = some ((), M') ∧ ND dP M M' ∧ M'.1 5 = M.1 5 ∧ TM i (plT T no l r w) (M'.1 1) := by
  unfold f_X7_plans
  simp only [aLt_eq]
  rw [show (158 : Int32) + (6 : Int32) * nI i = nI (158 + 6 * i) by rw [show (6 : Int32) = nI 6 from rfl, pk_mul, show (158 : Int32) = nI 158 from rfl, nI_add], show nI (158 + 6 * i) + (1 : Int32) = nI (158 + 6 * i + 1) from nI_add _ 1, show nI (158 + 6 * i) + (2 : Int32) = nI (158 + 6 * i + 2) from nI_add _ 2, show nI (158 + 6 * i) + (3 : Int32) = nI (158 + 6 * i + 3) from nI_add _ 3, show nI (158 + 6 * i) + (4 : Int32) = nI (158 + 6 * i + 4) from nI_add _ 4, show nI (158 + 6 * i) + (5 : Int32) = nI (158 + 6 * i + 5) from nI_add _ 5, if_neg (q_chk (by omega) (by omega)), if_neg (q_chk (by omega) (by omega)), if_neg (q_chk (by omega) (by omega)), if_neg (q_chk (by omega) (by omega)), if_neg (q_chk (by omega) (by omega)), if_neg (q_chk (by omega) (by omega)), nI_clamp (by omega), nI_clamp (by omega), nI_clamp (by omega), nI_clamp (by omega), nI_clamp (by omega), nI_clamp (by omega)]
  have up := fun (A : aSt) (k : Nat) (hk : k < 6) (v : Int32) => ND.up (D := dP) A (q := 158 + 6 * i + k) v ⟨by omega, by omega⟩
  refine ⟨_, rfl, (((((up M 0 (by omega) _).tr (up _ 1 (by omega) _)).tr (up _ 2 (by omega) _)).tr (up _ 3 (by omega) _)).tr (up _ 4 (by omega) _)).tr (up _ 5 (by omega) _), ?_, fun j hj => ?_, fun k hk => ?_⟩
  · simp only [aUi_row (show 5 ≠ 1 by omega)]
  · rw [aUi_ne (by omega), aUi_ne (by omega), aUi_ne (by omega), aUi_ne (by omega), aUi_ne (by omega), aUi_ne (by omega)]
    show _ = nI (if j < 8 then T j else _)
    rw [if_pos hj]
    exact hT j hj
  · rcases (show k = 0 ∨ k = 1 ∨ k = 2 ∨ k = 3 ∨ k = 4 ∨ k = 5 by omega) with rfl | rfl | rfl | rfl | rfl | rfl
    · rw [aUi_ne (by omega), aUi_ne (by omega), aUi_ne (by omega), aUi_ne (by omega), aUi_ne (by omega), Nat.add_zero, aUi_at]; rfl
    · rw [aUi_ne (by omega), aUi_ne (by omega), aUi_ne (by omega), aUi_ne (by omega), aUi_at]; rfl
    · rw [aUi_ne (by omega), aUi_ne (by omega), aUi_ne (by omega), aUi_at]; rfl
    · rw [aUi_ne (by omega), aUi_ne (by omega), aUi_at]; rfl
    · rw [aUi_ne (by omega), aUi_at]; rfl
    · rw [aUi_at]; rfl
theorem TM8_ND {i : Nat} {T : Nat → Nat} {M M' : aSt} (hi : i < 6) (h : ND dP M M') (hT : TM8 i T (M.1 1)) : TM8 i T (M'.1 1) := fun j hj => by
  rw [h.2.1 _ (by unfold dP; omega)]; exact hT j hj
theorem RMW_ND {nW : Nat} {W : PW} {M M' : aSt} (hn : nW ≤ 5) (h : ND dP M M') (hW : RMW nW W (M.1 1)) : RMW nW W (M'.1 1) := RMW_tr hn hW (fun q hq => h.2.1 q (by unfold dP; omega))
/-- a PLAN tried in the reference -/
theorem q_tryM {W : PW} {nW i no l r w : Nat} {T : Nat → Nat} {M : aSt} (hi : i < 6) (hO : wdOk W) (hB : TB T) (hn : nW ≤ 5) (hW : RMW nW W (M.1 1)) (hT : TM8 i T (M.1 1)) (h1 : no ≤ 7) (h2 : l ≤ 9) (h3 : r ≤ 9) (h4 : w ≤ 9) : ∃ M1 M2, f_X7_plans (nI i) (nI no) (nI l) (nI r) (nI w) M = some ((), M1) ∧ f_X7_goesIn (nI i) (-1) M1 = some ((), M2) ∧ ND dP M M2 ∧ M2.1 5 = M.1 5 ∧ M2.1 0 18 = nI (fH W i T no l r w) ∧ M2.1 0 19 = wy (fH W i T no l r w) (fA T no l r) no := by
  obtain ⟨M1, e1, e2, e3, e4⟩ := q_plans (no := no) (l := l) (r := r) (w := w) hi hT
  obtain ⟨M2, g1, g2, g3⟩ := q_goesIn none hi (plT_TB hB h1 h2 h3 h4) e4 hn (RMW_ND hn e2 hW) hO hg0
  obtain ⟨k1, k2⟩ := g_PL (W := W) (i := i) (plT_PL T no l r w)
  refine ⟨M1, M2, e1, g1, e2.tr (ND.nf g2), (g2.1 5 (by omega) (by omega) (by omega)).trans e3, by rw [g3.2.2.2.2.1, k1], ?_⟩
  rw [g3.2.2.2.2.2]
  unfold gY
  rw [k1, k2]
  rfl
theorem q_keeps : ∀ (e k n : Nat) (M : aSt), k + e = 36 → e < n → (∀ j, j < k → M.1 5 j = M.1 1 (158 + j)) → ∃ M', f_X7_keepsPlans_2 n (nI k) M = some ((), M') ∧ (∀ q, q ≠ 5 → M'.1 q = M.1 q) ∧ M'.2 = M.2 ∧ ∀ j, j < 36 → M'.1 5 j = M.1 1 (158 + j) := by
  intro e
  induction e with
  | zero =>
    intro k n M h1 h2 h3
    obtain ⟨n, rfl⟩ : ∃ m, n = m + 1 := ⟨n - 1, by omega⟩
    have hk : k = 36 := by omega
    subst hk
    rw [f_X7_keepsPlans_2, if_pos (show (36 : Int32) ≤ nI 36 from Int32.le_refl _)]
    exact ⟨M, rfl, fun _ _ => rfl, rfl, h3⟩
  | succ e ih =>
    intro k n M h1 h2 h3
    obtain ⟨n, rfl⟩ : ∃ m, n = m + 1 := ⟨n - 1, by omega⟩
    rw [f_X7_keepsPlans_2, if_neg (show ¬ (36 : Int32) ≤ nI k from nI_ge (b := 36) (by omega) (by omega)), show (158 : Int32) + nI k = nI (158 + k) from nI_add 158 k, if_neg (q_chk (by omega) (by omega)), if_neg (q_chk (by omega) (by omega)), aLt_eq, aLt_eq, nI_clamp (by omega), nI_clamp (by omega), nI_1]
    obtain ⟨M', g1, g2, g3, g4⟩ := ih (k + 1) n (aUi M 5 k (M.1 1 (158 + k))) (by omega) (by omega) (fun j hj => by
      rw [aUi_row (show 1 ≠ 5 by omega)]
      by_cases c : j = k
      · rw [c, aUi_at]
      · rw [aUi_ne c]; exact h3 j (by omega))
    rw [aUi_row (show 1 ≠ 5 by omega)] at g4
    exact ⟨M', g1, fun q hq => by rw [g2 q hq, aUi_row hq], g3, g4⟩
theorem q_puts : ∀ (e k n : Nat) (M : aSt), k + e = 36 → e < n → (∀ j, j < k → M.1 1 (158 + j) = M.1 5 j) → ∃ M', f_X7_putsPlansBack_2 n (nI k) M = some ((), M') ∧ (∀ q, q ≠ 1 → M'.1 q = M.1 q) ∧ M'.2 = M.2 ∧ (∀ q, ¬ dP q → M'.1 1 q = M.1 1 q) ∧ ∀ j, j < 36 → M'.1 1 (158 + j) = M.1 5 j := by
  intro e
  induction e with
  | zero =>
    intro k n M h1 h2 h3
    obtain ⟨n, rfl⟩ : ∃ m, n = m + 1 := ⟨n - 1, by omega⟩
    have hk : k = 36 := by omega
    subst hk
    rw [f_X7_putsPlansBack_2, if_pos (show (36 : Int32) ≤ nI 36 from Int32.le_refl _)]
    exact ⟨M, rfl, fun _ _ => rfl, rfl, fun _ _ => rfl, h3⟩
  | succ e ih =>
    intro k n M h1 h2 h3
    obtain ⟨n, rfl⟩ : ∃ m, n = m + 1 := ⟨n - 1, by omega⟩
    rw [f_X7_putsPlansBack_2, if_neg (show ¬ (36 : Int32) ≤ nI k from nI_ge (b := 36) (by omega) (by omega)), show (158 : Int32) + nI k = nI (158 + k) from nI_add 158 k, if_neg (q_chk (by omega) (by omega)), if_neg (q_chk (by omega) (by omega)), aLt_eq, aLt_eq, nI_clamp (by omega), nI_clamp (by omega), nI_1]
    obtain ⟨M', g1, g2, g3, g4, g5⟩ := ih (k + 1) n (aUi M 1 (158 + k) (M.1 5 k)) (by omega) (by omega) (fun j hj => by
      rw [aUi_row (show 5 ≠ 1 by omega)]
      by_cases c : j = k
      · rw [c, aUi_at]
      · rw [aUi_ne (by omega)]; exact h3 j (by omega))
    rw [aUi_row (show 5 ≠ 1 by omega)] at g5
    exact ⟨M', g1, fun q hq => by rw [g2 q hq, aUi_row hq], g3, fun q hq => by rw [g4 q hq, aUi_ne (fun e => hq ⟨by omega, by omega⟩)], g5⟩
/-- the PLANS kept, others tried, put back: nothing has changed -/
theorem MF_plans {M M1 M2 M3 : aSt} (k1 : ∀ q, q ≠ 5 → M1.1 q = M.1 q) (k2 : ∀ j, j < 36 → M1.1 5 j = M.1 1 (158 + j)) (h1 : ND dP M1 M2) (h2 : M2.1 5 = M1.1 5) (p1 : ∀ q, q ≠ 1 → M3.1 q = M2.1 q) (p2 : ∀ q, ¬ dP q → M3.1 1 q = M2.1 1 q) (p3 : ∀ j, j < 36 → M3.1 1 (158 + j) = M2.1 5 j) : MF M M3 := by
  refine ⟨funext fun q => ?_, ?_, ?_, ?_, ?_⟩
  · by_cases c : dP q
    · obtain ⟨j, rfl⟩ : ∃ j, q = 158 + j := ⟨q - 158, by have := c.1; omega⟩
      have hj : j < 36 := by have := c.2; omega
      rw [p3 j hj, h2, k2 j hj]
    · rw [p2 q c, h1.2.1 q c, k1 1 (by omega)]
  · rw [p1 2 (by omega), h1.1 2 (by omega) (by omega) (by omega) (by omega) (by omega), k1 2 (by omega)]
  · rw [p1 8 (by omega), h1.1 8 (by omega) (by omega) (by omega) (by omega) (by omega), k1 8 (by omega)]
  · rw [p1 0 (by omega), h1.2.2 3 (by omega), k1 0 (by omega)]
  · rw [p1 0 (by omega), h1.2.2 27 (by omega), k1 0 (by omega)]

/-! PURE PART: wide -/
theorem q_str23 {W : PW} {i no l w : Nat} {T : Nat → Nat} (hi : i < 6) (hO : wdOk W) (hno : no < 8) (hl : l < 10) (h0 : fC W i T no w = 0) (r14 : Int32 → Int32 → aSt → Option (Int32 × aSt)) (HO : ∀ acc X, IW W i T no X → (∃ l r, IT i T no l r w X) → ∃ s X', r14 (nI acc) (nI (l + 1)) X = some (nI s, X') ∧ (∀ y, s.testBit y = true ↔ acc.testBit y = true ∨ ∃ q, 10 * (l + 1) ≤ q ∧ q < 100 ∧ y = yN W i T no (q / 10) (q % 10)) ∧ XF X X' ∧ IW W i T no X' ∧ ∃ l r, IT i T no l r w X') : ∀ (e r n acc : Nat) (X : aSt), r + e = 10 → e < n → IW W i T no X → (∃ l r, IT i T no l r w X) → ∃ s X', f_X6_waysByStrip_23 r14 n (nI acc) (nI l) (nI r) X = some (nI s, X') ∧ (∀ y, s.testBit y = true ↔ acc.testBit y = true ∨ ∃ q, 10 * l + r ≤ q ∧ q < 100 ∧ y = yN W i T no (q / 10) (q % 10)) ∧ XF X X' ∧ IW W i T no X' ∧ ∃ l r, IT i T no l r w X' := by
  intro e
  induction e with
  | zero =>
    intro r n acc X h1 h2 hW hT
    obtain ⟨n, rfl⟩ : ∃ m, n = m + 1 := ⟨n - 1, by omega⟩
    have hr : r = 10 := by omega
    subst hr
    rw [f_X6_waysByStrip_23, if_pos (show (9 : Int32) < nI 10 by decide), aLt_eq, nI_1, show 10 * l + 10 = 10 * (l + 1) by omega]
    exact HO acc X hW hT
  | succ e ih =>
    intro r n acc X h1 h2 hW hT
    obtain ⟨n, rfl⟩ : ∃ m, n = m + 1 := ⟨n - 1, by omega⟩
    obtain ⟨l0, r0, hT⟩ := hT
    have f1 := XF.up X (k := 33) 1 (nI l) (Or.inr rfl)
    have f2 := XF.up (aUi X 33 1 (nI l)) (k := 33) 2 (nI r) (Or.inr rfl)
    obtain ⟨X1, e1, e2, e3, e4, e5, e6⟩ := q_pushP hi hO (IW_XF (k := 33) (Or.inr rfl) (IW_XF (k := 33) (Or.inr rfl) hW)) (IT_r (v := r) (IT_l (v := l) hT (by omega)) (by omega))
    rw [f_X6_waysByStrip_23, if_neg (show ¬ (9 : Int32) < nI r from nI_nlt (a := 9) (by omega) (by omega)), aLt_eq, aLt_eq, show 32 + 1 = 33 from rfl, e1, aB_some, e4, q_bitY hno, aB_some, aLt_eq, aLt_eq, nI_1, nx_or]
    obtain ⟨s, X', g1, g2, g3, g4, g5⟩ := ih (r + 1) n (acc ||| yB W i T no l r w) X1 (by omega) (by omega) e5 ⟨l, r, e6⟩
    refine ⟨s, X', g1, fun y => ?_, ((f1.tr f2).tr (XF.cf e2)).tr g3, g4, g5⟩
    rw [g2 y, Nat.testBit_or, Bool.or_eq_true, yB_bit]
    constructor
    · rintro ((h | ⟨-, h⟩ | ⟨h, -⟩) | ⟨q, q1, q2, q3⟩)
      · exact Or.inl h
      · exact Or.inr ⟨10 * l + r, by omega, by omega, by rw [show (10 * l + r) / 10 = l by omega, show (10 * l + r) % 10 = r by omega]; exact h⟩
      · omega
      · exact Or.inr ⟨q, by omega, q2, q3⟩
    · rintro (h | ⟨q, q1, q2, q3⟩)
      · exact Or.inl (Or.inl h)
      · by_cases c : q = 10 * l + r
        · subst c
          rw [show (10 * l + r) / 10 = l by omega, show (10 * l + r) % 10 = r by omega] at q3
          exact Or.inl (Or.inr (Or.inl ⟨h0, q3⟩))
        · exact Or.inr ⟨q, by omega, q2, q3⟩
theorem q_str14 {W : PW} {i no w : Nat} {T : Nat → Nat} (hi : i < 6) (hO : wdOk W) (hno : no < 8) (h0 : fC W i T no w = 0) : ∀ (e l n acc : Nat) (X : aSt), l + e = 10 → e < n → IW W i T no X → (∃ l r, IT i T no l r w X) → ∃ s X', f_X6_waysByStrip_14 n (nI acc) (nI l) X = some (nI s, X') ∧ (∀ y, s.testBit y = true ↔ acc.testBit y = true ∨ ∃ q, 10 * l ≤ q ∧ q < 100 ∧ y = yN W i T no (q / 10) (q % 10)) ∧ XF X X' ∧ IW W i T no X' ∧ ∃ l r, IT i T no l r w X' := by
  intro e
  induction e with
  | zero =>
    intro l n acc X h1 h2 hW hT
    obtain ⟨n, rfl⟩ : ∃ m, n = m + 1 := ⟨n - 1, by omega⟩
    have hl : l = 10 := by omega
    subst hl
    rw [f_X6_waysByStrip_14, if_pos (show (9 : Int32) < nI 10 by decide)]
    refine ⟨acc, X, rfl, fun y => ⟨Or.inl, ?_⟩, XF.rf X, hW, hT⟩
    rintro (h | ⟨q, q1, q2, -⟩)
    · exact h
    · omega
  | succ e ih =>
    intro l n acc X h1 h2 hW hT
    obtain ⟨n, rfl⟩ : ∃ m, n = m + 1 := ⟨n - 1, by omega⟩
    rw [f_X6_waysByStrip_14, if_neg (show ¬ (9 : Int32) < nI l from nI_nlt (a := 9) (by omega) (by omega))]
    exact q_str23 (W := W) (no := no) (l := l) (w := w) (T := T) hi hO hno (by omega) h0 (fun l2 l3 S => f_X6_waysByStrip_14 n l2 l3 S) (fun acc X hW hT => ih (l + 1) n acc X (by omega) (by omega) hW hT) 10 0 aF acc X (by omega) (by have := aF_big; omega) hW hT
/-- the WAYS of a NOTCH -/
def wQ (W : PW) (i : Nat) (T : Nat → Nat) (no y w : Nat) : Prop := (fC W i T no w = 4 ∧ y = no) ∨ (fC W i T no w = 0 ∧ ∃ q, q < 100 ∧ y = yN W i T no (q / 10) (q % 10))
theorem q_wed25 {W : PW} {i no m : Nat} {T : Nat → Nat} (hi : i < 6) (hO : wdOk W) (hno : no < 8) (hm : m ≤ 9) : ∀ (e c n acc : Nat) (st : Option Nat) (X : aSt), c + e = m + 1 → e < n → (∀ w, st = some w → w < c ∧ fC W i T no w = 0) → (st = none → ∀ w, w < c → fC W i T no w ≠ 0) → IW W i T no X → (∃ l r w, IT i T no l r w X) → ∃ s X', f_X6_waysByWedges_25 n (nI m) (nI acc) (o1 st) (nI c) X = some (nI s, X') ∧ (∀ y, s.testBit y = true ↔ acc.testBit y = true ∨ (∃ w, c ≤ w ∧ w ≤ m ∧ fC W i T no w = 4 ∧ y = no) ∨ ((∃ w, w ≤ m ∧ fC W i T no w = 0) ∧ ∃ q, q < 100 ∧ y = yN W i T no (q / 10) (q % 10))) ∧ XF X X' ∧ IW W i T no X' ∧ ∃ l r w, IT i T no l r w X' := by
  intro e
  induction e with
  | zero =>
    intro c n acc st X h1 h2 hs hs0 hW hT
    obtain ⟨n, rfl⟩ : ∃ m, n = m + 1 := ⟨n - 1, by omega⟩
    rw [f_X6_waysByWedges_25, if_pos (nI_lt (by omega) (by omega))]
    cases st with
    | none =>
      rw [if_pos (show o1 none = -1 from rfl)]
      refine ⟨acc, X, rfl, fun y => ⟨Or.inl, ?_⟩, XF.rf X, hW, hT⟩
      rintro (h | ⟨w, w1, w2, -⟩ | ⟨⟨w, w1, w2⟩, -⟩)
      · exact h
      · omega
      · exact absurd w2 (hs0 rfl w (by omega))
    | some w =>
      obtain ⟨hw, h0⟩ := hs w rfl
      obtain ⟨l0, r0, w0, hT⟩ := hT
      have f1 := XF.up X (k := 33) 3 (nI w) (Or.inr rfl)
      obtain ⟨s, X1, g1, g2, g3, g4, l1, r1, g5⟩ := q_str14 (W := W) (T := T) hi hO hno h0 10 0 aF 0 (aUi X 33 3 (nI w)) (by omega) (by have := aF_big; omega) (IW_XF (k := 33) (Or.inr rfl) hW) ⟨l0, r0, IT_w (v := w) hT (by omega)⟩
      have g1 : f_X6_waysByStrip (nI w) X = some (nI s, X1) := by
        unfold f_X6_waysByStrip
        rw [aLt_eq, show 32 + 1 = 33 from rfl, show (0 : Int32) = nI 0 from rfl]
        exact g1
      rw [if_neg (show ¬ o1 (some w) = -1 from neg_ne (x := -1) (show w < 2 ^ 31 by omega) (by decide)), show o1 (some w) = nI w from rfl, g1, aB_some, nx_or]
      refine ⟨acc ||| s, X1, rfl, fun y => ?_, f1.tr g3, g4, l1, r1, w, g5⟩
      rw [Nat.testBit_or, Bool.or_eq_true, g2 y, Nat.zero_testBit]
      constructor
      · rintro (h | h | ⟨q, -, q2, q3⟩)
        · exact Or.inl h
        · cases h
        · exact Or.inr (Or.inr ⟨⟨w, by omega, h0⟩, q, q2, q3⟩)
      · rintro (h | ⟨w, w1, w2, -⟩ | ⟨-, q, q2, q3⟩)
        · exact Or.inl h
        · omega
        · exact Or.inr (Or.inr ⟨q, by omega, q2, q3⟩)
  | succ e ih =>
    intro c n acc st X h1 h2 hs hs0 hW hT
    obtain ⟨n, rfl⟩ : ∃ m, n = m + 1 := ⟨n - 1, by omega⟩
    obtain ⟨l0, r0, w0, hT⟩ := hT
    have f1 := XF.up X (k := 33) 3 (nI c) (Or.inr rfl)
    obtain ⟨X1, e1, e2, e3, e4, e5, e6⟩ := q_pushP hi hO (IW_XF (k := 33) (Or.inr rfl) hW) (IT_w (v := c) hT (by omega))
    have hlt := fH_lt W i T no l0 r0 c
    rw [f_X6_waysByWedges_25, if_neg (nI_nlt (by omega) (by omega)), aLt_eq, show 32 + 1 = 33 from rfl, e1, aB_some, e3, e4, q_bitY hno, aB_some, aLt_eq, nx_or]
    unfold f_X6_waysByWedges_102
    simp only [aLt_eq, nI_1]
    rcases fC_c W i T no c with hc | hc | hc
    · have hH : fH W i T no l0 r0 c = hS W i T no l0 r0 := by rw [fH_C, if_pos hc]
      have h3 := hS_c W i T no l0 r0
      rw [if_neg (show ¬ nI (fH W i T no l0 r0 c) = 4 from fun k => by have := (nI_eq (b := 4) (by omega) (by omega)).mp k; omega), if_neg (show ¬ nI (fH W i T no l0 r0 c) = 2 from fun k => by have := (nI_eq (b := 2) (by omega) (by omega)).mp k; omega)]
      obtain ⟨s, X', g1, g2, g3, g4, g5⟩ := ih (c + 1) n acc (some c) X1 (by omega) (by omega) (fun w hw => by cases hw; exact ⟨by omega, hc⟩) (fun h => by cases h) e5 ⟨l0, r0, c, e6⟩
      refine ⟨s, X', g1, fun y => ?_, (f1.tr (XF.cf e2)).tr g3, g4, g5⟩
      rw [g2 y]
      constructor
      · rintro (h | ⟨w, w1, w2, w3⟩ | h)
        · exact Or.inl h
        · exact Or.inr (Or.inl ⟨w, by omega, w2, w3⟩)
        · exact Or.inr (Or.inr h)
      · rintro (h | ⟨w, w1, w2, w3, w4⟩ | h)
        · exact Or.inl h
        · by_cases k : w = c
          · subst k; omega
          · exact Or.inr (Or.inl ⟨w, by omega, w2, w3, w4⟩)
        · exact Or.inr (Or.inr h)
    · have hH : fH W i T no l0 r0 c = 4 := by rw [fH_C, if_neg (by omega), hc]
      rw [hH, if_pos (show nI 4 = (4 : Int32) from rfl)]
      obtain ⟨s, X', g1, g2, g3, g4, g5⟩ := ih (c + 1) n (acc ||| yB W i T no l0 r0 c) st X1 (by omega) (by omega) (fun w hw => ⟨by have := (hs w hw).1; omega, (hs w hw).2⟩) (fun h w hw => by
        by_cases k : w = c
        · subst k; omega
        · exact hs0 h w (by omega)) e5 ⟨l0, r0, c, e6⟩
      refine ⟨s, X', g1, fun y => ?_, (f1.tr (XF.cf e2)).tr g3, g4, g5⟩
      rw [g2 y, Nat.testBit_or, Bool.or_eq_true, yB_bit]
      constructor
      · rintro ((h | ⟨h, -⟩ | ⟨-, h⟩) | ⟨w, w1, w2, w3⟩ | h)
        · exact Or.inl h
        · omega
        · exact Or.inr (Or.inl ⟨c, by omega, by omega, hc, h⟩)
        · exact Or.inr (Or.inl ⟨w, by omega, w2, w3⟩)
        · exact Or.inr (Or.inr h)
      · rintro (h | ⟨w, w1, w2, w3, w4⟩ | h)
        · exact Or.inl (Or.inl h)
        · by_cases k : w = c
          · exact Or.inl (Or.inr (Or.inr ⟨hc, w4⟩))
          · exact Or.inr (Or.inl ⟨w, by omega, w2, w3, w4⟩)
        · exact Or.inr (Or.inr h)
    · have hH : fH W i T no l0 r0 c = 2 := by rw [fH_C, if_neg (by omega), hc]
      rw [hH, if_neg (show ¬ nI 2 = (4 : Int32) by decide), if_pos (show nI 2 = (2 : Int32) from rfl)]
      obtain ⟨s, X', g1, g2, g3, g4, g5⟩ := ih (c + 1) n acc st X1 (by omega) (by omega) (fun w hw => ⟨by have := (hs w hw).1; omega, (hs w hw).2⟩) (fun h w hw => by
        by_cases k : w = c
        · subst k; omega
        · exact hs0 h w (by omega)) e5 ⟨l0, r0, c, e6⟩
      refine ⟨s, X', g1, fun y => ?_, (f1.tr (XF.cf e2)).tr g3, g4, g5⟩
      rw [g2 y]
      constructor
      · rintro (h | ⟨w, w1, w2, w3⟩ | h)
        · exact Or.inl h
        · exact Or.inr (Or.inl ⟨w, by omega, w2, w3⟩)
        · exact Or.inr (Or.inr h)
      · rintro (h | ⟨w, w1, w2, w3, w4⟩ | h)
        · exact Or.inl h
        · by_cases k : w = c
          · subst k; omega
          · exact Or.inr (Or.inl ⟨w, by omega, w2, w3, w4⟩)
        · exact Or.inr (Or.inr h)
theorem q_wide61 {W : PW} {i m : Nat} {T : Nat → Nat} (hi : i < 6) (hO : wdOk W) (hm : m ≤ 9) : ∀ (e no n acc : Nat) (X : aSt), no + e = 8 → e < n → RXW 4 W X → (∃ no l r w, IT i T no l r w X) → ∃ s X', f_X6_wide_61 n (nI m) (nI acc) (nI no) X = some (nI s, X') ∧ (∀ y, s.testBit y = true ↔ acc.testBit y = true ∨ ∃ o w, no ≤ o ∧ o < 8 ∧ w ≤ m ∧ wQ W i T o y w) ∧ XF X X' := by
  intro e
  induction e with
  | zero =>
    intro no n acc X h1 h2 hW hT
    obtain ⟨n, rfl⟩ : ∃ m, n = m + 1 := ⟨n - 1, by omega⟩
    have h8 : no = 8 := by omega
    subst h8
    rw [f_X6_wide_61, if_pos (show (8 : Int32) ≤ nI 8 from Int32.le_refl _)]
    refine ⟨acc, X, rfl, fun y => ⟨Or.inl, ?_⟩, XF.rf X⟩
    rintro (h | ⟨o, w, o1, o2, -⟩)
    · exact h
    · omega
  | succ e ih =>
    intro no n acc X h1 h2 hW hT
    obtain ⟨n, rfl⟩ : ∃ m, n = m + 1 := ⟨n - 1, by omega⟩
    obtain ⟨n0, l0, r0, w0, hT⟩ := hT
    have f1 := XF.up X (k := 33) 0 (nI no) (Or.inr rfl)
    obtain ⟨X1, w1, w2, w3, w4⟩ := q_weighP hi hO (RXW_XF f1 hW) (IT_n (v := no) hT (by omega))
    obtain ⟨s, X2, g1, g2, g3, g4, l2, r2, w2', g5⟩ := q_wed25 (T := T) hi hO (show no < 8 by omega) hm (m + 1) 0 aF 0 none X1 (by omega) (by have := aF_big; omega) (fun w h => by cases h) (fun _ w hw => absurd hw (by omega)) w3 ⟨_, _, _, w4⟩
    have g1 : f_X6_waysByWedges_25 aF (nI m) 0 (-1) 0 X1 = some (nI s, X2) := g1
    rw [f_X6_wide_61, if_neg (show ¬ (8 : Int32) ≤ nI no from nI_ge (b := 8) (by omega) (by omega)), aLt_eq, show 32 + 1 = 33 from rfl]
    unfold f_X6_waysByWedges
    rw [w1, aB_some, g1, aB_some, aLt_eq, aLt_eq, nI_1, nx_or]
    obtain ⟨s', X', j1, j2, j3⟩ := ih (no + 1) n (acc ||| s) X2 (by omega) (by omega) g4.1 ⟨_, _, _, _, g5⟩
    refine ⟨s', X', j1, fun y => ?_, ((f1.tr (XF.cf w2)).tr g3).tr j3⟩
    rw [j2 y, Nat.testBit_or, Bool.or_eq_true, g2 y, Nat.zero_testBit]
    constructor
    · rintro ((h | h | ⟨w, -, k2, k3, k4⟩ | ⟨⟨w, k1, k2⟩, k3⟩) | ⟨o, w, k1, k2⟩)
      · exact Or.inl h
      · cases h
      · exact Or.inr ⟨no, w, by omega, by omega, k2, Or.inl ⟨k3, k4⟩⟩
      · exact Or.inr ⟨no, w, by omega, by omega, k1, Or.inr ⟨k2, k3⟩⟩
      · exact Or.inr ⟨o, w, by omega, k2⟩
    · rintro (h | ⟨o, w, k1, k2, k3, k4⟩)
      · exact Or.inl (Or.inl h)
      · by_cases c : o = no
        · subst c
          left
          right
          rcases k4 with ⟨q1, q2⟩ | ⟨q1, q2⟩
          · exact Or.inr (Or.inl ⟨w, by omega, k3, q1, q2⟩)
          · exact Or.inr (Or.inr ⟨⟨w, k3, q1⟩, q2⟩)
        · exact Or.inr ⟨o, w, by omega, k2, k3, k4⟩
theorem q_wide43 {W : PW} {nW i m : Nat} {T : Nat → Nat} (hi : i < 6) (hO : wdOk W) (hB : TB T) (hn : nW ≤ 5) (hm : m ≤ 9) : ∀ (e k n acc : Nat) (M : aSt), k + e = 800 * (m + 1) → e < n → RMW nW W (M.1 1) → TM8 i T (M.1 1) → ∃ s M', f_X7_wide_43 n (nI i) (nI m) (nI acc) (nI k) M = some (nI s, M') ∧ (∀ y, s.testBit y = true ↔ acc.testBit y = true ∨ ∃ q, k ≤ q ∧ q < 800 * (m + 1) ∧ (yB W i T (q / 100 % 8) (q / 10 % 10) (q % 10) (q / 800)).testBit y = true) ∧ PB M M' := by
  intro e
  induction e with
  | zero =>
    intro k n acc M h1 h2 hW hT
    obtain ⟨n, rfl⟩ : ∃ m, n = m + 1 := ⟨n - 1, by omega⟩
    obtain ⟨M', g1, g2⟩ := q_l102 0 M
    rw [f_X7_wide_43, nI_1, show (800 : Int32) = nI 800 from rfl, pk_mul, if_pos (nI_le (by omega) (by omega)), g1, aB_some]
    refine ⟨acc, M', rfl, fun y => ⟨Or.inl, ?_⟩, g2⟩
    rintro (h | ⟨q, q1, q2, -⟩)
    · exact h
    · omega
  | succ e ih =>
    intro k n acc M h1 h2 hW hT
    obtain ⟨n, rfl⟩ : ∃ m, n = m + 1 := ⟨n - 1, by omega⟩
    obtain ⟨d1, d2⟩ := q_div10 (k := k) (by omega)
    have d3 : nI k / nI 100 - nI k / nI 100 / nI 8 * nI 8 = nI (k / 100 % 8) := by
      rw [pk_div (by omega) (by omega) (by omega)]
      exact pk_rem (by omega) (by omega) (by omega)
    obtain ⟨M1, M2, e1, e2, e3, e4, e5, e6⟩ := q_tryM (no := k / 100 % 8) (l := k / 10 % 10) (r := k % 10) (w := k / 800) hi hO hB hn hW hT (by omega) (by omega) (by omega) (by omega)
    have hy := yN_lt (W := W) (i := i) (T := T) (no := k / 100 % 8) (l := k / 10 % 10) (r := k % 10) (by omega)
    rw [f_X7_wide_43, d1, d2, show (100 : Int32) = nI 100 from rfl, show (8 : Int32) = nI 8 from rfl, d3, nI_1, show (800 : Int32) = nI 800 from rfl, pk_mul, pk_div (by omega) (by omega) (by omega), if_neg (nI_ge (by omega) (by omega)), e1, aB_some, e2, aB_some, e6]
    unfold f_X7_wide_113
    simp only [aLt_eq, nI_1]
    obtain ⟨s, M', g1, g2, g3⟩ := ih (k + 1) n (acc ||| yB W i T (k / 100 % 8) (k / 10 % 10) (k % 10) (k / 800)) M2 (by omega) (by omega) (RMW_ND hn e3 hW) (TM8_ND hi e3 hT)
    refine ⟨s, M', ?_, fun y => ?_, PB.tr e3 e4 g3⟩
    · refine Eq.trans ?_ g1
      rcases fC_c W i T (k / 100 % 8) (k / 800) with h | h | h
      · have hv : wy (fH W i T (k / 100 % 8) (k / 10 % 10) (k % 10) (k / 800)) (fA T (k / 100 % 8) (k / 10 % 10) (k % 10)) (k / 100 % 8) = nI (yN W i T (k / 100 % 8) (k / 10 % 10) (k % 10)) := by rw [wy_C, if_pos h]
        have hb : yB W i T (k / 100 % 8) (k / 10 % 10) (k % 10) (k / 800) = 2 ^ yN W i T (k / 100 % 8) (k / 10 % 10) (k % 10) := by unfold yB; rw [if_pos h]
        rw [hv, hb, if_neg (neg_ne (x := -5) (by omega) (by decide)), i1_p (by omega), nx_or]
      · have hv : wy (fH W i T (k / 100 % 8) (k / 10 % 10) (k % 10) (k / 800)) (fA T (k / 100 % 8) (k / 10 % 10) (k % 10)) (k / 100 % 8) = nI (k / 100 % 8) := by rw [wy_C, if_neg (by omega), if_pos h]
        have hb : yB W i T (k / 100 % 8) (k / 10 % 10) (k % 10) (k / 800) = 2 ^ (k / 100 % 8) := by unfold yB; rw [if_neg (by omega), if_pos h]
        rw [hv, hb, if_neg (neg_ne (x := -5) (by omega) (by decide)), i1_p (by omega), nx_or]
      · have hv : wy (fH W i T (k / 100 % 8) (k / 10 % 10) (k % 10) (k / 800)) (fA T (k / 100 % 8) (k / 10 % 10) (k % 10)) (k / 100 % 8) = -5 := by rw [wy_C, if_neg (by omega), if_neg (by omega)]
        have hb : yB W i T (k / 100 % 8) (k / 10 % 10) (k % 10) (k / 800) = 0 := by unfold yB; rw [if_neg (by omega), if_neg (by omega)]
        rw [hv, hb, if_pos rfl, show (0 : Int32) = nI 0 from rfl, nx_or]
    · rw [g2 y, Nat.testBit_or, Bool.or_eq_true]
      constructor
      · rintro ((h | h) | ⟨q, q1, q2, q3⟩)
        · exact Or.inl h
        · exact Or.inr ⟨k, by omega, by omega, h⟩
        · exact Or.inr ⟨q, by omega, q2, q3⟩
      · rintro (h | ⟨q, q1, q2, q3⟩)
        · exact Or.inl (Or.inl h)
        · by_cases c : q = k
          · subst c; exact Or.inl (Or.inr q3)
          · exact Or.inr ⟨q, by omega, q2, q3⟩
theorem wide_eq {W : PW} {i m s s' : Nat} {T : Nat → Nat} (h1 : ∀ y, s.testBit y = true ↔ (0 : Nat).testBit y = true ∨ ∃ o w, 0 ≤ o ∧ o < 8 ∧ w ≤ m ∧ wQ W i T o y w) (h2 : ∀ y, s'.testBit y = true ↔ (0 : Nat).testBit y = true ∨ ∃ q, 0 ≤ q ∧ q < 800 * (m + 1) ∧ (yB W i T (q / 100 % 8) (q / 10 % 10) (q % 10) (q / 800)).testBit y = true) : s = s' := by
  apply Nat.eq_of_testBit_eq
  intro y
  rw [Bool.eq_iff_iff, h1 y, h2 y]
  constructor
  · rintro (h | ⟨o, w, -, o2, w1, ⟨k1, k2⟩ | ⟨k1, q, q1, q2⟩⟩)
    · exact Or.inl h
    · refine Or.inr ⟨800 * w + 100 * o, by omega, by omega, ?_⟩
      rw [show (800 * w + 100 * o) / 100 % 8 = o by omega, show (800 * w + 100 * o) / 800 = w by omega, yB_bit]
      exact Or.inr ⟨k1, k2⟩
    · refine Or.inr ⟨800 * w + 100 * o + q, by omega, by omega, ?_⟩
      rw [show (800 * w + 100 * o + q) / 100 % 8 = o by omega, show (800 * w + 100 * o + q) / 800 = w by omega, show (800 * w + 100 * o + q) / 10 % 10 = q / 10 by omega, show (800 * w + 100 * o + q) % 10 = q % 10 by omega, yB_bit]
      exact Or.inl ⟨k1, q2⟩
  · rintro (h | ⟨q, -, q1, q2⟩)
    · exact Or.inl h
    · rw [yB_bit] at q2
      refine Or.inr ⟨q / 100 % 8, q / 800, by omega, by omega, by omega, ?_⟩
      rcases q2 with ⟨k1, k2⟩ | ⟨k1, k2⟩
      · refine Or.inr ⟨k1, q % 100, by omega, ?_⟩
        rw [show q % 100 / 10 = q / 10 % 10 by omega, show q % 100 % 10 = q % 10 by omega]
        exact k2
      · exact Or.inl ⟨k1, k2⟩
theorem pu_wide_ok : pu_wide Rel := by
  intro K X M p q hR
  obtain ⟨⟨P, hV, hX, hM⟩, -, -⟩ := id hR
  have hn := hV.1
  unfold f_X6_wide f_X7_wide
  rcases tree_cases p hV hX hM with ⟨i, hi, rfl, e1, e2⟩ | ⟨e1, e2⟩
  · rw [e1, e2, aB_some, aB_some, aO_some, if_neg (show ¬ (1 : Int32) = 0 by decide)]
    rcases in_cases q 9 (by omega) X M with ⟨a, ha, rfl, o1, i1⟩ | ⟨-, o1, i1⟩
    · rw [show f_X6_outside (nI a) 9 X = some (0, X) from o1, show f_X7_in (nI a) 0 9 M = some (1, M) from i1, aB_some, aB_some, if_pos rfl, if_neg (show ¬ (1 : Int32) = 0 by decide)]
      rcases st_cases hV hX hM hi with ⟨s1, s2, -⟩ | ⟨s1, s2, -⟩
      · rw [if_pos s1, s2, aB_some, if_pos rfl]
        exact ⟨_, X, M, rfl, rfl, hR⟩
      · obtain ⟨X1, r1, r2, r3, r4⟩ := q_trial hV hX hi
        have hB := TB_of hV hi
        obtain ⟨M1, k1, k2, k3, k4⟩ := q_keeps 36 0 aF M (by omega) (by have := aF_big; omega) (fun j hj => absurd hj (by omega))
        have k1 : f_X7_keepsPlans M = some ((), M1) := k1
        have f2 := XF.up X1 (k := 33) 5 (nI 0) (Or.inr rfl)
        obtain ⟨s, X3, g1, g2, g3⟩ := q_wide61 (W := pWd P) (T := pT P i) (show i < 6 by omega) (W_of hV) ha 8 0 aF 0 (aUi X1 33 5 (nI 0)) (by omega) (by have := aF_big; omega) (RXW_XF f2 (RXW_of r3)) ⟨_, _, _, _, IT_of hB r4⟩
        obtain ⟨s', M3, j1, j7, M2, j2, j3, j4, j5, j6⟩ := q_wide43 (T := pT P i) (show i < 6 by omega) (W_of hV) hB hV.2.1 ha (800 * (a + 1)) 0 aF 0 M1 (by omega) (by have := aF_big; omega) (by rw [k2 1 (by omega)]; exact RMW_of hM) (fun j hj => by rw [k2 1 (by omega)]; exact (TM_of hM hi).1 j hj)
        have hs : s = s' := wide_eq g2 j7
        subst hs
        rw [if_neg s1, s2, aB_some, if_neg (show ¬ (1 : Int32) = 0 by decide), r1, aB_some, aLt_eq, show 32 + 1 = 33 from rfl, show (0 : Int32) = nI 0 from rfl, k1, aB_some]
        exact ⟨_, X3, M3, g1, j1, Rel_look hR ((r2.tr f2).tr g3) (MF_plans k2 k4 j2 j3 j4 j5 j6)⟩
    · rw [show f_X6_outside q 9 X = some (1, X) from o1, show f_X7_in q 0 9 M = some (0, M) from i1, aB_some, aB_some, if_neg (show ¬ (1 : Int32) = 0 by decide), if_pos rfl]
      exact ⟨_, X, M, rfl, rfl, hR⟩
  · rw [e1, e2, aB_some, aB_some, if_pos rfl, aO_none]
    exact ⟨_, X, M, rfl, rfl, hR⟩

/-! PURE PART: least -/
def fst1 (f : Nat → Bool) : Nat → Nat → Option Nat
  | 0, _ => none
  | e + 1, p => if f p = true then some p else fst1 f e (p + 1)
theorem fst1_in {f : Nat → Bool} : ∀ {e p x : Nat}, fst1 f e p = some x → p ≤ x ∧ x < p + e
  | 0, _, _, h => by cases h
  | e + 1, p, x, h => by
    unfold fst1 at h
    by_cases c : f p = true
    · rw [if_pos c] at h
      cases h
      omega
    · rw [if_neg c] at h
      have := fst1_in h
      omega
theorem fst1_add {f : Nat → Bool} (b : Nat) : ∀ a p, fst1 f (a + b) p = match fst1 f a p with | some x => some x | none => fst1 f b (p + a)
  | 0, p => by rw [Nat.zero_add]; rfl
  | a + 1, p => by
    rw [show a + 1 + b = (a + b) + 1 by omega]
    show (if f p = true then some p else fst1 f (a + b) (p + 1)) = match (if f p = true then some p else fst1 f a (p + 1)) with | some x => some x | none => fst1 f b (p + (a + 1))
    by_cases c : f p = true
    · rw [if_pos c, if_pos c]
    · rw [if_neg c, if_neg c, fst1_add b a (p + 1), show p + 1 + a = p + (a + 1) by omega]
def oR (w : Nat) (o : Option Nat) : Int32 := match o with
  | none => -5
  | some x => nI (x - 100 * w)
def ls (W : PW) (i : Nat) (T : Nat → Nat) (no : Nat) (k : Nat) : Bool := decide (fH W i T no (k / 10 % 10) (k % 10) (k / 100) = 0)
theorem fH_lt (W : PW) (i : Nat) (T : Nat → Nat) (no l r w : Nat) : fH W i T no l r w < 5 := hw_lt _ _ _ _
theorem q_lst10 {W : PW} {i no l w E : Nat} {T : Nat → Nat} (hi : i < 6) (hO : wdOk W) (hl : l < 10) (hw : w < 10) (r2 : Int32 → aSt → Option (Int32 × aSt)) (HO : ∀ X, IW W i T no X → (∃ l r, IT i T no l r w X) → ∃ X', r2 (nI (l + 1)) X = some (oR w (fst1 (ls W i T no) E (100 * w + 10 * (l + 1))), X') ∧ XF X X' ∧ IW W i T no X' ∧ ∃ l r, IT i T no l r w X') : ∀ (e r n : Nat) (X : aSt), r + e = 10 → e < n → IW W i T no X → (∃ l r, IT i T no l r w X) → ∃ X', f_X6_leastStrip_10 r2 n (nI l) (nI r) X = some (oR w (fst1 (ls W i T no) (e + E) (100 * w + 10 * l + r)), X') ∧ XF X X' ∧ IW W i T no X' ∧ ∃ l r, IT i T no l r w X' := by
  intro e
  induction e with
  | zero =>
    intro r n X h1 h2 hW hT
    obtain ⟨n, rfl⟩ : ∃ m, n = m + 1 := ⟨n - 1, by omega⟩
    have hr : r = 10 := by omega
    subst hr
    rw [f_X6_leastStrip_10, if_pos (show (9 : Int32) < nI 10 by decide), aLt_eq, nI_1, Nat.zero_add, show 100 * w + 10 * l + 10 = 100 * w + 10 * (l + 1) by omega]
    exact HO X hW hT
  | succ e ih =>
    intro r n X h1 h2 hW hT
    obtain ⟨n, rfl⟩ : ∃ m, n = m + 1 := ⟨n - 1, by omega⟩
    obtain ⟨l0, r0, hT⟩ := hT
    have f1 := XF.up X (k := 33) 1 (nI l) (Or.inr rfl)
    have f2 := XF.up (aUi X 33 1 (nI l)) (k := 33) 2 (nI r) (Or.inr rfl)
    obtain ⟨X1, e1, e2, e3, e4, e5, e6⟩ := q_pushP hi hO (IW_XF (k := 33) (Or.inr rfl) (IW_XF (k := 33) (Or.inr rfl) hW)) (IT_r (v := r) (IT_l (v := l) hT (by omega)) (by omega))
    have hlt := fH_lt W i T no l r w
    rw [f_X6_leastStrip_10, if_neg (show ¬ (9 : Int32) < nI r from nI_nlt (a := 9) (by omega) (by omega)), aLt_eq, aLt_eq, show 32 + 1 = 33 from rfl, e1, aB_some, e3, aLt_eq, nI_1, show e + 1 + E = (e + E) + 1 by omega]
    have hls : ls W i T no (100 * w + 10 * l + r) = decide (fH W i T no l r w = 0) := by
      unfold ls
      rw [show (100 * w + 10 * l + r) / 10 % 10 = l by omega, show (100 * w + 10 * l + r) % 10 = r by omega, show (100 * w + 10 * l + r) / 100 = w by omega]
    show ∃ X', _ = some (oR w (if ls W i T no (100 * w + 10 * l + r) = true then some (100 * w + 10 * l + r) else fst1 (ls W i T no) (e + E) (100 * w + 10 * l + r + 1)), X') ∧ _
    rw [hls]
    by_cases c : fH W i T no l r w = 0
    · rw [if_pos (show nI (fH W i T no l r w) = 0 by rw [c]; rfl), decide_eq_true c, if_pos rfl]
      refine ⟨X1, ?_, (f1.tr f2).tr (XF.cf e2), e5, l, r, e6⟩
      show some ((10 : Int32) * nI l + nI r, X1) = some (nI (100 * w + 10 * l + r - 100 * w), X1)
      rw [show (10 : Int32) = nI 10 from rfl, pk_mul, nI_add, show 100 * w + 10 * l + r - 100 * w = 10 * l + r by omega]
    · rw [if_neg (nI_ne0 (by omega) (by omega)), decide_eq_false c, if_neg (by decide)]
      obtain ⟨X', g1, g2, g3, g4⟩ := ih (r + 1) n X1 (by omega) (by omega) e5 ⟨l, r, e6⟩
      exact ⟨X', g1, ((f1.tr f2).tr (XF.cf e2)).tr g2, g3, g4⟩
theorem q_lst2 {W : PW} {i no w : Nat} {T : Nat → Nat} (hi : i < 6) (hO : wdOk W) (hw : w < 10) : ∀ (e l n : Nat) (X : aSt), l + e = 10 → e < n → IW W i T no X → (∃ l r, IT i T no l r w X) → ∃ X', f_X6_leastStrip_2 n (nI l) X = some (oR w (fst1 (ls W i T no) (10 * e) (100 * w + 10 * l)), X') ∧ XF X X' ∧ IW W i T no X' ∧ ∃ l r, IT i T no l r w X' := by
  intro e
  induction e with
  | zero =>
    intro l n X h1 h2 hW hT
    obtain ⟨n, rfl⟩ : ∃ m, n = m + 1 := ⟨n - 1, by omega⟩
    have hl : l = 10 := by omega
    subst hl
    rw [f_X6_leastStrip_2, if_pos (show (9 : Int32) < nI 10 by decide)]
    exact ⟨X, rfl, XF.rf X, hW, hT⟩
  | succ e ih =>
    intro l n X h1 h2 hW hT
    obtain ⟨n, rfl⟩ : ∃ m, n = m + 1 := ⟨n - 1, by omega⟩
    rw [f_X6_leastStrip_2, if_neg (show ¬ (9 : Int32) < nI l from nI_nlt (a := 9) (by omega) (by omega))]
    have := q_lst10 (W := W) (no := no) (l := l) (w := w) (E := 10 * e) (T := T) hi hO (by omega) hw (fun l1 S => f_X6_leastStrip_2 n l1 S) (fun X hW hT => ih (l + 1) n X (by omega) (by omega) hW hT) 10 0 aF X (by omega) (by have := aF_big; omega) hW hT
    rw [show 10 * (e + 1) = 10 + 10 * e by omega]
    exact this
theorem q_lst83 {W : PW} {i no : Nat} {T : Nat → Nat} (hi : i < 6) (hO : wdOk W) : ∀ (e w n : Nat) (X : aSt), w + e = 10 → e < n → IW W i T no X → (∃ l r w, IT i T no l r w X) → ∃ X', f_X6_least_83 n (nI w) X = some (oI (fst1 (ls W i T no) (100 * e) (100 * w)), X') ∧ XF X X' := by
  intro e
  induction e with
  | zero =>
    intro w n X h1 h2 hW hT
    obtain ⟨n, rfl⟩ : ∃ m, n = m + 1 := ⟨n - 1, by omega⟩
    have hl : w = 10 := by omega
    subst hl
    rw [f_X6_least_83, if_pos (show (9 : Int32) < nI 10 by decide)]
    exact ⟨X, rfl, XF.rf X⟩
  | succ e ih =>
    intro w n X h1 h2 hW hT
    obtain ⟨n, rfl⟩ : ∃ m, n = m + 1 := ⟨n - 1, by omega⟩
    obtain ⟨l0, r0, w0, hT⟩ := hT
    have f1 := XF.up X (k := 33) 3 (nI w) (Or.inr rfl)
    obtain ⟨X1, g1, g2, g3, l1, r1, g4⟩ := q_lst2 (W := W) (no := no) (w := w) (T := T) hi hO (by omega) 10 0 aF (aUi X 33 3 (nI w)) (by omega) (by have := aF_big; omega) (IW_XF (k := 33) (Or.inr rfl) hW) ⟨l0, r0, IT_w (v := w) hT (by omega)⟩
    have g1 : f_X6_leastStrip (aUi X 33 3 (nI w)) = some (oR w (fst1 (ls W i T no) 100 (100 * w)), X1) := g1
    rw [f_X6_least_83, if_neg (show ¬ (9 : Int32) < nI w from nI_nlt (a := 9) (by omega) (by omega)), aLt_eq, show 32 + 1 = 33 from rfl, g1, aB_some, aLt_eq, nI_1, show 100 * (e + 1) = 100 + 100 * e by omega, fst1_add]
    cases hf : fst1 (ls W i T no) 100 (100 * w) with
    | none =>
      rw [if_pos (show oR w none = -5 from rfl)]
      obtain ⟨X', j1, j2⟩ := ih (w + 1) n X1 (by omega) (by omega) g3 ⟨l1, r1, w, g4⟩
      rw [show 100 * (w + 1) = 100 * w + 100 by omega] at j1
      exact ⟨X', j1, (f1.tr g2).tr j2⟩
    | some x =>
      have hx := fst1_in hf
      rw [if_neg (show ¬ oR w (some x) = -5 from neg_ne (x := -5) (show x - 100 * w < 2 ^ 31 by omega) (by decide))]
      refine ⟨X1, ?_, f1.tr g2⟩
      show some ((100 : Int32) * nI w + nI (x - 100 * w), X1) = some (nI x, X1)
      rw [show (100 : Int32) = nI 100 from rfl, pk_mul, nI_add, show 100 * w + (x - 100 * w) = x by omega]
theorem q_div10 {k : Nat} (hk : k < 2 ^ 31) : nI k / (10 : Int32) - nI k / (10 : Int32) / (10 : Int32) * (10 : Int32) = nI (k / 10 % 10) ∧ nI k - nI k / (10 : Int32) * (10 : Int32) = nI (k % 10) := by
  rw [show (10 : Int32) = nI 10 from rfl]
  refine ⟨?_, pk_rem hk (by omega) (by omega)⟩
  rw [pk_div hk (by omega) (by omega)]
  exact pk_rem (by omega) (by omega) (by omega)
/-- behind the PLANS that were put back -/
def PB (M M' : aSt) : Prop := ∃ M2, ND dP M M2 ∧ M2.1 5 = M.1 5 ∧ (∀ q, q ≠ 1 → M'.1 q = M2.1 q) ∧ (∀ q, ¬ dP q → M'.1 1 q = M2.1 1 q) ∧ ∀ j, j < 36 → M'.1 1 (158 + j) = M2.1 5 j
theorem PB.tr {A B C : aSt} (h1 : ND dP A B) (h2 : B.1 5 = A.1 5) (h : PB B C) : PB A C := by
  obtain ⟨M2, g1, g2, g3⟩ := h
  exact ⟨M2, h1.tr g1, g2.trans h2, g3⟩
theorem q_l102 (x : Int32) (M : aSt) : ∃ M', f_X7_putsPlansBack M = some ((), M') ∧ PB M M' := by
  obtain ⟨M', g1, g2, g3, g4, g5⟩ := q_puts 36 0 aF M (by omega) (by have := aF_big; omega) (fun j hj => absurd hj (by omega))
  exact ⟨M', g1, M, ND.rf dP M, rfl, g2, g4, g5⟩
theorem q_lst38 {W : PW} {nW i no : Nat} {T : Nat → Nat} (hi : i < 6) (hO : wdOk W) (hB : TB T) (hn : nW ≤ 5) (hno : no ≤ 7) : ∀ (e k n : Nat) (M : aSt), k + e = 1000 → e + 1 < n → RMW nW W (M.1 1) → TM8 i T (M.1 1) → ∃ M', f_X7_least_38 n (nI i) (nI no) (-5) (nI k) M = some (oI (fst1 (ls W i T no) e k), M') ∧ PB M M' := by
  intro e
  induction e with
  | zero =>
    intro k n M h1 h2 hW hT
    obtain ⟨n, rfl⟩ : ∃ m, n = m + 1 := ⟨n - 1, by omega⟩
    have hk : k = 1000 := by omega
    subst hk
    obtain ⟨M', g1, g2⟩ := q_l102 (-5) M
    rw [f_X7_least_38, if_pos (show (1000 : Int32) ≤ nI 1000 from Int32.le_refl _)]
    unfold f_X7_least_102
    rw [g1, aB_some]
    exact ⟨M', rfl, g2⟩
  | succ e ih =>
    intro k n M h1 h2 hW hT
    obtain ⟨n, rfl⟩ : ∃ m, n = m + 1 := ⟨n - 1, by omega⟩
    obtain ⟨d1, d2⟩ := q_div10 (k := k) (by omega)
    obtain ⟨M1, M2, e1, e2, e3, e4, e5, e6⟩ := q_tryM (no := no) (l := k / 10 % 10) (r := k % 10) (w := k / 100) hi hO hB hn hW hT hno (by omega) (by omega) (by omega)
    have hlt := fH_lt W i T no (k / 10 % 10) (k % 10) (k / 100)
    rw [f_X7_least_38, if_neg (show ¬ (1000 : Int32) ≤ nI k from nI_ge (b := 1000) (by omega) (by omega)), if_pos rfl, d1, d2, show (100 : Int32) = nI 100 from rfl, pk_div (by omega) (by omega) (by omega), e1, aB_some, e2, aB_some, e5]
    unfold f_X7_least_95
    simp only [aLt_eq, nI_1]
    show ∃ M', _ = some (oI (if ls W i T no k = true then some k else fst1 (ls W i T no) e (k + 1)), M') ∧ _
    have hls : ls W i T no k = decide (fH W i T no (k / 10 % 10) (k % 10) (k / 100) = 0) := rfl
    rw [hls]
    by_cases c : fH W i T no (k / 10 % 10) (k % 10) (k / 100) = 0
    · rw [if_pos (show nI (fH W i T no (k / 10 % 10) (k % 10) (k / 100)) = 0 by rw [c]; rfl), decide_eq_true c, if_pos rfl]
      obtain ⟨n, rfl⟩ : ∃ m, n = m + 1 := ⟨n - 1, by omega⟩
      obtain ⟨M', g1, g2⟩ := q_l102 (nI k) M2
      rw [f_X7_least_38, if_neg (show ¬ nI k = -5 from neg_ne (x := -5) (by omega) (by decide)), ite_self]
      unfold f_X7_least_102
      rw [g1, aB_some]
      exact ⟨M', rfl, PB.tr e3 e4 g2⟩
    · rw [if_neg (nI_ne0 (by omega) (by omega)), decide_eq_false c, if_neg (by decide)]
      obtain ⟨M', g1, g2⟩ := ih (k + 1) n M2 (by omega) (by omega) (RMW_ND hn e3 hW) (TM8_ND hi e3 hT)
      exact ⟨M', g1, PB.tr e3 e4 g2⟩
theorem IT_of {i : Nat} {T : Nat → Nat} {X : aSt} (hB : TB T) (h : TX 32 i T X) : IT i T (T 8) (T 9) (T 10) (T 11) (aUi X 33 5 (nI 0)) := by
  refine ⟨uT T (8 + 5) 0, TX_uP (c := 32) h, TB_uT hB (Nat.zero_le _) (by omega), fun j hj => uT_ne (by omega), uT_ne (by omega), uT_ne (by omega), uT_ne (by omega), uT_ne (by omega), uT_at _ _ _⟩
theorem pu_least_ok : pu_least Rel := by
  intro K X M p q hR
  obtain ⟨⟨P, hV, hX, hM⟩, -, -⟩ := id hR
  have hn := hV.1
  unfold f_X6_least f_X7_least f_X7_isWay
  rcases tree_cases p hV hX hM with ⟨i, hi, rfl, e1, e2⟩ | ⟨e1, e2⟩
  · rw [e1, e2, aB_some, aB_some, aO_some, if_neg (show ¬ (1 : Int32) = 0 by decide)]
    rcases in_cases q 7 (by omega) X M with ⟨a, ha, rfl, o1, i1⟩ | ⟨-, o1, i1⟩
    · rw [show f_X6_outside (nI a) 7 X = some (0, X) from o1, show f_X7_in (nI a) 0 7 M = some (1, M) from i1, aB_some, aB_some, if_pos (show (1 : Int32) = 0 ∨ (1 : Int32) = 1 from Or.inr rfl), aB_some, if_pos rfl, if_neg (show ¬ (1 : Int32) = 0 by decide)]
      rcases st_cases hV hX hM hi with ⟨s1, s2, -⟩ | ⟨s1, s2, -⟩
      · rw [if_pos s1, s2, aB_some, if_pos rfl]
        exact ⟨_, X, M, rfl, rfl, hR⟩
      · obtain ⟨X1, r1, r2, r3, r4⟩ := q_trial hV hX hi
        have hB := TB_of hV hi
        obtain ⟨M1, k1, k2, k3, k4⟩ := q_keeps 36 0 aF M (by omega) (by have := aF_big; omega) (fun j hj => absurd hj (by omega))
        have k1 : f_X7_keepsPlans M = some ((), M1) := k1
        have hT0 : TX 32 i (uT (pT P i) 8 a) (aUi X1 33 0 (nI a)) := TX_uP (c := 32) (k := 0) r4
        have hB0 : TB (uT (pT P i) 8 a) := TB_uT hB (show a ≤ 7 from ha) (by omega)
        have hI : IT i (pT P i) a (pT P i 9) (pT P i 10) (pT P i 11) (aUi (aUi X1 33 0 (nI a)) 33 5 (nI 0)) := by
          obtain ⟨T', t1, t2, t3⟩ := IT_of hB0 hT0
          refine ⟨T', t1, t2, fun j hj => by rw [t3.1 j hj, uT_ne (by omega)], by rw [t3.2.1, uT_at], by rw [t3.2.2.1, uT_ne (by omega)], by rw [t3.2.2.2.1, uT_ne (by omega)], by rw [t3.2.2.2.2.1, uT_ne (by omega)], t3.2.2.2.2.2⟩
        have f1 := XF.up X1 (k := 33) 0 (nI a) (Or.inr rfl)
        have f2 := XF.up (aUi X1 33 0 (nI a)) (k := 33) 5 (nI 0) (Or.inr rfl)
        obtain ⟨X2, w1, w2, w3, w4⟩ := q_weighP (show i < 6 by omega) (W_of hV) (RXW_XF (f1.tr f2) (RXW_of r3)) hI
        obtain ⟨X3, g1, g2⟩ := q_lst83 (show i < 6 by omega) (W_of hV) 10 0 aF X2 (by omega) (by have := aF_big; omega) w3 ⟨_, _, _, w4⟩
        obtain ⟨M3, j1, M2, j2, j3, j4, j5, j6⟩ := q_lst38 (T := pT P i) (no := a) (show i < 6 by omega) (W_of hV) hB hV.2.1 ha 1000 0 aF M1 (by omega) (by have := aF_big; omega) (by rw [k2 1 (by omega)]; exact RMW_of hM) (fun j hj => by rw [k2 1 (by omega)]; exact (TM_of hM hi).1 j hj)
        rw [if_neg s1, s2, aB_some, if_neg (show ¬ (1 : Int32) = 0 by decide), r1, aB_some, aLt_eq, aLt_eq, show 32 + 1 = 33 from rfl, show (0 : Int32) = nI 0 from rfl, w1, aB_some, k1, aB_some]
        exact ⟨_, X3, M3, g1, j1, Rel_look hR ((((r2.tr f1).tr f2).tr (XF.cf w2)).tr g2) (MF_plans k2 k4 j2 j3 j4 j5 j6)⟩
    · rw [show f_X6_outside q 7 X = some (1, X) from o1, show f_X7_in q 0 7 M = some (0, M) from i1, aB_some, aB_some, if_pos (show (0 : Int32) = 0 ∨ (0 : Int32) = 1 from Or.inl rfl), aB_some, if_neg (show ¬ (1 : Int32) = 0 by decide), if_pos rfl]
      exact ⟨_, X, M, rfl, rfl, hR⟩
  · rw [e1, e2, aB_some, aB_some, if_pos rfl, aO_none]
    exact ⟨_, X, M, rfl, rfl, hR⟩

/-! PURE PART: image, undo -/
theorem q_copyW {c d : Nat} {S : aSt} (hd : c + 5 ≤ d ∨ d + 5 ≤ c) : ∃ S', f_X5_copyFrom c d S = some ((), S') ∧ S'.2 = S.2 ∧ (∀ k, (k < c ∨ c + 5 ≤ k) → S'.1 k = S.1 k) ∧ (∀ j, j < 4 → S'.1 c j = S.1 d j) ∧ (∀ j, j < 10 → S'.1 (c + 1) j = S.1 (d + 1) j ∧ S'.1 (c + 2) j = S.1 (d + 2) j ∧ S'.1 (c + 3) j = S.1 (d + 3) j) ∧ ∀ j, j < 100 → S'.1 (c + 4) j = S.1 (d + 4) j := by
  unfold f_X5_copyFrom
  simp only [aLt_eq]
  refine ⟨_, rfl, rfl, fun k hk => ?_, fun j hj => ?_, fun j hj => ⟨?_, ?_, ?_⟩, fun j hj => ?_⟩
  · rw [aCp_ne (by omega), aCp_ne (by omega), aCp_ne (by omega), aCp_ne (by omega), aUi_row (by omega), aUi_row (by omega), aUi_row (by omega), aUi_row (by omega)]
  · have hdc : d ≠ c := by omega
    rw [aCp_ne (by omega), aCp_ne (by omega), aCp_ne (by omega), aCp_ne (by omega)]
    simp only [aUi_rd, hdc, false_and, if_false, true_and]
    rcases (show j = 0 ∨ j = 1 ∨ j = 2 ∨ j = 3 by omega) with rfl | rfl | rfl | rfl <;> simp
  · rw [aCp_ne (by omega), aCp_ne (by omega), aCp_ne (by omega), aCp_at hj, aUi_row (by omega), aUi_row (by omega), aUi_row (by omega), aUi_row (by omega)]
  · rw [aCp_ne (by omega), aCp_ne (by omega), aCp_at hj, aCp_ne (by omega), aUi_row (by omega), aUi_row (by omega), aUi_row (by omega), aUi_row (by omega)]
  · rw [aCp_ne (by omega), aCp_at hj, aCp_ne (by omega), aCp_ne (by omega), aUi_row (by omega), aUi_row (by omega), aUi_row (by omega), aUi_row (by omega)]
  · rw [aCp_at hj, aCp_ne (by omega), aCp_ne (by omega), aCp_ne (by omega), aUi_row (by omega), aUi_row (by omega), aUi_row (by omega), aUi_row (by omega)]
theorem RXW_copy {c d : Nat} {W : PW} {S S' : aSt} (hO : wdOk W) (h : RXW d W S) (h1 : ∀ j, j < 4 → S'.1 c j = S.1 d j) (h2 : ∀ j, j < 10 → S'.1 (c + 1) j = S.1 (d + 1) j ∧ S'.1 (c + 2) j = S.1 (d + 2) j ∧ S'.1 (c + 3) j = S.1 (d + 3) j) (h3 : ∀ j, j < 100 → S'.1 (c + 4) j = S.1 (d + 4) j) : RXW c W S' := by
  obtain ⟨o1, o2, o3, o4, o5⟩ := hO
  obtain ⟨r1, r2, r3, r4, r5, r6⟩ := h
  refine ⟨by rw [h1 0 (by omega)]; exact r1, by rw [h1 2 (by omega)]; exact r2, by rw [h1 3 (by omega)]; exact r3, fun i hi => ?_, fun i hi => ?_, fun i hi => ?_⟩
  · rw [(h2 i (by omega)).1, (h2 i (by omega)).2.1]; exact r4 i hi
  · rw [(h2 i (by rw [clE_len] at hi; omega)).2.2]; exact r5 i hi
  · rw [h3 i (by rw [fl_len] at hi; omega)]; exact r6 i hi
theorem q_cp91 {P : PS} {g g' : Nat} (hV : PV P) (hd : g + 21 ≤ g' ∨ g' + 21 ≤ g) : ∀ (e t n : Nat) (S : aSt), t + e = pN P → e < n → S.1 g 4 = nI (pN P) → (∀ i, i < pN P → TX (g' + 9 + 2 * i) i (pT P i) S) → (∀ i, i < t → TX (g + 9 + 2 * i) i (pT P i) S) → ∃ S', f_X2_copyFrom_91 n g g' (nI t) S = some ((), S') ∧ S'.2 = S.2 ∧ (∀ k, (k < g + 9 ∨ g + 21 ≤ k) → S'.1 k = S.1 k) ∧ ∀ i, i < pN P → TX (g + 9 + 2 * i) i (pT P i) S' := by
  have hn := hV.1
  intro e
  induction e with
  | zero =>
    intro t n S h1 h2 h4 hs ht
    obtain ⟨n, rfl⟩ : ∃ m, n = m + 1 := ⟨n - 1, by omega⟩
    have h : t = pN P := by omega
    rw [f_X2_copyFrom_91, h4, h, if_pos (Int32.le_refl _)]
    exact ⟨S, rfl, rfl, fun _ _ => rfl, fun i hi => ht i (by omega)⟩
  | succ e ih =>
    intro t n S h1 h2 h4 hs ht
    obtain ⟨n, rfl⟩ : ∃ m, n = m + 1 := ⟨n - 1, by omega⟩
    have hi : t < pN P := by omega
    have hT := hs t hi
    have l7 : pT P t 7 ≤ 1 := (TB_of hV hi).1 7 (by omega)
    have x8 : S.1 (g' + 9 + 2 * t) 8 = nI (pT P t 7) := hT.2.1 7 (by omega)
    obtain ⟨S1, e1, e2, e3, e4, e5⟩ := q_copyT (c := g + 9 + 2 * t) (d := g' + 9 + 2 * t) (S := S) (by omega) (by omega) (by omega) (by
      rw [x8]
      rcases (show pT P t 7 = 0 ∨ pT P t 7 = 1 by omega) with h | h <;> rw [h]
      · exact Or.inl rfl
      · exact Or.inr rfl)
    rw [f_X2_copyFrom_91, h4, if_neg (nI_ge hi (by omega)), if_neg (q_chk (by omega) (by omega)), if_neg (q_chk (by omega) (by omega)), nI_clamp (by omega), e1, aB_some, aLt_eq, nI_1]
    have tr : ∀ (c i : Nat) (T : Nat → Nat), c ≠ g + 9 + 2 * t → c ≠ g + 9 + 2 * t + 1 → c + 1 ≠ g + 9 + 2 * t → TX c i T S → TX c i T S1 := fun c i T k1 k2 k3 h => by
      unfold TX at h ⊢
      rw [e3 c k1 k2, e3 (c + 1) k3 (by omega)]
      exact h
    obtain ⟨S', g1, g2, g3, g4⟩ := ih (t + 1) n S1 (by omega) (by omega) (by rw [e3 g (by omega) (by omega)]; exact h4) (fun i hi => tr _ _ _ (by omega) (by omega) (by omega) (hs i hi)) (fun i hi => by
      by_cases c : i = t
      · rw [c]
        exact ⟨(e4 0 (by omega)).trans hT.1, fun j hj => (e4 (j + 1) (by omega)).trans (hT.2.1 j hj), fun k hk => (e5 k hk).trans (hT.2.2 k hk)⟩
      · exact tr _ _ _ (by omega) (by omega) (by omega) (ht i (by omega)))
    exact ⟨S', g1, g2.trans e2, fun k hk => (g3 k hk).trans (e3 k (by omega) (by omega)), g4⟩
theorem aFit_congr {f f' : Nat → Int32} {n : Nat} (h : ∀ i, i < n → f' i = f i) (hf : aFit f n = true) : aFit f' n = true := by
  refine List.all_eq_true.mpr (fun i hi => ?_)
  rw [h i (List.mem_range.mp hi)]
  exact aFit_at hf i (List.mem_range.mp hi)
theorem q_copyG {P : PS} {g g' : Nat} {S : aSt} (hV : PV P) (hd : g + 21 ≤ g' ∨ g' + 21 ≤ g) (hX : RX g' P S) : ∃ S', f_X2_copyFrom g g' S = some ((), S') ∧ (∀ k, (k < g ∨ g + 21 ≤ k) → S'.1 k = S.1 k) ∧ (∀ k, k ≠ g → S'.2 k = S.2 k) ∧ RX g P S' := by
  obtain ⟨a1, a2, a3, a4, a5, a6, a7, a8, a9, a10, a11⟩ := hX
  have hn := hV.1
  have hbk := hV.2.2.1
  have hg := hV.2.2.2.1
  unfold f_X2_copyFrom
  simp only [aLt_eq]
  generalize hS6 : aUi (aUi (aUi (aUi (aUi (aUl S g 0 (S.2 g' 0)) g 1 _) g 2 _) g 3 _) g 4 _) g 5 _ = S6
  have gne : g' ≠ g := by omega
  have r6 : ∀ k, k ≠ g → S6.1 k = S.1 k := fun k hk => by
    subst hS6
    rw [aUi_row hk, aUi_row hk, aUi_row hk, aUi_row hk, aUi_row hk]
    rfl
  have l6 : ∀ k, k ≠ g → S6.2 k = S.2 k := fun k hk => by
    subst hS6
    exact aUl_row hk
  have l60 : S6.2 g 0 = S.2 g' 0 := by subst hS6; exact aUl_at
  have f6 : ∀ j, 1 ≤ j → j < 6 → S6.1 g j = S.1 g' j := fun j h1 h2 => by
    subst hS6
    simp only [aUi_rd, gne, false_and, if_false, true_and]
    rcases (show j = 1 ∨ j = 2 ∨ j = 3 ∨ j = 4 ∨ j = 5 by omega) with rfl | rfl | rfl | rfl | rfl <;> simp <;> rfl
  clear hS6
  rw [if_pos (show aFit (S6.1 (g' + 1)) 100 = true by rw [r6 _ (by omega)]; exact a7)]
  generalize hS8 : aCp (aCp S6 (g' + 1) (g + 1) 100) (g' + 2) (g + 2) 6 = S8
  have r8 : ∀ k, k ≠ g + 1 → k ≠ g + 2 → S8.1 k = S6.1 k := fun k h1 h2 => by subst hS8; rw [aCp_ne h2, aCp_ne h1]
  have l8 : S8.2 = S6.2 := by subst hS8; rfl
  have t8 : ∀ j, j < 100 → S8.1 (g + 1) j = S.1 (g' + 1) j := fun j hj => by subst hS8; rw [aCp_ne (by omega), aCp_at hj, r6 _ (by omega)]
  have b8 : ∀ j, j < 6 → S8.1 (g + 2) j = S.1 (g' + 2) j := fun j hj => by subst hS8; rw [aCp_at hj, aCp_ne (by omega), r6 _ (by omega)]
  clear hS8
  obtain ⟨S9, e1, e2, e3, e4, e5, e6⟩ := q_copyW (c := g + 3) (d := g' + 3) (S := S8) (by omega)
  have rr : ∀ k, k ≠ g → k ≠ g + 1 → k ≠ g + 2 → (k < g + 3 ∨ g + 8 ≤ k) → S9.1 k = S.1 k := fun k h1 h2 h3 h4 => by rw [e3 k (by omega), r8 k h2 h3, r6 k h1]
  have sd : ∀ k, g' ≤ k → k < g' + 21 → S9.1 k = S.1 k := fun k h1 h2 => rr k (by omega) (by omega) (by omega) (by omega)
  have s8d : ∀ k, g' ≤ k → k < g' + 21 → S8.1 k = S.1 k := fun k h1 h2 => by rw [r8 k (by omega) (by omega), r6 k (by omega)]
  have f9 : ∀ j, 1 ≤ j → j < 6 → S9.1 g j = S.1 g' j := fun j h1 h2 => by rw [e3 g (by omega), r8 g (by omega) (by omega), f6 j h1 h2]
  obtain ⟨S', g1, g2, g3, g4⟩ := q_cp91 (g := g) (g' := g') hV hd (pN P) 0 aF S9 (by omega) (by have := aF_big; omega) (by rw [f9 4 (by omega) (by omega)]; exact a1) (fun i hi => by
    have h := a10 i hi
    unfold TX
    rw [sd _ (by omega) (by omega), sd _ (by omega) (by omega)]
    exact h) (fun i hi => absurd hi (by omega))
  rw [e1, aB_some]
  have f10 : ∀ j, 1 ≤ j → j < 6 → S'.1 g j = S.1 g' j := fun j h1 h2 => by rw [g3 g (by omega), f9 j h1 h2]
  refine ⟨S', g1, fun k hk => by rw [g3 k (by omega), rr k (by omega) (by omega) (by omega) (by omega)], fun k hk => by rw [g2, e2, l8, l6 k hk], ?_⟩
  refine ⟨by rw [f10 4 (by omega) (by omega)]; exact a1, by rw [f10 3 (by omega) (by omega)]; exact a2, by rw [f10 5 (by omega) (by omega)]; exact a3, by rw [f10 2 (by omega) (by omega)]; exact a4, by rw [f10 1 (by omega) (by omega)]; exact a5, fun i hi => ?_, ?_, fun i hi => ?_, ?_, g4, ?_⟩
  · rw [g3 (g + 1) (by omega), e3 (g + 1) (by omega), t8 i (by omega)]; exact a6 i hi
  · rw [g3 (g + 1) (by omega), e3 (g + 1) (by omega)]; exact aFit_congr t8 a7
  · rw [g3 (g + 2) (by omega), e3 (g + 2) (by omega), b8 i (by omega)]; exact a8 i hi
  · rw [g2, e2, l8, l60]; exact a9
  · have w9 : RXW (g + 3) (pWd P) S9 := RXW_copy (c := g + 3) (d := g' + 3) (S := S8) (W_of hV) (RXW_congr (fun k h1 h2 => s8d k (by omega) (by omega)) a11) e4 e5 e6
    exact RXW_congr (fun k h1 h2 => g3 k (by omega)) w9
theorem RM_congr {P : PS} {s s' : Nat → Int32} (hV : PV P) (h : RM P s) (hs : ∀ q, q < 979 → s' q = s q) : RM P s' := by
  obtain ⟨m1, m2, m3, m4, m5, m6, m7, m8, m9, m10⟩ := h
  have hn := hV.1
  have hw := hV.2.1
  have hbk := hV.2.2.1
  have hg := hV.2.2.2.1
  refine ⟨by rw [hs 0 (by omega)]; exact m1, by rw [hs 1 (by omega)]; exact m2, by rw [hs 2 (by omega)]; exact m3, by rw [hs 3 (by omega)]; exact m4, by rw [hs 5 (by omega)]; exact m5, fun i hi => by rw [hs _ (by omega)]; exact m6 i hi, fun i hi => by rw [hs _ (by omega)]; exact m7 i hi, fun p hp => by rw [hs _ (by omega)]; exact m8 p hp, fun i hi => ⟨fun j hj => by rw [hs _ (by omega)]; exact (m9 i hi).1 j hj, fun j hj => by rw [hs _ (by omega)]; exact (m9 i hi).2 j hj⟩, ?_⟩
  rcases m10 with ⟨h1, h2⟩ | ⟨q, hq, h1, h2, h3, h4, h5⟩
  · exact Or.inl ⟨by rw [hs 4 (by omega)]; exact h1, h2⟩
  · have hl := clM_len (pWd P).2.2
    have ho := (W_of hV).2.2.2.1
    exact Or.inr ⟨q, hq, by rw [hs 4 (by omega)]; exact h1, by rw [hs _ (by omega)]; exact h2, by rw [hs _ (by omega)]; exact h3, by rw [hs _ (by omega)]; exact h4, fun z hz => by rw [hs _ (by omega)]; exact h5 z hz⟩
theorem q_image2 : ∀ (e k n : Nat) (M : aSt), k + e = 979 → e < n → (∀ j, j < k → M.1 2 j = M.1 1 j) → ∃ M', f_X7_image_2 n (nI k) M = some (M.1 1 0, M') ∧ M'.1 0 = upd (M.1 0) 3 1 ∧ M'.1 1 = M.1 1 ∧ M'.1 8 = M.1 8 ∧ M'.2 = M.2 ∧ ∀ j, j < 979 → M'.1 2 j = M.1 1 j := by
  intro e
  induction e with
  | zero =>
    intro k n M h1 h2 h3
    obtain ⟨n, rfl⟩ : ∃ m, n = m + 1 := ⟨n - 1, by omega⟩
    have hk : k = 979 := by omega
    subst hk
    rw [f_X7_image_2, if_pos (show (979 : Int32) ≤ nI 979 from Int32.le_refl _), aLt_eq, aUi_row (by omega)]
    exact ⟨_, rfl, aUi_k, by rw [aUi_row (by omega)], by rw [aUi_row (by omega)], rfl, fun j hj => by rw [aUi_row (by omega)]; exact h3 j hj⟩
  | succ e ih =>
    intro k n M h1 h2 h3
    obtain ⟨n, rfl⟩ : ∃ m, n = m + 1 := ⟨n - 1, by omega⟩
    rw [f_X7_image_2, if_neg (show ¬ (979 : Int32) ≤ nI k from nI_ge (b := 979) (by omega) (by omega)), if_neg (q_chk (by omega) (by omega)), if_neg (q_chk (by omega) (by omega)), aLt_eq, aLt_eq, nI_clamp (by omega), nI_1]
    obtain ⟨M', g1, g2, g3, g4, g5, g6⟩ := ih (k + 1) n (aUi M 2 k (M.1 1 k)) (by omega) (by omega) (fun j hj => by
      rw [aUi_row (show 1 ≠ 2 by omega)]
      by_cases c : j = k
      · rw [c, aUi_at]
      · rw [aUi_ne c]; exact h3 j (by omega))
    rw [aUi_row (show 1 ≠ 2 by omega)] at g1 g3 g6
    rw [aUi_row (show 0 ≠ 2 by omega)] at g2
    rw [aUi_row (show 8 ≠ 2 by omega)] at g4
    exact ⟨M', g1, g2, g3, g4, g5, g6⟩
theorem q_undo12 : ∀ (e k n : Nat) (M : aSt), k + e = 979 → e < n → (∀ j, j < k → M.1 1 j = M.1 2 j) → ∃ M', f_X7_undo_12 n (nI k) M = some (M.1 2 0, M') ∧ M'.1 0 = M.1 0 ∧ M'.1 2 = M.1 2 ∧ M'.1 8 = M.1 8 ∧ M'.2 = M.2 ∧ ∀ j, j < 979 → M'.1 1 j = M.1 2 j := by
  intro e
  induction e with
  | zero =>
    intro k n M h1 h2 h3
    obtain ⟨n, rfl⟩ : ∃ m, n = m + 1 := ⟨n - 1, by omega⟩
    have hk : k = 979 := by omega
    subst hk
    rw [f_X7_undo_12, if_pos (show (979 : Int32) ≤ nI 979 from Int32.le_refl _), h3 0 (by omega)]
    exact ⟨_, rfl, rfl, rfl, rfl, rfl, h3⟩
  | succ e ih =>
    intro k n M h1 h2 h3
    obtain ⟨n, rfl⟩ : ∃ m, n = m + 1 := ⟨n - 1, by omega⟩
    rw [f_X7_undo_12, if_neg (show ¬ (979 : Int32) ≤ nI k from nI_ge (b := 979) (by omega) (by omega)), if_neg (q_chk (by omega) (by omega)), if_neg (q_chk (by omega) (by omega)), aLt_eq, aLt_eq, nI_clamp (by omega), nI_1]
    obtain ⟨M', g1, g2, g3, g4, g5, g6⟩ := ih (k + 1) n (aUi M 1 k (M.1 2 k)) (by omega) (by omega) (fun j hj => by
      rw [aUi_row (show 2 ≠ 1 by omega)]
      by_cases c : j = k
      · rw [c, aUi_at]
      · rw [aUi_ne c]; exact h3 j (by omega))
    rw [aUi_row (show 2 ≠ 1 by omega)] at g1 g3 g6
    rw [aUi_row (show 0 ≠ 1 by omega)] at g2
    rw [aUi_row (show 8 ≠ 1 by omega)] at g4
    exact ⟨M', g1, g2, g3, g4, g5, g6⟩
theorem q_imageX {K : Option Nat} {X X0 M : aSt} (hR : Rel K X M) (h1 : ∀ k, k < 34 → X0.1 k = X.1 k) (h2 : X0.2 1 = X.2 1) : ∃ X' M', f_X2_copyFrom 34 1 X0 = some ((), X') ∧ f_X7_image M = some (X'.1 1 4, M') ∧ Rel (some 34) X' M' := by
  obtain ⟨⟨P, hV, hX, hM⟩, ⟨n, hn, b1, b2, b3⟩, -⟩ := hR
  have hX0 : RX 1 P X0 := RX_congr hV (fun k _ h => h1 k (by omega)) h2 hX
  obtain ⟨X', e1, e2, e3, e4⟩ := q_copyG (g := 34) (g' := 1) hV (by omega) hX0
  obtain ⟨M', g1, g2, g3, g4, g5, g6⟩ := q_image2 979 0 aF M (by omega) (by have := aF_big; omega) (fun j hj => absurd hj (by omega))
  have x4 : X'.1 1 4 = nI (pN P) := by rw [e2 1 (by omega)]; exact hX0.1
  have m0 : M.1 1 0 = nI (pN P) := hM.1
  refine ⟨X', M', e1, ?_, ?_⟩
  · rw [x4, ← m0]; exact g1
  · refine ⟨⟨P, hV, RX_congr hV (fun k _ h => e2 k (by omega)) (e3 1 (by omega)) hX0, by rw [g3]; exact hM⟩, ⟨n, hn, by rw [e2 30 (by omega), h1 30 (by omega)]; exact b1, by rw [g2, pk_un (by omega)]; exact b2, fun i q1 q2 => by rw [e2 31 (by omega), h1 31 (by omega), g4]; exact b3 i q1 q2⟩, Or.inr ⟨rfl, by rw [g2, pk_us], P, hV, e4, RM_congr hV hM g6⟩⟩
theorem pu_imageN_ok : pu_imageN Rel := by
  intro X M hR
  refine q_imageX hR (fun k hk => ?_) ?_
  · show (if 34 ≤ k then _ else X.1 k) = X.1 k
    rw [if_neg (by omega)]
  · rfl
theorem pu_imageK_ok : pu_imageK Rel := by
  intro X M hR
  obtain ⟨X', M', e1, e2, e3⟩ := q_imageX hR (fun k _ => rfl) rfl
  unfold f_X6_image_K f_X6_image_K_18
  rw [e1, aB_some]
  exact ⟨_, X', M', rfl, e2, e3⟩
theorem pu_undoN_ok : pu_undoN Rel := by
  intro X M hR
  have h3 : M.1 0 3 = 0 := by
    rcases hR.2.2 with ⟨-, h⟩ | ⟨h, -⟩
    · exact h
    · cases h
  unfold f_X6_undo_N f_X7_undo
  rw [if_pos h3]
  exact ⟨_, X, M, rfl, rfl, hR⟩
theorem pu_undoK_ok : pu_undoK Rel := by
  intro X M hR
  obtain ⟨-, ⟨n, hn, b1, b2, b3⟩, hK⟩ := hR
  rcases hK with ⟨h, -⟩ | ⟨-, h3, Q, hV, hX, hM⟩
  · cases h
  · obtain ⟨X', e1, e2, e3, e4⟩ := q_copyG (g := 1) (g' := 34) hV (by omega) hX
    obtain ⟨M', g1, g2, g3, g4, g5, g6⟩ := q_undo12 979 0 aF M (by omega) (by have := aF_big; omega) (fun j hj => absurd hj (by omega))
    have m0 : M.1 2 0 = nI (pN Q) := hM.1
    unfold f_X6_undo_K f_X7_undo
    rw [e1, aB_some, if_neg (by rw [h3]; decide)]
    refine ⟨_, X', M', rfl, ?_, ?_⟩
    · rw [e4.1, ← m0]; exact g1
    · refine ⟨⟨Q, hV, e4, RM_congr hV hM g6⟩, ⟨n, hn, by rw [e2 30 (by omega)]; exact b1, by rw [g2]; exact b2, fun i q1 q2 => by rw [e2 31 (by omega), g4]; exact b3 i q1 q2⟩, Or.inr ⟨rfl, by rw [g2]; exact h3, Q, hV, RX_congr hV (fun k h _ => e2 k (by omega)) (e3 34 (by omega)) hX, by rw [g3]; exact hM⟩⟩

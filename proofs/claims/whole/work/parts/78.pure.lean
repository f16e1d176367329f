/-! PURE PART: lies, fell, hung, judged, blame -/
theorem st_cases {P : PS} {X M : aSt} {i : Nat} (hV : PV P) (hX : RX 1 P X) (hM : RM P (M.1 1)) (hi : i < pN P) : (X.1 (10 + 2 * i) 8 = 0 ∧ f_X7_isStanding (nI i) M = some (0, M) ∧ pT P i 7 = 0) ∨ (¬ X.1 (10 + 2 * i) 8 = 0 ∧ f_X7_isStanding (nI i) M = some (1, M) ∧ pT P i 7 = 1) := by
  have hn := hV.1
  have l7 : pT P i 7 ≤ 1 := (TB_of hV hi).1 7 (by omega)
  have x8 : X.1 (10 + 2 * i) 8 = nI (pT P i 7) := (TX_of hX hi).2.1 7 (by omega)
  have m8 : M.1 1 (152 + i) = nI (pT P i 7) := (TM_of hM hi).1 7 (by omega)
  have e := q_stnd (by omega) m8 l7
  rcases (show pT P i 7 = 0 ∨ pT P i 7 = 1 by omega) with h | h
  · refine Or.inl ⟨by rw [x8, h]; rfl, ?_, h⟩
    rw [h] at e; exact e
  · refine Or.inr ⟨by rw [x8, h]; decide, ?_, h⟩
    rw [h] at e; exact e
theorem hg0 : ∀ w, (none : Option Nat) = some w → w < 8 := fun w h => by cases h
theorem pu_lies_ok : pu_lies Rel := by
  intro K X M p hR
  obtain ⟨⟨P, hV, hX, hM⟩, -, -⟩ := id hR
  unfold f_X6_lies f_X7_lies
  rcases tree_cases p hV hX hM with ⟨i, hi, rfl, e1, e2⟩ | ⟨e1, e2⟩
  · rw [e1, e2, aB_some, aB_some, aO_some, if_neg (show ¬ (1 : Int32) = 0 by decide)]
    rcases st_cases hV hX hM hi with ⟨s1, s2, -⟩ | ⟨s1, s2, -⟩
    · rw [if_pos s1, s2, aB_some, if_pos rfl]
      exact ⟨_, X, M, rfl, rfl, hR⟩
    · obtain ⟨X1, r1, r2, r3, r4, r5⟩ := q_run none hV hX hi hg0
      obtain ⟨M1, m1, m2, m3, m4, m5, m6⟩ := q_goesNow none hV hM hi hg0
      rw [if_neg s1, s2, aB_some, if_neg (show ¬ (1 : Int32) = 0 by decide), show (-1 : Int32) = gG none from rfl, r1, m1, aB_some, aB_some, r5, m6]
      exact ⟨_, X1, M1, rfl, rfl, Rel_look hR r2.xf m2.mf⟩
  · rw [e1, e2, aB_some, aB_some, if_pos rfl, aO_none]
    exact ⟨_, X, M, rfl, rfl, hR⟩
theorem setT_same {P : PS} {i j v : Nat} (h : pT P i j = v) : setT P i j v = P := by
  have e : (fun a b => if a = i ∧ b = j then v else pT P a b) = pT P := by
    funext a b
    by_cases c : a = i ∧ b = j
    · rw [if_pos c, c.1, c.2, h]
    · rw [if_neg c]
  unfold setT
  rw [e]
  rfl
theorem pu_fell_ok : pu_fell Rel := by
  intro K X M p hR
  obtain ⟨⟨P, hV, hX, hM⟩, -, -⟩ := id hR
  have hn := hV.1
  unfold f_X6_fell f_X7_fell f_X6_fell_57 f_X7_fell_49
  rcases tree_cases p hV hX hM with ⟨i, hi, rfl, e1, e2⟩ | ⟨e1, e2⟩
  · rw [e1, e2, aB_some, aB_some, aO_some, if_neg (show ¬ (1 : Int32) = 0 by decide)]
    rcases st_cases hV hX hM hi with ⟨s1, s2, -⟩ | ⟨s1, s2, s3⟩
    · rw [if_pos s1, s2, aB_some, if_pos rfl]
      exact ⟨_, X, M, rfl, rfl, hR⟩
    · obtain ⟨X1, r1, r2, r3⟩ := q_dec none hV hX hi hg0
      obtain ⟨M1, m1, m2, m3, m4, m5, m6⟩ := q_goesNow none hV hM hi hg0
      have hR1 := Rel_look hR r2.xf m2.mf
      have hX1 := RX_RF hV r2 hX
      have hM1 := RM_NG m2 hM
      rw [if_neg s1, s2, aB_some, if_neg (show ¬ (1 : Int32) = 0 by decide), show (-1 : Int32) = gG none from rfl, r1, m1, aB_some, aB_some, r3.2.2.2.2.1, m3.2.2.2.2.1, show (152 : Int32) + nI i = nI (152 + i) from nI_add 152 i, if_neg (q_chk (by omega) (by omega)), if_neg (q_chk (by omega) (by omega)), nI_clamp (by omega), aLt_eq, aLt_eq, aLt_eq]
      have hlt := gH_lt (pWd P) i (pT P i) none
      by_cases c2 : gH (pWd P) i (pT P i) none = 2
      · rw [if_pos (show nI (gH (pWd P) i (pT P i) none) = (2 : Int32) by rw [c2]; rfl), if_pos (show nI (gH (pWd P) i (pT P i) none) = (2 : Int32) by rw [c2]; rfl), aUi_row (by omega), m3.2.2.2.2.1]
        refine ⟨_, X1, _, rfl, rfl, ?_⟩
        refine Rel_upd hR1 hV hX1 ?_ (fun k _ => rfl) rfl (by rw [aUi_row (by omega)]) (by rw [aUi_row (by omega)]) (by rw [aUi_row (by omega)])
        rw [aUi_k]
        have := RM_tree (j := 7) (v := 1) (d := 152 + i) hV hM1 (Or.inl ⟨by omega, by omega⟩) hi
        rw [setT_same s3] at this
        exact this
      · rw [if_neg (show ¬ nI (gH (pWd P) i (pT P i) none) = (2 : Int32) from fun e => c2 ((nI_eq (b := 2) (by omega) (by omega)).mp e)), if_neg (show ¬ nI (gH (pWd P) i (pT P i) none) = (2 : Int32) from fun e => c2 ((nI_eq (b := 2) (by omega) (by omega)).mp e)), aUi_row (by omega), aUi_row (by omega), r3.2.2.2.2.1, m3.2.2.2.2.1]
        refine ⟨_, _, _, rfl, rfl, ?_⟩
        refine Rel_upd (P := setT P i 7 0) hR1 (PV_setT hV (Nat.zero_le _) (by omega) (by omega)) (RX_setT (j := 7) hV hX1 hi (by omega)) ?_ (fun k hk => aUi_row (by omega)) rfl (by rw [aUi_row (by omega)]) (by rw [aUi_row (by omega)]) (by rw [aUi_row (by omega)])
        rw [aUi_k]
        exact RM_tree (j := 7) (v := 0) (d := 152 + i) hV hM1 (Or.inl ⟨by omega, by omega⟩) hi
  · rw [e1, e2, aB_some, aB_some, if_pos rfl, aO_none]
    exact ⟨_, X, M, rfl, rfl, hR⟩
theorem q_hung4 {P : PS} (hV : PV P) : ∀ (e t n n' : Nat) (c : Int32) (X M : aSt), t + e = pN P → e < n → e < n' → RX 1 P X → RM P (M.1 1) → ∃ r X' M', f_X6_hung_4 n c (nI t) X = some (r, X') ∧ f_X7_hung_4 n' c (nI t) M = some (r, M') ∧ RF X X' ∧ NG M M' := by
  have hn := hV.1
  intro e
  induction e with
  | zero =>
    intro t n n' c X M h1 h2 h3 hX hM
    obtain ⟨n, rfl⟩ : ∃ m, n = m + 1 := ⟨n - 1, by omega⟩
    obtain ⟨n', rfl⟩ : ∃ m, n' = m + 1 := ⟨n' - 1, by omega⟩
    have ht : t = pN P := by omega
    rw [f_X6_hung_4, f_X7_hung_4, hX.1, hM.1, ht, if_pos (Int32.le_refl _), if_pos (Int32.le_refl _)]
    exact ⟨c, X, M, rfl, rfl, RF.rf X, NG.rf M⟩
  | succ e ih =>
    intro t n n' c X M h1 h2 h3 hX hM
    obtain ⟨n, rfl⟩ : ∃ m, n = m + 1 := ⟨n - 1, by omega⟩
    obtain ⟨n', rfl⟩ : ∃ m, n' = m + 1 := ⟨n' - 1, by omega⟩
    have hi : t < pN P := by omega
    rw [f_X6_hung_4, f_X7_hung_4, hX.1, hM.1, if_neg (nI_ge hi (by omega)), if_neg (nI_ge hi (by omega)), if_neg (q_chk (by omega) (by omega)), nI_clamp (by omega)]
    unfold f_X6_hung_63 f_X6_hung_65 f_X7_hung_43 f_X7_hung_45
    simp only [aLt_eq, nI_1]
    rcases st_cases hV hX hM hi with ⟨s1, s2, -⟩ | ⟨s1, s2, -⟩
    · rw [if_pos (show X.1 (1 + 9 + 2 * t) 8 = 0 from s1), s2, aB_some, if_pos rfl]
      exact ih (t + 1) n n' c X M (by omega) (by omega) (by omega) hX hM
    · obtain ⟨X1, r1, r2, r3, r4, r5⟩ := q_run none hV hX hi hg0
      obtain ⟨M1, m1, m2, m3, m4, m5, m6⟩ := q_goesNow none hV hM hi hg0
      have r1 : f_X1_run 1 (1 + 9 + 2 * t) (-1) X = some ((), X1) := r1
      have m1 : f_X7_goesNow (nI t) (-1) M = some ((), M1) := m1
      rw [if_neg (show ¬ X.1 (1 + 9 + 2 * t) 8 = 0 from s1), s2, aB_some, if_neg (show ¬ (1 : Int32) = 0 by decide), r1, m1, aB_some, aB_some, r4, m4]
      have go : ∀ c' : Int32, ∃ r X' M', f_X6_hung_4 n c' (nI (t + 1)) X1 = some (r, X') ∧ f_X7_hung_4 n' c' (nI (t + 1)) M1 = some (r, M') ∧ RF X X' ∧ NG M M' := fun c' => by
        obtain ⟨r, X', M', g1, g2, g3, g4⟩ := ih (t + 1) n n' c' X1 M1 (by omega) (by omega) (by omega) (RX_RF hV r2 hX) (RM_NG m2 hM)
        exact ⟨r, X', M', g1, g2, r2.tr g3, m2.tr g4⟩
      by_cases h5 : oI (lyB P (sbP P) t none).2 = -5
      · rw [if_pos h5, if_pos h5]; exact go _
      · rw [if_neg h5, if_neg h5]; exact go _
theorem pu_hung_ok : pu_hung Rel := by
  intro K X M hR
  obtain ⟨⟨P, hV, hX, hM⟩, -, -⟩ := id hR
  have hn := hV.1
  obtain ⟨r, X', M', g1, g2, g3, g4⟩ := q_hung4 hV (pN P) 0 aF aF 0 X M (by omega) (by have := aF_big; omega) (by have := aF_big; omega) hX hM
  exact ⟨r, X', M', g1, g2, Rel_look hR g3.xf g4.mf⟩
theorem q_judged {P : PS} (hV : PV P) (what : Int32) (mn : Nat) (hmn : mn ≤ pN P ∧ mn ≤ pB P ∧ (mn = pN P ∨ mn = pB P)) : ∀ (e t n n' : Nat) (c d : Int32) (X M : aSt), t + e = mn → e < n → e < n' → RX 1 P X → RM P (M.1 1) → ∃ r X' M', f_X6_judged_37 n what c d (nI mn) (nI t) X = some (r, X') ∧ f_X7_judged_19 n' what c d (nI t) M = some (r, M') ∧ RF X X' ∧ NF M M' := by
  have hn := hV.1
  have hbk := hV.2.2.1
  intro e
  induction e with
  | zero =>
    intro t n n' c d X M h1 h2 h3 hX hM
    obtain ⟨n, rfl⟩ : ∃ m, n = m + 1 := ⟨n - 1, by omega⟩
    obtain ⟨n', rfl⟩ : ∃ m, n' = m + 1 := ⟨n' - 1, by omega⟩
    have ht : t = mn := by omega
    have m2 : M.1 1 2 = nI (pB P) := hM.2.2.1
    refine ⟨if what = 0 then c else d, X, M, ?_, ?_, RF.rf X, NF.rf M⟩
    · rw [f_X6_judged_37, ht, if_pos (Int32.le_refl _), ite_S]
    · rw [f_X7_judged_19, hM.1, m2, ht]
      unfold f_X7_judged_120
      rw [ite_S]
      rcases hmn.2.2 with h | h
      · rw [if_pos (show nI (pN P) ≤ nI mn by rw [h]; exact Int32.le_refl _)]
      · rw [if_pos (show nI (pB P) ≤ nI mn by rw [h]; exact Int32.le_refl _), ite_self]
  | succ e ih =>
    intro t n n' c d X M h1 h2 h3 hX hM
    obtain ⟨n, rfl⟩ : ∃ m, n = m + 1 := ⟨n - 1, by omega⟩
    obtain ⟨n', rfl⟩ : ∃ m, n' = m + 1 := ⟨n' - 1, by omega⟩
    have hi : t < pN P := by omega
    have m2 : M.1 1 2 = nI (pB P) := hM.2.2.1
    rw [f_X6_judged_37, f_X7_judged_19, hM.1, m2, if_neg (nI_ge (show t < mn by omega) (by omega)), if_neg (nI_ge hi (by omega)), if_neg (nI_ge (show t < pB P by omega) (by omega)), if_neg (q_chk (by omega) (by omega)), nI_clamp (by omega), show (194 : Int32) + nI t = nI (194 + t) from nI_add 194 t, nI_clamp (show 194 + t < 2 ^ 31 by omega)]
    unfold f_X6_judged_116 f_X7_judged_81 f_X7_judged_112 f_X7_judged_113 f_X7_judged_114
    simp only [aLt_eq, nI_1]
    rcases st_cases hV hX hM hi with ⟨s1, s2, -⟩ | ⟨s1, s2, -⟩
    · rw [if_pos (show X.1 (1 + 9 + 2 * t) 8 = 0 from s1), s2, aB_some, if_pos rfl]
      exact ih (t + 1) n n' c d X M (by omega) (by omega) (by omega) hX hM
    · obtain ⟨X1, r1, r2, r3⟩ := q_dec none hV hX hi hg0
      obtain ⟨M1, m1, n2, m3⟩ := q_gIn none hV hM hi hg0
      have r1 : f_X1_decide (1 + 3) (1 + 9 + 2 * t) (-1) X = some ((), X1) := r1
      have m1 : f_X7_goesIn (nI t) (-1) M = some ((), M1) := m1
      have hX1 := RX_RF hV r2 hX
      have hM1 := RM_NG (NG.nf n2) hM
      have xb : X1.1 (1 + 2) t = nI (pBook P t) := hX1.2.2.2.2.2.2.2.1 t (by omega)
      have mb : M1.1 1 (194 + t) = nI (pBook P t) := hM1.2.2.2.2.2.2.1 t (by omega)
      have k1 : ¬ (nI t < 0 ∨ 6 ≤ t) := q_chk2 (by omega) (by omega)
      have k2 : ¬ (nI (194 + t) < 0 ∨ 979 ≤ 194 + t) := q_chk2 (by omega) (by omega)
      rw [if_neg (show ¬ X.1 (1 + 9 + 2 * t) 8 = 0 from s1), s2, aB_some, if_neg (show ¬ (1 : Int32) = 0 by decide), r1, m1, aB_some, aB_some, xb, mb, r3.2.2.2.2.2, m3.2.2.2.2.2]
      simp only [show (194 : Int32) + nI t = nI (194 + t) from nI_add 194 t, nI_clamp (show 194 + t < 2 ^ 31 by omega), if_neg k1, if_neg k2, mb]
      have go : ∀ c' d' : Int32, ∃ r X' M', f_X6_judged_37 n what c' d' (nI mn) (nI (t + 1)) X1 = some (r, X') ∧ f_X7_judged_19 n' what c' d' (nI (t + 1)) M1 = some (r, M') ∧ RF X X' ∧ NF M M' := fun c' d' => by
        obtain ⟨r, X', M', g1, g2, g3, g4⟩ := ih (t + 1) n n' c' d' X1 M1 (by omega) (by omega) (by omega) hX1 hM1
        exact ⟨r, X', M', g1, g2, r2.tr g3, n2.tr g4⟩
      by_cases h5 : gY (pWd P) t (pT P t) none = nI (pBook P t)
      · rw [if_pos h5, if_pos h5, if_pos h5]; exact go _ _
      · rw [if_neg h5, if_neg h5, if_neg h5, Int32.add_zero]
        by_cases h6 : d = -5
        · rw [if_pos h6, if_pos h6]; exact go _ _
        · rw [if_neg h6, if_neg h6]; exact go _ _
theorem pu_judged_ok : pu_judged Rel := by
  intro K X M p hR
  obtain ⟨⟨P, hV, hX, hM⟩, -, -⟩ := id hR
  have hn := hV.1
  have hbk := hV.2.2.1
  have x4 : X.1 1 4 = nI (pN P) := hX.1
  have x5 : X.1 1 5 = nI (pB P) := hX.2.2.1
  unfold f_X6_judged f_X7_judged
  rcases in_casesN p 1 (by omega) X M with ⟨a, ha, rfl, o1, i1⟩ | ⟨-, o1, i1⟩
  · rw [show (1 : Int32) = nI 1 from rfl, show (0 : Int32) = nI 0 from rfl, o1, i1, aB_some, aB_some, if_pos (show (0 : Int32) = nI 0 from rfl), if_neg (show ¬ (1 : Int32) = nI 0 by decide), aLt_eq, x4, x5]
    have key : ∀ mn, mn ≤ pN P ∧ mn ≤ pB P ∧ (mn = pN P ∨ mn = pB P) → ∃ r SX1 SM1, f_X6_judged_37 aF (nI a) (nI 0) (-5) (nI mn) (nI 0) X = some (r, SX1) ∧ f_X7_judged_19 aF (nI a) (nI 0) (-5) (nI 0) M = some (r, SM1) ∧ Rel K SX1 SM1 := fun mn hmn => by
      obtain ⟨r, X', M', g1, g2, g3, g4⟩ := q_judged hV (nI a) mn hmn mn 0 aF aF (nI 0) (-5) X M (by omega) (by have := aF_big; omega) (by have := aF_big; omega) hX hM
      exact ⟨r, X', M', g1, g2, Rel_look hR g3.xf g4.mf⟩
    by_cases h : pB P < pN P
    · rw [if_pos (nI_lt h (by omega))]
      exact key (pB P) ⟨by omega, by omega, Or.inr rfl⟩
    · rw [if_neg (nI_nlt (by omega) (by omega))]
      exact key (pN P) ⟨by omega, by omega, Or.inl rfl⟩
  · rw [show (1 : Int32) = nI 1 from rfl, show (0 : Int32) = nI 0 from rfl, o1, i1, aB_some, aB_some, if_neg (show ¬ (1 : Int32) = nI 0 by decide), if_pos (show (0 : Int32) = nI 0 from rfl)]
    exact ⟨_, X, M, rfl, rfl, hR⟩

/-! PURE PART: knock, limbs -/
theorem q_knock {W : PW} {i nW how : Nat} {T : Nat → Nat} (hi : i < 6) (hB : TB T) (hO : wdOk W) (hnW : nW ≤ 5) (s6 : Int32) (hhow : how < 5) : ∀ (e h n n' : Nat) (c : Int32) (X M : aSt) (h0 h0' : Nat), h + e = 10 → e < n → e < n' → RXW 4 W X → TX 32 i (uT T 6 h0) X → RMW nW W (M.1 1) → TM i (uT T 6 h0') (M.1 1) → ∃ r X' M', f_X6_knock_47 n (nI how) c (nI h) X = some (r, X') ∧ f_X7_knock_47 n' (nI i) (nI how) s6 c (nI h) M = some (r, M') ∧ XF X X' ∧ ND (fun q => q = 146 + i) M M' ∧ M'.1 1 (146 + i) = s6 := by
  intro e
  induction e with
  | zero =>
    intro h n n' c X M h0 h0' h1 h2 h3 hW hT hWM hTM
    obtain ⟨n, rfl⟩ : ∃ m, n = m + 1 := ⟨n - 1, by omega⟩
    obtain ⟨n', rfl⟩ : ∃ m, n' = m + 1 := ⟨n' - 1, by omega⟩
    have hh : h = 10 := by omega
    subst hh
    rw [f_X6_knock_47, f_X7_knock_47, if_pos (show (9 : Int32) < nI 10 by decide), if_pos (show (10 : Int32) ≤ nI 10 from Int32.le_refl _), show (146 : Int32) + nI i = nI (146 + i) from nI_add 146 i, if_neg (q_chk (by omega) (by omega)), aLt_eq, nI_clamp (by omega)]
    exact ⟨c, X, _, rfl, rfl, XF.rf X, ND.up M _ rfl, aUi_at⟩
  | succ e ih =>
    intro h n n' c X M h0 h0' h1 h2 h3 hW hT hWM hTM
    obtain ⟨n, rfl⟩ : ∃ m, n = m + 1 := ⟨n - 1, by omega⟩
    obtain ⟨n', rfl⟩ : ∃ m, n' = m + 1 := ⟨n' - 1, by omega⟩
    have hB1 : TB (uT T 6 h) := TB_uT hB (show h ≤ 9 by omega) (by omega)
    have hT1 : TX 32 i (uT T 6 h) (aUi X 32 7 (nI h)) := by
      have := TX_uT (j := 6) (v := h) hT (by omega)
      rw [uT_uT] at this
      exact this
    have f1 := XF.up X (k := 32) 7 (nI h) (Or.inl rfl)
    obtain ⟨X1, r1, r2, r3⟩ := q_decide none hT1 hi hB1 (by omega) (by omega) (RXW_XF f1 hW) hO hg0
    have hTM1 : TM i (uT T 6 h) ((aUi M 1 (146 + i) (nI h)).1 1) := by
      rw [aUi_k]
      have := TM_uT (j := 6) (v := h) hi hTM (by omega)
      rw [uT_uT] at this
      exact this
    have hWM1 : RMW nW W ((aUi M 1 (146 + i) (nI h)).1 1) := RMW_tr hnW hWM (fun q hq => by rw [aUi_ne (by omega)])
    obtain ⟨M1, m1, m2, m3⟩ := q_goesIn none hi hB1 hTM1 hnW hWM1 hO hg0
    have hlt := gH_lt W i (uT T 6 h) none
    rw [f_X6_knock_47, f_X7_knock_47, if_neg (show ¬ (9 : Int32) < nI h from nI_nlt (a := 9) (by omega) (by omega)), if_neg (show ¬ (10 : Int32) ≤ nI h from nI_ge (b := 10) (by omega) (by omega)), show (146 : Int32) + nI i = nI (146 + i) from nI_add 146 i, if_neg (q_chk (by omega) (by omega)), aLt_eq, aLt_eq, nI_clamp (by omega), show (-1 : Int32) = gG none from rfl, show 1 + 3 = 4 from rfl, r1, m1, aB_some, aB_some, r3.2.2.2.2.1, m3.2.2.2.2.1, q_bit (by omega), aB_some, i1_p (by omega)]
    unfold f_X6_knock_104 f_X7_knock_90
    simp only [aLt_eq, nI_1]
    have go : ∀ c' : Int32, ∃ r X' M', f_X6_knock_47 n (nI how) c' (nI (h + 1)) X1 = some (r, X') ∧ f_X7_knock_47 n' (nI i) (nI how) s6 c' (nI (h + 1)) M1 = some (r, M') ∧ XF X X' ∧ ND (fun q => q = 146 + i) M M' ∧ M'.1 1 (146 + i) = s6 := fun c' => by
      obtain ⟨r, X', M', g1, g2, g3, g4, g5⟩ := ih (h + 1) n n' c' X1 M1 h h (by omega) (by omega) (by omega) (RXW_CF r2 (RXW_XF f1 hW)) (TX_CF (by omega) (by omega) r2 hT1) (RMW_NF m2 hWM1) (TM_NF m2 hTM1)
      exact ⟨r, X', M', g1, g2, (f1.tr (XF.cf r2)).tr g3, ((ND.up (D := fun q => q = 146 + i) M _ rfl).tr (ND.nf m2)).tr g4, g5⟩
    by_cases hc : nI (gH W i (uT T 6 h) none) = nI how
    · rw [if_pos hc, if_pos hc]; exact go _
    · rw [if_neg hc, if_neg hc]; exact go _
theorem pu_knock_ok : pu_knock Rel := by
  intro K X M p q hR
  obtain ⟨⟨P, hV, hX, hM⟩, -, -⟩ := id hR
  have hn := hV.1
  unfold f_X6_knock f_X7_knock
  rcases tree_cases p hV hX hM with ⟨i, hi, rfl, e1, e2⟩ | ⟨e1, e2⟩
  · rw [e1, e2, aB_some, aB_some, aO_some, if_neg (show ¬ (1 : Int32) = 0 by decide)]
    rcases in_cases q 4 (by omega) X M with ⟨a, ha, rfl, o1, i1⟩ | ⟨-, o1, i1⟩
    · rw [show (4 : Int32) = nI 4 from rfl, o1, i1, aB_some, aB_some, if_pos rfl, if_neg (show ¬ (1 : Int32) = 0 by decide)]
      rcases st_cases hV hX hM hi with ⟨s1, s2, -⟩ | ⟨s1, s2, -⟩
      · rw [if_pos s1, s2, aB_some, if_pos rfl]
        exact ⟨_, X, M, rfl, rfl, hR⟩
      · obtain ⟨X1, r1, r2, r3, r4⟩ := q_trial hV hX hi
        rw [if_neg s1, s2, aB_some, if_neg (show ¬ (1 : Int32) = 0 by decide), r1, aB_some, show (146 : Int32) + nI i = nI (146 + i) from nI_add 146 i, if_neg (q_chk (by omega) (by omega)), aLt_eq, nI_clamp (by omega)]
        obtain ⟨r, X', M', g1, g2, g3, g4, g5⟩ := q_knock (how := a) (W := pWd P) (nW := pW P) (T := pT P i) (show i < 6 by omega) (TB_of hV hi) (W_of hV) hV.2.1 (M.1 1 (146 + i)) (by omega) 10 0 aF aF 0 X1 M (pT P i 6) (pT P i 6) (by omega) (by have := aF_big; omega) (by have := aF_big; omega) (RXW_of r3) (by rw [uT_self]; exact r4) (RMW_of hM) (by rw [uT_self]; exact TM_of hM hi)
        exact ⟨r, X', M', g1, g2, Rel_look hR (r2.tr g3) (g4.mf (fun q hq => by
          have hq : q = 146 + i := hq
          rw [hq]; exact g5))⟩
    · rw [show (4 : Int32) = nI 4 from rfl, o1, i1, aB_some, aB_some, if_neg (show ¬ (1 : Int32) = 0 by decide), if_pos rfl]
      exact ⟨_, X, M, rfl, rfl, hR⟩
  · rw [e1, e2, aB_some, aB_some, if_pos rfl, aO_none]
    exact ⟨_, X, M, rfl, rfl, hR⟩
theorem q_l90 {i : Nat} (hi : i < 6) (a b : Int32) (M : aSt) : f_X7_limbs_90 (nI i) a b M = some (b, aUi M 1 (134 + i) a) := by
  unfold f_X7_limbs_90
  rw [show (134 : Int32) + nI i = nI (134 + i) from nI_add 134 i, if_neg (q_chk (by omega) (by omega)), aLt_eq, nI_clamp (by omega)]
theorem q_limbs {W : PW} {i nW c ln : Nat} {T : Nat → Nat} (hi : i < 6) (hB : TB T) (hO : wdOk W) (hnW : nW ≤ 5) (hc : c < 22) (hln : ln ≤ 9) : ∀ (e h n n' : Nat) (X M : aSt) (h0 h0' : Nat), h + e = ln + 1 → e + 1 < n → e + 1 < n' → X.1 c 5 = nI ln → RXW 4 W X → TX 32 i (uT T 4 h0) X → RMW nW W (M.1 1) → TM i (uT T 4 h0') (M.1 1) → ∃ r X' M', f_X6_limbs_35 n c (nI h) X = some (r, X') ∧ f_X7_limbs_38 n' (nI i) (nI ln) (-5) (nI h) M = some (r, M') ∧ XF X X' ∧ ND (fun q => q = 134 + i) M M' ∧ M'.1 1 (134 + i) = nI ln := by
  intro e
  induction e with
  | zero =>
    intro h n n' X M h0 h0' h1 h2 h3 h5 hW hT hWM hTM
    obtain ⟨n, rfl⟩ : ∃ m, n = m + 1 := ⟨n - 1, by omega⟩
    obtain ⟨n', rfl⟩ : ∃ m, n' = m + 1 := ⟨n' - 1, by omega⟩
    rw [f_X6_limbs_35, f_X7_limbs_38, h5, if_pos (nI_lt (by omega) (by omega)), if_pos (nI_lt (by omega) (by omega)), q_l90 hi]
    exact ⟨-5, X, _, rfl, rfl, XF.rf X, ND.up M _ rfl, aUi_at⟩
  | succ e ih =>
    intro h n n' X M h0 h0' h1 h2 h3 h5 hW hT hWM hTM
    obtain ⟨n, rfl⟩ : ∃ m, n = m + 1 := ⟨n - 1, by omega⟩
    obtain ⟨n', rfl⟩ : ∃ m, n' = m + 1 := ⟨n' - 1, by omega⟩
    have hB1 : TB (uT T 4 (ln - h)) := TB_uT hB (show ln - h ≤ 9 by omega) (by omega)
    have hT1 : TX 32 i (uT T 4 (ln - h)) (aUi X 32 5 (nI (ln - h))) := by
      have := TX_uT (j := 4) (v := ln - h) hT (by omega)
      rw [uT_uT] at this
      exact this
    have f1 := XF.up X (k := 32) 5 (nI (ln - h)) (Or.inl rfl)
    obtain ⟨X1, r1, r2, r3⟩ := q_decide none hT1 hi hB1 (by omega) (by omega) (RXW_XF f1 hW) hO hg0
    have hTM1 : TM i (uT T 4 (ln - h)) ((aUi M 1 (134 + i) (nI (ln - h))).1 1) := by
      rw [aUi_k]
      have := TM_uT (j := 4) (v := ln - h) hi hTM (by omega)
      rw [uT_uT] at this
      exact this
    have hWM1 : RMW nW W ((aUi M 1 (134 + i) (nI (ln - h))).1 1) := RMW_tr hnW hWM (fun q hq => by rw [aUi_ne (by omega)])
    obtain ⟨M1, m1, m2, m3⟩ := q_goesIn none hi hB1 hTM1 hnW hWM1 hO hg0
    have hlt := gH_lt W i (uT T 4 (ln - h)) none
    rw [f_X6_limbs_35, f_X7_limbs_38, h5, if_neg (nI_nlt (by omega) (by omega)), if_neg (nI_nlt (by omega) (by omega)), if_pos rfl, show (134 : Int32) + nI i = nI (134 + i) from nI_add 134 i, if_neg (q_chk (by omega) (by omega)), aLt_eq, aLt_eq, nI_clamp (by omega), pk_sub (by omega), show (-1 : Int32) = gG none from rfl, show 1 + 3 = 4 from rfl, r1, m1, aB_some, aB_some, r3.2.2.2.2.1, m3.2.2.2.2.1]
    unfold f_X7_limbs_83
    simp only [aLt_eq, nI_1]
    by_cases hz : nI (gH W i (uT T 4 (ln - h)) none) = 0
    · rw [if_pos hz, if_pos hz]
      obtain ⟨n', rfl⟩ : ∃ m, n' = m + 1 := ⟨n' - 1, by omega⟩
      refine ⟨nI h, X1, aUi M1 1 (134 + i) (nI ln), rfl, ?_, f1.tr (XF.cf r2), ((ND.up (D := fun q => q = 134 + i) M _ rfl).tr (ND.nf m2)).tr (ND.up M1 _ rfl), aUi_at⟩
      rw [f_X7_limbs_38, q_l90 hi]
      rw [if_neg (show ¬ nI h = -5 from neg_ne (by omega) (by decide)), ite_self]
    · rw [if_neg hz, if_neg hz]
      obtain ⟨r, X', M', g1, g2, g3, g4, g5⟩ := ih (h + 1) n n' X1 M1 (ln - h) (ln - h) (by omega) (by omega) (by omega) (by rw [(f1.tr (XF.cf r2)).1 c (by omega)]; exact h5) (RXW_CF r2 (RXW_XF f1 hW)) (TX_CF (by omega) (by omega) r2 hT1) (RMW_NF m2 hWM1) (TM_NF m2 hTM1)
      exact ⟨r, X', M', g1, g2, (f1.tr (XF.cf r2)).tr g3, ((ND.up (D := fun q => q = 134 + i) M _ rfl).tr (ND.nf m2)).tr g4, g5⟩
theorem pu_limbs_ok : pu_limbs Rel := by
  intro K X M p hR
  obtain ⟨⟨P, hV, hX, hM⟩, -, -⟩ := id hR
  have hn := hV.1
  unfold f_X6_limbs f_X7_limbs
  rcases tree_cases p hV hX hM with ⟨i, hi, rfl, e1, e2⟩ | ⟨e1, e2⟩
  · rw [e1, e2, aB_some, aB_some, aO_some, if_neg (show ¬ (1 : Int32) = 0 by decide)]
    rcases st_cases hV hX hM hi with ⟨s1, s2, -⟩ | ⟨s1, s2, -⟩
    · rw [if_pos s1, s2, aB_some, if_pos rfl]
      exact ⟨_, X, M, rfl, rfl, hR⟩
    · obtain ⟨X1, r1, r2, r3, r4⟩ := q_trial hV hX hi
      have l4 : pT P i 4 ≤ 9 := (TB_of hV hi).1 4 (by omega)
      have x5 : X1.1 (10 + 2 * i) 5 = nI (pT P i 4) := (TX_of r3 hi).2.1 4 (by omega)
      have m5 : M.1 1 (134 + i) = nI (pT P i 4) := (TM_of hM hi).1 4 (by omega)
      rw [if_neg s1, s2, aB_some, if_neg (show ¬ (1 : Int32) = 0 by decide), r1, aB_some, show (134 : Int32) + nI i = nI (134 + i) from nI_add 134 i, if_neg (q_chk (by omega) (by omega)), aLt_eq, nI_clamp (by omega), m5]
      obtain ⟨r, X', M', g1, g2, g3, g4, g5⟩ := q_limbs (W := pWd P) (nW := pW P) (T := pT P i) (c := 10 + 2 * i) (show i < 6 by omega) (TB_of hV hi) (W_of hV) hV.2.1 (by omega) l4 (pT P i 4 + 1) 0 aF aF X1 M (pT P i 4) (pT P i 4) (by omega) (by have := aF_big; omega) (by have := aF_big; omega) x5 (RXW_of r3) (by rw [uT_self]; exact r4) (RMW_of hM) (by rw [uT_self]; exact TM_of hM hi)
      exact ⟨r, X', M', g1, g2, Rel_look hR (r2.tr g3) (g4.mf (fun q hq => by
        have hq : q = 134 + i := hq
        rw [hq, g5, m5]))⟩
  · rw [e1, e2, aB_some, aB_some, if_pos rfl, aO_none]
    exact ⟨_, X, M, rfl, rfl, hR⟩

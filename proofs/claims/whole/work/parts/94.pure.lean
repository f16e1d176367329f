/-! PURE PART: the class's Reader: E -/
theorem q_lpX {tp : Nat → Nat} {en h sep cd : Nat} {f : Nat → PR} (hT : TP tp en) (hsep : sep < 128) (hf : Gd en h f) {C : aSt → Option (Int32 × aSt)} (hC : RXc tp en f C) (G : Nat → Int32 → aSt → Option (Int32 × aSt)) (hG : ∀ n i S, G (n + 1) i S = if (100 : Int32) ≤ i then some ((1 : Int32), S) else aB (f_X3_takes (nI sep) S) (fun r2 S2 => if r2 = 0 then some ((1 : Int32), S2) else aB (C S2) (fun r3 S3 => if r3 = 0 then some ((0 : Int32), S3) else aB (f_X5_put 23 (sgX cd) S3) (fun _ S4 => G n (i + 1) S4)))) : ∀ (e i n p : Nat) (L : List Nat) (X : aSt), i + e = 100 → e < n → p ≤ en → L.length ≤ p → XS tp en p L X → ∃ X', G n (nI i) X = some (bI (pLp tp en sep cd f e p).1, X') ∧ XS tp en (pLp tp en sep cd f e p).2.1 (L ++ (pLp tp en sep cd f e p).2.2) X' ∧ FX X X' := by
  have h100 := hT.1
  intro e
  induction e with
  | zero =>
    intro i n p L X h1 h2 hp hL h
    obtain ⟨n, rfl⟩ : ∃ m, n = m + 1 := ⟨n - 1, by omega⟩
    have hi : i = 100 := by omega
    subst hi
    rw [hG, if_pos (show (100 : Int32) ≤ nI 100 from Int32.le_refl _)]
    refine ⟨X, rfl, ?_, FX.rf X⟩
    show XS tp en p (L ++ []) X
    rw [List.append_nil]
    exact h
  | succ e ih =>
    intro i n p L X h1 h2 hp hL h
    obtain ⟨n, rfl⟩ : ∃ m, n = m + 1 := ⟨n - 1, by omega⟩
    rw [hG, if_neg (show ¬ (100 : Int32) ≤ nI i from nI_ge (b := 100) (by omega) (by omega))]
    unfold pLp
    by_cases c : chO tp en p = some sep
    · have hl := (chO_lt c).1
      rw [q_tk1 hT hp hsep h c, aB_some, if_neg (show ¬ (1 : Int32) = 0 by decide), if_pos c]
      obtain ⟨X1, a1, a2, a3⟩ := hC (p + 1) L (aUi X 22 3 (nI (p + 1))) hl (by omega) (XS_at h)
      obtain ⟨f1, f2, f3, f4⟩ := hf (p + 1) hl
      rw [a1, aB_some]
      by_cases k : (f (p + 1)).1 = true
      · rw [k, if_neg (show ¬ bI true = 0 by decide), if_pos rfl]
        have hlen : (L ++ (f (p + 1)).2.2).length < (f (p + 1)).2.1 := by
          rw [List.length_append]; omega
        obtain ⟨X2, b1, b2, b3⟩ := q_put (c := cd) (show (L ++ (f (p + 1)).2.2).length < 100 by omega) a2
        rw [b1, aB_some, nI_1]
        obtain ⟨X', g1, g2, g3⟩ := ih (i + 1) n (f (p + 1)).2.1 (L ++ (f (p + 1)).2.2 ++ [cd]) X2 (by omega) (by omega) f2 (by rw [List.length_append]; exact hlen) b2
        refine ⟨X', g1, ?_, (((FX.at X _).tr a3).tr b3).tr g3⟩
        show XS tp en _ (L ++ ((f (p + 1)).2.2 ++ cd :: (pLp tp en sep cd f e (f (p + 1)).2.1).2.2)) X'
        rw [show L ++ ((f (p + 1)).2.2 ++ cd :: (pLp tp en sep cd f e (f (p + 1)).2.1).2.2) = L ++ (f (p + 1)).2.2 ++ [cd] ++ (pLp tp en sep cd f e (f (p + 1)).2.1).2.2 by simp]
        exact g2
      · have k2 : (f (p + 1)).1 = false := by simpa using k
        rw [k2, if_pos (show bI false = 0 from rfl), if_neg (by decide)]
        rw [k2]
        exact ⟨X1, rfl, a2, (FX.at X _).tr a3⟩
    · rw [q_tk0 hT hp hsep h c, aB_some, if_pos rfl, if_neg c]
      refine ⟨X, rfl, ?_, FX.rf X⟩
      show XS tp en p (L ++ []) X
      rw [List.append_nil]
      exact h
theorem q_chX {tp : Nat → Nat} {en h sep cd : Nat} {f : Nat → PR} (hT : TP tp en) (hsep : sep < 128) (hf : Gd en h f) {C F : aSt → Option (Int32 × aSt)} (hC : RXc tp en f C) (G : Nat → Int32 → aSt → Option (Int32 × aSt)) (hG : ∀ n i S, G (n + 1) i S = if (100 : Int32) ≤ i then some ((1 : Int32), S) else aB (f_X3_takes (nI sep) S) (fun r2 S2 => if r2 = 0 then some ((1 : Int32), S2) else aB (C S2) (fun r3 S3 => if r3 = 0 then some ((0 : Int32), S3) else aB (f_X5_put 23 (sgX cd) S3) (fun _ S4 => G n (i + 1) S4)))) (hF : ∀ S, F S = aB (C S) (fun r1 S1 => if r1 = 0 then some ((0 : Int32), S1) else G aF (nI 0) S1)) : RXc tp en (pCh tp en sep cd f) F := by
  intro p L X hp hL h
  obtain ⟨X1, a1, a2, a3⟩ := hC p L X hp hL h
  obtain ⟨f1, f2, f3, f4⟩ := hf p hp
  rw [hF, a1, aB_some]
  unfold pCh
  by_cases k : (f p).1 = true
  · rw [k, if_neg (show ¬ bI true = 0 by decide), if_pos rfl]
    obtain ⟨X', g1, g2, g3⟩ := q_lpX hT hsep hf hC G hG 100 0 aF (f p).2.1 (L ++ (f p).2.2) X1 (by omega) (by have := aF_big; omega) f2 (by rw [List.length_append]; omega) a2
    refine ⟨X', g1, ?_, a3.tr g3⟩
    show XS tp en _ (L ++ ((f p).2.2 ++ (pLp tp en sep cd f 100 (f p).2.1).2.2)) X'
    rw [← List.append_assoc]
    exact g2
  · have k2 : (f p).1 = false := by simpa using k
    rw [k2, if_pos (show bI false = 0 from rfl), if_neg (by decide), k2]
    exact ⟨X1, rfl, a2, a3⟩
theorem q_bothX {tp : Nat → Nat} {en h n d : Nat} {f : Nat → PR} (hT : TP tp en) (hf : Gd en h f) (hC : RXc tp en f (fun S => g_X3_either n 2 (nI d) S)) : RXc tp en (pCh tp en 38 1 f) (fun S => g_X3_either (n + 1) 0 (nI d) S) :=
  q_chX hT (by omega) hf hC (fun m i S => f_X3_both_12 (fun z0 S => g_X3_either n 0 z0 S) (fun z0 S => g_X3_either n 1 z0 S) (fun z0 S => g_X3_either n 2 z0 S) m (nI d) i S) (fun m i S => rfl) (fun S => rfl)
theorem q_eithX {tp : Nat → Nat} {en h n d : Nat} {f : Nat → PR} (hT : TP tp en) (hf : Gd en h f) (hC : RXc tp en f (fun S => g_X3_either n 0 (nI d) S)) : RXc tp en (pCh tp en 124 2 f) (fun S => g_X3_either (n + 1) 1 (nI d) S) :=
  q_chX hT (by omega) hf hC (fun m i S => f_X3_either_12 (fun z0 S => g_X3_either n 0 z0 S) (fun z0 S => g_X3_either n 1 z0 S) (fun z0 S => g_X3_either n 2 z0 S) m (nI d) i S) (fun m i S => rfl) (fun S => rfl)
theorem q_singX {tp : Nat → Nat} {en : Nat} (hT : TP tp en) : ∀ (d n : Nat), 3 * d + 1 ≤ n → d ≤ 5 → RXc tp en (pF tp en d) (fun S => g_X3_either n 2 (nI (5 - d)) S)
  | 0, n, hn, hd => by
    obtain ⟨n, rfl⟩ : ∃ m, n = m + 1 := ⟨n - 1, by omega⟩
    intro p L X hp hL h
    show ∃ X', f_X3_single _ _ _ (nI 5) X = some (bI (pF0 tp en p).1, X') ∧ XS tp en (pF0 tp en p).2.1 (L ++ (pF0 tp en p).2.2) X' ∧ FX X X'
    unfold f_X3_single f_X3_single_22 pF0
    rw [q_next hT hp h, aB_some]
    rw [if_neg (show ¬ nI 5 < (5 : Int32) by decide)]
    by_cases c : chO tp en p = some 33
    · rw [if_pos (show o1 (chO tp en p) = (33 : Int32) from (ch_I (c := 33) hT (by omega)).mpr c), if_pos c]
      refine ⟨X, rfl, ?_, FX.rf X⟩
      show XS tp en p (L ++ []) X
      rw [List.append_nil]
      exact h
    · rw [if_neg (show ¬ o1 (chO tp en p) = (33 : Int32) from fun e => c ((ch_I (c := 33) hT (by omega)).mp e)), if_neg c]
      by_cases c2 : chO tp en p = some 40
      · rw [if_pos (show o1 (chO tp en p) = (40 : Int32) from (ch_I (c := 40) hT (by omega)).mpr c2), if_pos c2]
        refine ⟨X, rfl, ?_, FX.rf X⟩
        show XS tp en p (L ++ []) X
        rw [List.append_nil]
        exact h
      · rw [if_neg (show ¬ o1 (chO tp en p) = (40 : Int32) from fun e => c2 ((ch_I (c := 40) hT (by omega)).mp e)), if_neg c2]
        obtain ⟨X1, a1, a2, a3⟩ := q_testX hT p L X hp hL h
        rw [a1, aB_some]
        refine ⟨X1, ?_, a2, a3⟩
        cases (pTest tp en p).1 <;> rfl
  | d + 1, n, hn, hd => by
    obtain ⟨n, rfl⟩ : ∃ m, n = m + 1 := ⟨n - 1, by omega⟩
    have hs := q_singX hT d n (by omega) (by omega)
    have he : RXc tp en (pEf tp en (pF tp en d)) (fun S => g_X3_either n 1 (nI (5 - d)) S) := by
      obtain ⟨m, rfl⟩ : ∃ m, n = m + 2 := ⟨n - 2, by omega⟩
      exact q_eithX hT (Gd_ch (Or.inl rfl) (Gd_F d)) (q_bothX hT (Gd_F d) (q_singX hT d m (by omega) (by omega)))
    have h100 := hT.1
    intro p L X hp hL h
    show ∃ X', f_X3_single _ _ _ (nI (5 - (d + 1))) X = some (bI (pFs tp en (pF tp en d) p).1, X') ∧ XS tp en (pFs tp en (pF tp en d) p).2.1 (L ++ (pFs tp en (pF tp en d) p).2.2) X' ∧ FX X X'
    unfold f_X3_single f_X3_single_22 pFs
    rw [q_next hT hp h, aB_some]
    simp only [aLt_eq]
    rw [if_pos (show nI (5 - (d + 1)) < (5 : Int32) from nI_lt (b := 5) (by omega) (by omega)), nI_1, show 5 - (d + 1) + 1 = 5 - d by omega, h.2.1, nI_1]
    by_cases c : chO tp en p = some 33
    · have hl := (chO_lt c).1
      have o33 : o1 (chO tp en p) = (33 : Int32) := (ch_I (c := 33) hT (by omega)).mpr c
      rw [if_pos o33, if_pos c, o33, if_neg (show ¬ (33 : Int32) = 40 by decide)]
      obtain ⟨X1, a1, a2, a3⟩ := hs (p + 1) L (aUi X 22 3 (nI (p + 1))) hl (by omega) (XS_at h)
      obtain ⟨f1, f2, f3, f4⟩ := Gd_F (tp := tp) (en := en) d (p + 1) hl
      dsimp only at a1
      rw [a1, aB_some]
      by_cases k : (pF tp en d (p + 1)).1 = true
      · rw [k, if_neg (show ¬ bI true = 0 by decide), if_pos rfl]
        obtain ⟨X2, b1, b2, b3⟩ := q_put (c := 0) (show (L ++ (pF tp en d (p + 1)).2.2).length < 100 by rw [List.length_append]; omega) a2
        have b1 : f_X5_put 23 (-1) X1 = some ((), X2) := b1
        rw [b1, aB_some]
        refine ⟨X2, rfl, ?_, ((FX.at X _).tr a3).tr b3⟩
        show XS tp en _ (L ++ ((pF tp en d (p + 1)).2.2 ++ [0])) X2
        rw [← List.append_assoc]
        exact b2
      · have k2 : (pF tp en d (p + 1)).1 = false := by simpa using k
        rw [k2, if_pos (show bI false = 0 from rfl), if_neg (by decide), k2]
        exact ⟨X1, rfl, a2, (FX.at X _).tr a3⟩
    · rw [if_neg (show ¬ o1 (chO tp en p) = (33 : Int32) from fun e => c ((ch_I (c := 33) hT (by omega)).mp e)), if_neg c]
      by_cases c2 : chO tp en p = some 40
      · have hl := (chO_lt c2).1
        have o40 : o1 (chO tp en p) = (40 : Int32) := (ch_I (c := 40) hT (by omega)).mpr c2
        rw [if_pos o40, if_pos c2, if_pos o40]
        obtain ⟨X1, a1, a2, a3⟩ := he (p + 1) L (aUi X 22 3 (nI (p + 1))) hl (by omega) (XS_at h)
        obtain ⟨f1, f2, f3, f4⟩ := Gd_ch (tp := tp) (sep := 124) (Or.inr rfl) (Gd_ch (tp := tp) (sep := 38) (Or.inl rfl) (Gd_F (tp := tp) (en := en) d)) (p + 1) hl
        dsimp only at a1
        rw [a1, aB_some]
        by_cases k : (pEf tp en (pF tp en d) (p + 1)).1 = true
        · rw [k, if_neg (show ¬ bI true = 0 by decide), if_pos rfl]
          by_cases c3 : chO tp en (pEf tp en (pF tp en d) (p + 1)).2.1 = some 41
          · have t1 : f_X3_takes 41 X1 = _ := q_tk1 (c := 41) hT f2 (by omega) a2 c3
            rw [t1, aB_some, if_neg (show ¬ (1 : Int32) = 0 by decide), if_pos c3]
            exact ⟨_, rfl, XS_at a2, ((FX.at X _).tr a3).tr (FX.at X1 _)⟩
          · have t1 : f_X3_takes 41 X1 = _ := q_tk0 (c := 41) hT f2 (by omega) a2 c3
            rw [t1, aB_some, if_pos rfl, if_neg c3]
            exact ⟨_, rfl, a2, (FX.at X _).tr a3⟩
        · have k2 : (pEf tp en (pF tp en d) (p + 1)).1 = false := by simpa using k
          rw [k2, if_pos (show bI false = 0 from rfl), if_neg (by decide), k2]
          exact ⟨X1, rfl, a2, (FX.at X _).tr a3⟩
      · rw [if_neg (show ¬ o1 (chO tp en p) = (40 : Int32) from fun e => c2 ((ch_I (c := 40) hT (by omega)).mp e)), if_neg c2]
        obtain ⟨X1, a1, a2, a3⟩ := q_testX hT p L X hp hL h
        rw [a1, aB_some]
        refine ⟨X1, ?_, a2, a3⟩
        cases (pTest tp en p).1 <;> rfl
theorem q_EX {tp : Nat → Nat} {en : Nat} (hT : TP tp en) : RXc tp en (pE tp en) (f_X3_either_k 0) := q_eithX (n := 19) (d := 0) hT (Gd_ch (Or.inl rfl) (Gd_F 5)) (q_bothX (n := 18) hT (Gd_F 5) (q_singX hT 5 18 (by omega) (by omega)))

/-! PURE PART: the reference reads: E -/
theorem q_lpM {tp : Nat → Nat} {en act op h sep cd : Nat} {f : Nat → PR} (hT : TP tp en) (ha : act < 5) (hsep : sep < 128) (hf : Gd en h f) {F : aSt → Option (Unit × aSt)} (hF : RMc tp en act op f F) (G : Nat → aSt → Option (Unit × aSt)) (hG : ∀ n S, G (n + 1) S = if S.1 0 7 = 0 then aB (f_X7_here S) (fun r2 S2 => if r2 = nI sep then aB (F (aUi S2 0 5 (S2.1 0 5 + 1))) (fun _ S4 => aB (f_X7_emits (sgM cd) S4) (fun _ S5 => G n S5)) else some ((), S2)) else some ((), S)) : ∀ (e n p : Nat) (C : List Int32) (M : aSt), en ≤ p + e → e < n → p ≤ en → C.length ≤ p → MS tp en act p op C M → ∃ M', G n M = some ((), M') ∧ FM act M M' ∧ MR tp en act op C (pLp tp en sep cd f e p) M' := by
  have h100 := hT.1
  have stop : ∀ (p : Nat) (C : List Int32) (M : aSt), MS tp en act p op C M → MR tp en act op C (true, p, []) M := fun p C M h => by
    refine ⟨fun _ => ?_, fun k => by cases k⟩
    show MS tp en act p op (C ++ []) M
    rw [List.append_nil]
    exact h
  intro e
  induction e with
  | zero =>
    intro n p C M h1 h2 hp hC h
    obtain ⟨n, rfl⟩ : ∃ m, n = m + 1 := ⟨n - 1, by omega⟩
    rw [hG, if_pos h.2.2.2.1, q_here hT hp h, aB_some, if_neg (fun k => by rw [ch_I hT hsep, chO_end (by omega)] at k; cases k)]
    exact ⟨M, rfl, FM.rf M, stop p C M h⟩
  | succ e ih =>
    intro n p C M h1 h2 hp hC h
    obtain ⟨n, rfl⟩ : ∃ m, n = m + 1 := ⟨n - 1, by omega⟩
    rw [hG, if_pos h.2.2.2.1, q_here hT hp h, aB_some]
    unfold pLp
    by_cases c : chO tp en p = some sep
    · have hl := (chO_lt c).1
      obtain ⟨f1, f2, f3, f4⟩ := hf (p + 1) hl
      rw [if_pos ((ch_I hT hsep).mpr c), if_pos c, h.2.1, nI_1]
      obtain ⟨M1, a1, a2, a3⟩ := hF (p + 1) C (aUi M 0 5 (nI (p + 1))) hl (by omega) (MS_5 h)
      have a4 := (FM.up (act := act) M (j := 5) (nI (p + 1)) (by omega)).tr a2
      rw [a1, aB_some]
      by_cases k : (f (p + 1)).1 = true
      · rw [if_pos k]
        have hlen : (C ++ (f (p + 1)).2.2.map sgM).length < (f (p + 1)).2.1 := by
          rw [List.length_append, List.length_map]; omega
        obtain ⟨M2, b1, b2, b3⟩ := q_em (sgM cd) h100 ha (show (C ++ (f (p + 1)).2.2.map sgM).length < 140 by omega) (a3.1 k)
        rw [b1, aB_some]
        obtain ⟨M', g1, g2, g3⟩ := ih n (f (p + 1)).2.1 (C ++ (f (p + 1)).2.2.map sgM ++ [sgM cd]) M2 (by omega) (by omega) f2 (by rw [List.length_append]; exact hlen) b3
        refine ⟨M', g1, (a4.tr b2).tr g2, fun q => ?_, fun q => g3.2 q⟩
        have := g3.1 q
        show MS tp en act _ op (C ++ ((f (p + 1)).2.2 ++ cd :: (pLp tp en sep cd f e (f (p + 1)).2.1).2.2).map sgM) M'
        rw [show C ++ ((f (p + 1)).2.2 ++ cd :: (pLp tp en sep cd f e (f (p + 1)).2.1).2.2).map sgM = C ++ (f (p + 1)).2.2.map sgM ++ [sgM cd] ++ (pLp tp en sep cd f e (f (p + 1)).2.1).2.2.map sgM by simp]
        exact this
      · have k2 : (f (p + 1)).1 = false := by simpa using k
        rw [if_neg k]
        obtain ⟨n, rfl⟩ : ∃ m, n = m + 1 := ⟨n - 1, by omega⟩
        obtain ⟨M2, b1, b2, b3⟩ := q_emW act (sgM cd) _ M1 (a3.2 k2)
        rw [b1, aB_some, hG, if_neg (show ¬ M2.1 0 7 = 0 by rw [b3.2]; decide)]
        exact ⟨M2, rfl, a4.tr b2, (fun q => absurd q k), fun _ => b3⟩
    · rw [if_neg (fun k => c ((ch_I hT hsep).mp k)), if_neg c]
      exact ⟨M, rfl, FM.rf M, stop p C M h⟩
theorem q_chM {tp : Nat → Nat} {en act op h sep cd : Nat} {f : Nat → PR} (hT : TP tp en) (ha : act < 5) (hsep : sep < 128) (hf : Gd en h f) {F E : aSt → Option (Unit × aSt)} (hF : RMc tp en act op f F) (G : Nat → aSt → Option (Unit × aSt)) (hG : ∀ n S, G (n + 1) S = if S.1 0 7 = 0 then aB (f_X7_here S) (fun r2 S2 => if r2 = nI sep then aB (F (aUi S2 0 5 (S2.1 0 5 + 1))) (fun _ S4 => aB (f_X7_emits (sgM cd) S4) (fun _ S5 => G n S5)) else some ((), S2)) else some ((), S)) (hE : ∀ S, E S = aB (F S) (fun _ S1 => G aF S1)) : RMc tp en act op (pCh tp en sep cd f) E := by
  have h100 := hT.1
  intro p C M hp hC h
  obtain ⟨M1, a1, a2, a3⟩ := hF p C M hp hC h
  obtain ⟨f1, f2, f3, f4⟩ := hf p hp
  rw [hE, a1, aB_some]
  unfold pCh
  by_cases k : (f p).1 = true
  · rw [if_pos k]
    obtain ⟨M', g1, g2, g3⟩ := q_lpM hT ha hsep hf hF G hG 100 aF (f p).2.1 (C ++ (f p).2.2.map sgM) M1 (by omega) (by have := aF_big; omega) f2 (by rw [List.length_append, List.length_map]; omega) (a3.1 k)
    refine ⟨M', g1, a2.tr g2, fun q => ?_, fun q => g3.2 q⟩
    have := g3.1 q
    show MS tp en act _ op (C ++ ((f p).2.2 ++ (pLp tp en sep cd f 100 (f p).2.1).2.2).map sgM) M'
    rw [List.map_append, ← List.append_assoc]
    exact this
  · have k2 : (f p).1 = false := by simpa using k
    obtain ⟨n, hn⟩ := aF_s 5 (by omega)
    rw [if_neg k, hn, hG, if_neg (show ¬ M1.1 0 7 = 0 by rw [(a3.2 k2).2]; decide)]
    exact ⟨M1, rfl, a2, (fun q => absurd q k), fun _ => a3.2 k2⟩
theorem q_chW {act sep cd : Nat} {F E : aSt → Option (Unit × aSt)} (hF : RMw act F) (G : Nat → aSt → Option (Unit × aSt)) (hG : ∀ n S, G (n + 1) S = if S.1 0 7 = 0 then aB (f_X7_here S) (fun r2 S2 => if r2 = nI sep then aB (F (aUi S2 0 5 (S2.1 0 5 + 1))) (fun _ S4 => aB (f_X7_emits (sgM cd) S4) (fun _ S5 => G n S5)) else some ((), S2)) else some ((), S)) (hE : ∀ S, E S = aB (F S) (fun _ S1 => G aF S1)) : RMw act E := by
  intro q M h
  obtain ⟨M1, a1, a2, a3⟩ := hF q M h
  obtain ⟨n, hn⟩ := aF_s 5 (by omega)
  rw [hE, a1, aB_some, hn, hG, if_neg (show ¬ M1.1 0 7 = 0 by rw [a3.2]; decide)]
  exact ⟨M1, rfl, a2, a3⟩
theorem q_facW (act n : Nat) : RMw act (fun S => g_X7_some (n + 1) 1 S) := by
  intro q M h
  refine ⟨M, ?_, FM.rf M, h⟩
  show f_X7_factor _ _ _ M = _
  unfold f_X7_factor
  rw [if_neg (show ¬ M.1 0 7 = 0 by rw [h.2]; decide)]
theorem q_evW (act n : Nat) : RMw act (fun S => g_X7_some (n + 2) 0 S) := q_chW (sep := 38) (cd := 1) (q_facW act n) (fun m S => f_X7_every_4 (fun S => g_X7_some (n + 1) 0 S) (fun S => g_X7_some (n + 1) 1 S) (fun S => g_X7_some (n + 1) 2 S) m S) (fun m S => rfl) (fun S => rfl)
theorem q_soW (act n : Nat) : RMw act (fun S => g_X7_some (n + 3) 2 S) := q_chW (sep := 124) (cd := 2) (q_evW act n) (fun m S => f_X7_some_4 (fun S => g_X7_some (n + 2) 0 S) (fun S => g_X7_some (n + 2) 1 S) (fun S => g_X7_some (n + 2) 2 S) m S) (fun m S => rfl) (fun S => rfl)
theorem q_evM {tp : Nat → Nat} {en act op h n : Nat} {f : Nat → PR} (hT : TP tp en) (ha : act < 5) (hf : Gd en h f) (hF : RMc tp en act op f (fun S => g_X7_some n 1 S)) : RMc tp en act op (pCh tp en 38 1 f) (fun S => g_X7_some (n + 1) 0 S) := q_chM hT ha (by omega) hf hF (fun m S => f_X7_every_4 (fun S => g_X7_some n 0 S) (fun S => g_X7_some n 1 S) (fun S => g_X7_some n 2 S) m S) (fun m S => rfl) (fun S => rfl)
theorem q_soM {tp : Nat → Nat} {en act op h n : Nat} {f : Nat → PR} (hT : TP tp en) (ha : act < 5) (hf : Gd en h f) (hF : RMc tp en act op f (fun S => g_X7_some n 0 S)) : RMc tp en act op (pCh tp en 124 2 f) (fun S => g_X7_some (n + 1) 2 S) := q_chM hT ha (by omega) hf hF (fun m S => f_X7_some_4 (fun S => g_X7_some n 0 S) (fun S => g_X7_some n 1 S) (fun S => g_X7_some n 2 S) m S) (fun m S => rfl) (fun S => rfl)
theorem sgM_test {a b n : Nat} (ha : a < 6) (hb : b < 3) : nI a + (8 : Int32) * nI b + (32 : Int32) * nI n = sgM (3 + (a + 6 * b + 18 * n)) := by
  rw [show (8 : Int32) = nI 8 from rfl, show (32 : Int32) = nI 32 from rfl, pk_mul, pk_mul, nI_add, nI_add]
  unfold sgM
  rw [if_neg (by omega), if_neg (by omega), if_neg (by omega)]
  congr 1
  omega
/-- a wrong TEST is passed over -/
theorem q_169W {act : Nat} {cE cF cS : aSt → Option (Unit × aSt)} (l2 l3 : Int32) {q : Nat} {M : aSt} (h : M.1 0 5 = nI q) : ∃ M', f_X7_factor_169 cE cF cS l2 l3 1 M = some ((), M') ∧ FM act M M' ∧ MW q M' := by
  unfold f_X7_factor_169
  rw [if_pos (show (1 : Int32) = 0 ∨ (1 : Int32) = 1 from Or.inr rfl), aLt_eq]
  obtain ⟨v, M1, a1, a2, a3⟩ := q_figW act q (aUi M 0 7 1) (MW_7 h)
  obtain ⟨M2, b1, b2, b3⟩ := q_emW act (l2 + (8 : Int32) * l3 + (32 : Int32) * v) q M1 a3
  rw [a1, aB_some, b1, aB_some]
  exact ⟨M2, rfl, ((FM.up M _ (by omega)).tr a2).tr b2, b3⟩
theorem q_facT {tp : Nat → Nat} {en act op : Nat} {cE cF cS : aSt → Option (Unit × aSt)} (hT : TP tp en) (ha : act < 5) : RMc tp en act op (pTest tp en) (fun S => aB (f_X7_among 6 S) (fun r2 S2 => if r2 = (-1 : Int32) then f_X7_factor_130 cE cF cS r2 (1 : Int32) S2 else f_X7_factor_130 cE cF cS r2 (0 : Int32) S2)) := by
  have h100 := hT.1
  intro p C M hp hC h
  obtain ⟨M1, a1, a2, a3⟩ := q_am hT hp (stJ_in (i := 6) (l := lT) (by simp)) h
  dsimp only
  rw [a1, aB_some]
  unfold pTest f_X7_factor_130 f_X7_factor_150 f_X7_factor_164
  cases h1 : pOne tp en lT p with
  | none =>
    rw [h1] at a3
    rw [if_pos (show o1 none = -1 from rfl), if_pos (show (1 : Int32) = 0 ∨ (1 : Int32) = 1 from Or.inr rfl), aLt_eq, if_neg (show ¬ (aUi M1 0 7 1).1 0 7 = 0 by rw [aUi_at]; decide), if_neg (show ¬ (aUi M1 0 7 1).1 0 7 = 0 by rw [aUi_at]; decide)]
    obtain ⟨M2, b1, b2, b3⟩ := q_169W (act := act) (cE := cE) (cF := cF) (cS := cS) (o1 none) 0 (MW_7 (q := p) (M := M1) a3.2.1).1
    exact ⟨M2, b1, (a2.tr (FM.up M1 _ (by omega))).tr b2, (fun k => by cases k), fun _ => b3⟩
  | some a =>
    obtain ⟨d1, d2⟩ := pOne_in h1
    have d2 : a < 6 := d2
    rw [h1] at a3
    have a4 : MS tp en act (p + 1) op C (aUi M1 0 7 0) := MS_7 a3
    have a5 := a2.tr (FM.up (act := act) M1 (j := 7) 0 (by omega))
    rw [if_neg (o1_ne (by omega)), show o1 (some a) = nI a from rfl, if_pos (show (0 : Int32) = 0 ∨ (0 : Int32) = 1 from Or.inl rfl), aLt_eq, if_pos a4.2.2.2.1]
    dsimp only
    generalize aUi M1 0 7 0 = M2 at a4 a5 ⊢
    obtain ⟨M3, b1, b2, b3⟩ := q_am hT (show p + 1 ≤ en from d1) (stJ_in (i := 7) (l := rL) (by simp)) a4
    rw [b1, aB_some, if_pos b3.2.2.2.1]
    have b4 := a5.tr b2
    cases h2 : pOne tp en rL (p + 1) with
    | none =>
      rw [h2] at b3
      rw [if_pos (show o1 none = -1 from rfl)]
      obtain ⟨M4, e1, e2, e3⟩ := q_169W (act := act) (cE := cE) (cF := cF) (cS := cS) (nI a) (o1 none) (q := p + 1) b3.2.1
      exact ⟨M4, e1, b4.tr e2, (fun k => by cases k), fun _ => e3⟩
    | some b =>
      obtain ⟨e1, e2⟩ := pOne_in h2
      have e2 : b < 3 := e2
      rw [h2] at b3
      rw [if_neg (o1_ne (by omega)), show o1 (some b) = nI b from rfl]
      unfold f_X7_factor_169
      have b5 : MS tp en act (p + 2) op C (aUi M3 0 7 0) := MS_7 b3
      rw [if_pos (show (0 : Int32) = 0 ∨ (0 : Int32) = 1 from Or.inl rfl), aLt_eq]
      dsimp only
      obtain ⟨v, M4, g1, g2, g3, g4⟩ := q_fig hT (show p + 2 ≤ en by omega) b5
      have b6 := (b4.tr (FM.up (act := act) M3 (j := 7) 0 (by omega))).tr g2
      obtain ⟨n1, n2, n3⟩ := pNum_in (tp := tp) (en := en) (p := p + 2) (by omega)
      rw [g1, aB_some]
      cases h3 : (pNum tp en (p + 2)).1 with
      | none =>
        obtain ⟨M5, k1, k2, k3⟩ := q_emW act (nI a + (8 : Int32) * nI b + (32 : Int32) * v) _ M4 (g4 h3)
        rw [k1, aB_some]
        exact ⟨M5, rfl, b6.tr k2, (fun k => by cases k), fun _ => k3⟩
      | some n =>
        obtain ⟨y1, y2⟩ := g3 n h3
        obtain ⟨m1, m2⟩ := n3 n h3
        rw [y1, sgM_test d2 e2]
        obtain ⟨M5, k1, k2, k3⟩ := q_em (sgM (3 + (a + 6 * b + 18 * n))) h100 ha (show C.length < 140 by omega) y2
        rw [k1, aB_some]
        exact ⟨M5, rfl, b6.tr k2, (fun _ => k3), fun k => by cases k⟩
theorem q_facM {tp : Nat → Nat} {en act : Nat} (hT : TP tp en) (ha : act < 5) : ∀ (d n : Nat), 3 * d + 4 ≤ n → d ≤ 5 → RMc tp en act (5 - d) (pF tp en d) (fun S => g_X7_some n 1 S)
  | 0, n, hn, hd => by
    obtain ⟨n, rfl⟩ : ∃ m, n = m + 4 := ⟨n - 4, by omega⟩
    intro p C M hp hC h
    have h8 : M.1 0 8 = (5 : Int32) := h.2.2.2.2.1
    show ∃ M', f_X7_factor _ _ _ M = some ((), M') ∧ FM act M M' ∧ MR tp en act 5 C (pF0 tp en p) M'
    unfold f_X7_factor pF0
    rw [if_pos h.2.2.2.1, q_here hT hp h, aB_some]
    have bad : ∀ c : Int32, ∃ M', f_X7_factor_25 (fun S => g_X7_some (n + 3) 0 S) (fun S => g_X7_some (n + 3) 1 S) (fun S => g_X7_some (n + 3) 2 S) c M = some ((), M') ∧ FM act M M' ∧ MW p M' := fun c => by
      unfold f_X7_factor_25 f_X7_factor_39 f_X7_factor_69 f_X7_factor_101
      rw [if_pos h8, if_pos (show (1 : Int32) = 0 ∨ (1 : Int32) = 1 from Or.inr rfl)]
      simp only [aLt_eq]
      have w1 : MW p (aUi (aUi M 0 7 1) 0 8 ((aUi M 0 7 1).1 0 8 + 1)) := MW_8 (MW_7 h.2.1)
      have f1 : FM act M (aUi (aUi M 0 7 1) 0 8 ((aUi M 0 7 1).1 0 8 + 1)) := (FM.up M _ (by omega)).tr (FM.up _ _ (by omega))
      generalize aUi (aUi M 0 7 1) 0 8 ((aUi M 0 7 1).1 0 8 + 1) = M1 at w1 f1 ⊢
      rw [if_neg (show ¬ M1.1 0 7 = 0 by rw [w1.2]; decide), w1.1, Int32.add_zero]
      have w2 := MW_5 w1
      have f2 := f1.tr (FM.up (act := act) M1 (j := 5) (nI p) (by omega))
      generalize aUi M1 0 5 (nI p) = M2 at w2 f2 ⊢
      by_cases k : c = 33
      · rw [if_pos k]
        obtain ⟨M3, a1, a2, a3⟩ := q_facW act (n + 2) p M2 w2
        obtain ⟨M4, b1, b2, b3⟩ := q_emW act (-1) p M3 a3
        dsimp only at a1
        rw [a1, aB_some, b1, aB_some]
        exact ⟨_, rfl, ((f2.tr a2).tr b2).tr (FM.up _ _ (by omega)), MW_8 b3⟩
      · rw [if_neg k]
        obtain ⟨M3, a1, a2, a3⟩ := q_soW act n p M2 w2
        obtain ⟨M4, b1, b2, b3⟩ := q_mustW act 41 p M3 a3
        dsimp only at a1
        rw [a1, aB_some, b1, aB_some]
        exact ⟨_, rfl, ((f2.tr a2).tr b2).tr (FM.up _ _ (by omega)), MW_8 b3⟩
    by_cases c : chO tp en p = some 33
    · rw [if_pos (show o1 (chO tp en p) = (33 : Int32) from (ch_I (c := 33) hT (by omega)).mpr c), if_pos c]
      obtain ⟨M', g1, g2, g3⟩ := bad (o1 (chO tp en p))
      exact ⟨M', g1, g2, (fun k => by cases k), fun _ => g3⟩
    · rw [if_neg (show ¬ o1 (chO tp en p) = (33 : Int32) from fun e => c ((ch_I (c := 33) hT (by omega)).mp e)), if_neg c]
      by_cases c2 : chO tp en p = some 40
      · rw [if_pos (show o1 (chO tp en p) = (40 : Int32) from (ch_I (c := 40) hT (by omega)).mpr c2), if_pos c2]
        obtain ⟨M', g1, g2, g3⟩ := bad (o1 (chO tp en p))
        exact ⟨M', g1, g2, (fun k => by cases k), fun _ => g3⟩
      · rw [if_neg (show ¬ o1 (chO tp en p) = (40 : Int32) from fun e => c2 ((ch_I (c := 40) hT (by omega)).mp e)), if_neg c2]
        exact q_facT hT ha p C M hp hC h
  | d + 1, n, hn, hd => by
    obtain ⟨n, rfl⟩ : ∃ m, n = m + 1 := ⟨n - 1, by omega⟩
    have h100 := hT.1
    have hs := q_facM hT ha d n (by omega) (by omega)
    have he : RMc tp en act (5 - d) (pEf tp en (pF tp en d)) (fun S => g_X7_some n 2 S) := by
      obtain ⟨m, rfl⟩ : ∃ m, n = m + 2 := ⟨n - 2, by omega⟩
      exact q_soM hT ha (Gd_ch (Or.inl rfl) (Gd_F d)) (q_evM hT ha (Gd_F d) (q_facM hT ha d m (by omega) (by omega)))
    intro p C M hp hC h
    have h8 : M.1 0 8 = nI (5 - (d + 1)) := h.2.2.2.2.1
    show ∃ M', f_X7_factor _ _ _ M = some ((), M') ∧ FM act M M' ∧ MR tp en act (5 - (d + 1)) C (pFs tp en (pF tp en d) p) M'
    unfold f_X7_factor pFs
    rw [if_pos h.2.2.2.1, q_here hT hp h, aB_some]
    unfold f_X7_factor_25 f_X7_factor_39 f_X7_factor_69 f_X7_factor_101
    rw [h8, if_neg (show ¬ nI (5 - (d + 1)) = (5 : Int32) from fun e => by have := (nI_eq (b := 5) (by omega) (by omega)).mp e; omega), if_pos (show (0 : Int32) = 0 ∨ (0 : Int32) = 1 from Or.inl rfl)]
    simp only [aLt_eq]
    have k1 : MS tp en act p (5 - d) C (aUi (aUi M 0 7 0) 0 8 ((aUi M 0 7 0).1 0 8 + 1)) := by
      rw [aUi_ne (show (8 : Nat) ≠ 7 by omega), h8, nI_1, show 5 - (d + 1) + 1 = 5 - d by omega]
      exact MS_8 (MS_7 h)
    have f1 : FM act M (aUi (aUi M 0 7 0) 0 8 ((aUi M 0 7 0).1 0 8 + 1)) := (FM.up M _ (by omega)).tr (FM.up _ _ (by omega))
    generalize aUi (aUi M 0 7 0) 0 8 ((aUi M 0 7 0).1 0 8 + 1) = M1 at k1 f1 ⊢
    rw [if_pos k1.2.2.2.1, k1.2.1, nI_1]
    have k2 : MS tp en act (p + 1) (5 - d) C (aUi M1 0 5 (nI (p + 1))) := MS_5 k1
    have f2 := f1.tr (FM.up (act := act) M1 (j := 5) (nI (p + 1)) (by omega))
    generalize aUi M1 0 5 (nI (p + 1)) = M2 at k2 f2 ⊢
    have back : ∀ (q : Nat) (C' : List Int32) (M3 : aSt), MS tp en act q (5 - d) C' M3 → MS tp en act q (5 - (d + 1)) C' (aUi M3 0 8 (M3.1 0 8 - 1)) := fun q C' M3 h3 => by
      rw [h3.2.2.2.2.1, show nI (5 - d) - 1 = nI (5 - (d + 1)) by rw [show (1 : Int32) = nI 1 from rfl, pk_sub (by omega)]; congr 1]
      exact MS_8 h3
    by_cases c : chO tp en p = some 33
    · have hl := (chO_lt c).1
      have o33 : o1 (chO tp en p) = (33 : Int32) := (ch_I (c := 33) hT (by omega)).mpr c
      obtain ⟨f3, f4, f5, f6⟩ := Gd_F (tp := tp) (en := en) d (p + 1) hl
      rw [if_pos o33, if_pos c, if_pos o33]
      obtain ⟨M3, a1, a2, a3⟩ := hs (p + 1) C M2 hl (by omega) k2
      dsimp only at a1
      rw [a1, aB_some]
      by_cases k : (pF tp en d (p + 1)).1 = true
      · rw [if_pos k]
        obtain ⟨M4, b1, b2, b3⟩ := q_em (sgM 0) h100 ha (show (C ++ (pF tp en d (p + 1)).2.2.map sgM).length < 140 by rw [List.length_append, List.length_map]; omega) (a3.1 k)
        have b1 : f_X7_emits (-1) M3 = some ((), M4) := b1
        rw [b1, aB_some]
        refine ⟨_, rfl, ((f2.tr a2).tr b2).tr (FM.up _ _ (by omega)), fun _ => ?_, fun q => by cases q⟩
        show MS tp en act _ _ (C ++ ((pF tp en d (p + 1)).2.2 ++ [0]).map sgM) _
        rw [List.map_append, ← List.append_assoc]
        exact back _ _ _ b3
      · have kf : (pF tp en d (p + 1)).1 = false := by simpa using k
        rw [if_neg k]
        obtain ⟨M4, b1, b2, b3⟩ := q_emW act (-1) _ M3 (a3.2 kf)
        rw [b1, aB_some]
        exact ⟨_, rfl, ((f2.tr a2).tr b2).tr (FM.up _ _ (by omega)), (fun q => absurd q k), fun _ => MW_8 b3⟩
    · rw [if_neg (show ¬ o1 (chO tp en p) = (33 : Int32) from fun e => c ((ch_I (c := 33) hT (by omega)).mp e)), if_neg c]
      by_cases c2 : chO tp en p = some 40
      · have hl := (chO_lt c2).1
        have o40 : o1 (chO tp en p) = (40 : Int32) := (ch_I (c := 40) hT (by omega)).mpr c2
        obtain ⟨f3, f4, f5, f6⟩ := Gd_ch (tp := tp) (sep := 124) (Or.inr rfl) (Gd_ch (tp := tp) (sep := 38) (Or.inl rfl) (Gd_F (tp := tp) (en := en) d)) (p + 1) hl
        rw [if_pos o40, if_pos c2, if_neg (show ¬ o1 (chO tp en p) = (33 : Int32) by rw [o40]; decide)]
        obtain ⟨M3, a1, a2, a3⟩ := he (p + 1) C M2 hl (by omega) k2
        dsimp only at a1
        rw [a1, aB_some]
        by_cases k : (pEf tp en (pF tp en d) (p + 1)).1 = true
        · rw [if_pos k]
          obtain ⟨M4, b1, b2, b3, b4⟩ := q_must (c := 41) hT f4 (by omega) (a3.1 k)
          have b1 : f_X7_must 41 M3 = some ((), M4) := b1
          rw [b1, aB_some]
          by_cases c3 : chO tp en (pEf tp en (pF tp en d) (p + 1)).2.1 = some 41
          · rw [if_pos c3]
            exact ⟨_, rfl, ((f2.tr a2).tr b2).tr (FM.up _ _ (by omega)), (fun _ => back _ _ _ (b3 c3)), fun q => by cases q⟩
          · rw [if_neg c3]
            exact ⟨_, rfl, ((f2.tr a2).tr b2).tr (FM.up _ _ (by omega)), (fun q => by cases q), fun _ => MW_8 (b4 c3)⟩
        · have kf : (pEf tp en (pF tp en d) (p + 1)).1 = false := by simpa using k
          rw [if_neg k]
          obtain ⟨M4, b1, b2, b3⟩ := q_mustW act 41 _ M3 (a3.2 kf)
          rw [b1, aB_some]
          exact ⟨_, rfl, ((f2.tr a2).tr b2).tr (FM.up _ _ (by omega)), (fun q => absurd q k), fun _ => MW_8 b3⟩
      · rw [if_neg (show ¬ o1 (chO tp en p) = (40 : Int32) from fun e => c2 ((ch_I (c := 40) hT (by omega)).mp e)), if_neg c2]
        exact q_facT hT ha p C M hp hC h
theorem q_EM {tp : Nat → Nat} {en act : Nat} (hT : TP tp en) (ha : act < 5) : RMc tp en act 0 (pE tp en) f_X7_some_k := q_soM (n := 23) hT ha (Gd_ch (Or.inl rfl) (Gd_F 5)) (q_evM (n := 22) hT ha (Gd_F 5) (q_facM hT ha 5 22 (by omega) (by omega)))
theorem q_EMW (act : Nat) : RMw act f_X7_some_k := q_soW act 21

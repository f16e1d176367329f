/-! PURE PART: the reference's goesIn -/
theorem q_tells {nW : Nat} {W : PW} {M : aSt} (hW : RMW nW W (M.1 1)) (hn : nW ≤ 5) : f_X7_told 0 M = some (nI W.1, M) ∧ f_X7_told 1 M = some (nI W.2.1, M) := by
  have key : f_X7_tellsOf 200 3 M = some (nI W.1, M) ∧ f_X7_tellsOf 205 2 M = some (nI W.2.1, M) := by
    rcases hW with ⟨h1, h2⟩ | ⟨h, hh, h1, h2, h3, -⟩
    · unfold f_X7_tellsOf
      rw [h1, h2]
      exact ⟨rfl, rfl⟩
    · unfold f_X7_tellsOf
      have e1 : (200 : Int32) + nI h = nI (200 + h) := nI_add 200 h
      have e2 : (205 : Int32) + nI h = nI (205 + h) := nI_add 205 h
      have hne : ¬ nI h = -1 := neg_ne (by omega) (by decide)
      rw [h1, e1, e2, if_neg hne, if_neg hne, if_neg (q_chk (by omega) (by omega)), if_neg (q_chk (by omega) (by omega)), nI_clamp (by omega), nI_clamp (by omega), h2, h3]
      exact ⟨rfl, rfl⟩
  unfold f_X7_told
  rw [if_pos rfl, key.1, if_neg (by decide), if_pos rfl, key.2]
  exact ⟨rfl, rfl⟩
/-- the reference's numbers of a fall -/
def GM (W : PW) (i : Nat) (T : Nat → Nat) (g : Option Nat) (M : aSt) : Prop := M.1 0 14 = gF W i T g ∧ M.1 0 15 = gA W i T g ∧ M.1 0 16 = nI (gS W i T) ∧ M.1 0 17 = nI (gP W i T) ∧ M.1 0 18 = nI (gH W i T g) ∧ M.1 0 19 = gY W i T g
def NF (M M' : aSt) : Prop := (∀ k, k ≠ 0 → k ≠ 3 → k ≠ 4 → M'.1 k = M.1 k) ∧ (∀ j, (j < 11 ∨ 20 ≤ j) → M'.1 0 j = M.1 0 j) ∧ M'.2 = M.2
theorem NF.tr {A B C : aSt} (h : NF A B) (g : NF B C) : NF A C := ⟨fun k h1 h2 h3 => (g.1 k h1 h2 h3).trans (h.1 k h1 h2 h3), fun j hj => (g.2.1 j hj).trans (h.2.1 j hj), g.2.2.trans h.2.2⟩
theorem NF.rf (A : aSt) : NF A A := ⟨fun _ _ _ _ => rfl, fun _ _ => rfl, rfl⟩
theorem NF.up (A : aSt) (j : Nat) (v : Int32) (h1 : 11 ≤ j) (h2 : j < 20) : NF A (aUi A 0 j v) := ⟨fun k hk _ _ => aUi_row hk, fun q hq => aUi_ne (by omega), rfl⟩
theorem NF.lh {A B : aSt} (h : LH A B) : NF A B := ⟨h.1, fun j hj => h.2.1 j (by omega) (by omega) (by omega), h.2.2⟩
theorem q_isOf {i k a b : Nat} {M : aSt} (hi : i < 6) (hk : k < 7) (ha : a < 7) (hb : b < 7) (h : M.1 1 (110 + i) = nI k) : f_X7_isOf (nI i) (nI a) (nI b) M = some (bI (decide (k = a ∨ k = b)), M) := by
  unfold f_X7_isOf
  rw [show (110 : Int32) + nI i = nI (110 + i) from nI_add 110 i, if_neg (q_chk (by omega) (by omega)), nI_clamp (by omega), h]
  by_cases h1 : k = a
  · rw [if_pos (congrArg nI h1), decide_eq_true (Or.inl h1)]; rfl
  · rw [if_neg (fun e => h1 ((nI_eq (by omega) (by omega)).mp e)), if_neg (q_chk2 (by omega) (by omega))]
    by_cases h2 : k = b
    · rw [if_pos (congrArg nI h2), decide_eq_true (Or.inr h2)]; rfl
    · rw [if_neg (fun e => h2 ((nI_eq (by omega) (by omega)).mp e)), decide_eq_false (fun e => e.elim h1 h2)]; rfl
theorem q_size (x : Int32) (M : aSt) : f_X7_size x M = some (ab x, M) := by
  unfold f_X7_size ab
  split <;> rfl
theorem w7_0 : ∀ n : Fin 8, (nI n.1 + ((8 : Int32) - (0 : Int32))) - (nI n.1 + ((8 : Int32) - (0 : Int32))) / (8 : Int32) * (8 : Int32) = nI n.1 := by decide +kernel
theorem w7_1 : ∀ n : Fin 8, (nI n.1 + (0 : Int32)) - (nI n.1 + (0 : Int32)) / (8 : Int32) * (8 : Int32) = nI n.1 := by decide +kernel
theorem w7_2 : ∀ n : Fin 8, (nI n.1 + ((8 : Int32) - (1 : Int32))) - (nI n.1 + ((8 : Int32) - (1 : Int32))) / (8 : Int32) * (8 : Int32) = nI ((n.1 + 7) % 8) := by decide +kernel
theorem w7_3 : ∀ n : Fin 8, (nI n.1 + (1 : Int32)) - (nI n.1 + (1 : Int32)) / (8 : Int32) * (8 : Int32) = nI ((n.1 + 1) % 8) := by decide +kernel
theorem w7_4 : ∀ n : Fin 8, (nI n.1 + ((8 : Int32) - (2 : Int32))) - (nI n.1 + ((8 : Int32) - (2 : Int32))) / (8 : Int32) * (8 : Int32) = nI ((n.1 + 6) % 8) := by decide +kernel
theorem w7_5 : ∀ n : Fin 8, (nI n.1 + (2 : Int32)) - (nI n.1 + (2 : Int32)) / (8 : Int32) * (8 : Int32) = nI ((n.1 + 2) % 8) := by decide +kernel
theorem q_way7 {h n : Nat} {a : Int32} {M : aSt} (hh : h < 5) (hn : n < 8) (h15 : M.1 0 15 = a) : ∃ M', f_X7_goesIn_510 (nI n) (nI h) M = some ((), M') ∧ NF M M' ∧ (∀ j, j < 18 → M'.1 0 j = M.1 0 j) ∧ M'.1 0 18 = nI h ∧ M'.1 0 19 = wy h a n := by
  refine ⟨aUi (aUi M 0 18 (nI h)) 0 19 (wy h a n), ?_, (NF.up M 18 _ (by omega) (by omega)).tr (NF.up _ 19 _ (by omega) (by omega)), fun j hj => by rw [aUi_ne (by omega), aUi_ne (by omega)], by rw [aUi_ne (by omega), aUi_at], aUi_at⟩
  have key : ∀ z : Int32, z = wy h a n → (aUi (aUi M 0 18 (nI h)) 0 19 z) = aUi (aUi M 0 18 (nI h)) 0 19 (wy h a n) := fun z hz => by rw [hz]
  unfold f_X7_goesIn_510 f_X7_goesIn_538 f_X7_goesIn_573 f_X7_goesIn_577
  simp only [aLt_eq, aUi_at, aUi_ne (show (15 : Nat) ≠ 18 by omega), h15]
  rcases (show h = 0 ∨ h = 1 ∨ h = 2 ∨ h = 3 ∨ h = 4 by omega) with rfl | rfl | rfl | rfl | rfl
  · rw [if_neg (show ¬ nI 0 = (1 : Int32) by decide), if_neg (show ¬ nI 0 = (3 : Int32) by decide), if_neg (show ¬ nI 0 = (2 : Int32) by decide)]
    by_cases c : a ≤ 0
    · rw [if_pos c]; exact congrArg (fun z => some ((), z)) (key _ (w7_0 ⟨n, hn⟩))
    · rw [if_neg c]; exact congrArg (fun z => some ((), z)) (key _ (w7_1 ⟨n, hn⟩))
  · rw [if_pos (show nI 1 = (1 : Int32) from rfl), if_neg (show ¬ nI 1 = (2 : Int32) by decide)]
    by_cases c : a ≤ 0
    · rw [if_pos c]; exact congrArg (fun z => some ((), z)) (key _ (by unfold wy; rw [if_neg (by omega), if_pos rfl, if_pos c]; exact w7_2 ⟨n, hn⟩))
    · rw [if_neg c]; exact congrArg (fun z => some ((), z)) (key _ (by unfold wy; rw [if_neg (by omega), if_pos rfl, if_neg c]; exact w7_3 ⟨n, hn⟩))
  · rw [if_neg (show ¬ nI 2 = (1 : Int32) by decide), if_neg (show ¬ nI 2 = (3 : Int32) by decide), if_pos (show nI 2 = (2 : Int32) from rfl)]
    exact congrArg (fun z => some ((), z)) (key _ rfl)
  · rw [if_neg (show ¬ nI 3 = (1 : Int32) by decide), if_pos (show nI 3 = (3 : Int32) from rfl), if_neg (show ¬ nI 3 = (2 : Int32) by decide)]
    by_cases c : a ≤ 0
    · rw [if_pos c]; exact congrArg (fun z => some ((), z)) (key _ (by unfold wy; rw [if_neg (by omega), if_neg (by omega), if_pos rfl, if_pos c]; exact w7_4 ⟨n, hn⟩))
    · rw [if_neg c]; exact congrArg (fun z => some ((), z)) (key _ (by unfold wy; rw [if_neg (by omega), if_neg (by omega), if_pos rfl, if_neg c]; exact w7_5 ⟨n, hn⟩))
  · rw [if_neg (show ¬ nI 4 = (1 : Int32) by decide), if_neg (show ¬ nI 4 = (3 : Int32) by decide), if_neg (show ¬ nI 4 = (2 : Int32) by decide)]
    by_cases c : a ≤ 0
    · rw [if_pos c]; exact congrArg (fun z => some ((), z)) (key _ (w7_0 ⟨n, hn⟩))
    · rw [if_neg c]; exact congrArg (fun z => some ((), z)) (key _ (w7_1 ⟨n, hn⟩))
theorem q_how7 {n s p : Nat} {f a : Int32} {M : aSt} (hn : n < 8) (h14 : M.1 0 14 = f) (h15 : M.1 0 15 = a) (h16 : M.1 0 16 = nI s) (h17 : M.1 0 17 = nI p) : ∃ M', f_X7_goesIn_444 (nI n) M = some ((), M') ∧ NF M M' ∧ M'.1 0 14 = f ∧ M'.1 0 15 = a ∧ M'.1 0 16 = nI s ∧ M'.1 0 17 = nI p ∧ M'.1 0 18 = nI (hw f a s p) ∧ M'.1 0 19 = wy (hw f a s p) a n := by
  obtain ⟨M', e1, e2, e3, e4, e5⟩ := q_way7 (hw_lt f a s p) hn h15
  refine ⟨M', ?_, e2, (e3 14 (by omega)).trans h14, (e3 15 (by omega)).trans h15, (e3 16 (by omega)).trans h16, (e3 17 (by omega)).trans h17, e4, e5⟩
  rw [← e1]
  unfold f_X7_goesIn_444 hw
  simp only [h14, h15, h16, h17, q_size, aB_some]
  by_cases c1 : 0 ≤ f
  · rw [if_pos c1, if_pos c1]
    by_cases c2 : f ≤ nI p
    · rw [if_pos c2, if_pos c2]
      by_cases c3 : ab a ≤ nI s
      · rw [if_pos c3, if_pos c3]
        by_cases c4 : nI 2 * ab a ≤ nI s
        · rw [if_pos c4, if_pos (show (2 : Int32) * ab a ≤ nI s from c4)]; rfl
        · rw [if_neg c4, if_neg (show ¬ (2 : Int32) * ab a ≤ nI s from c4)]; rfl
      · rw [if_neg c3, if_neg c3]; rfl
    · rw [if_neg c2, if_neg c2]; rfl
  · rw [if_neg c1, if_neg c1]; rfl
theorem le_I {s v : Nat} (hs : s < 2 ^ 30) (hv : v < 2 ^ 30) {γ : Type} (F : Int32 → γ) : (if nI v ≤ nI s then F (nI s - nI v) else F 0) = F (nI (s - v)) := by
  by_cases h : v ≤ s
  · rw [if_pos (nI_le h (by omega)), pk_sub h]
  · rw [if_neg (nI_ge (by omega) (by omega)), show s - v = 0 by omega]; rfl
/-- the KIND's changes, and on -/
theorem q_kind7 {i k v n s p : Nat} {f a : Int32} {M : aSt} (hi : i < 6) (hk : k < 7) (hv : v < 10) (hn : n < 8) (hs : s < 2 ^ 30) (hp : p < 2 ^ 30) (hK : M.1 1 (110 + i) = nI k) (h14 : M.1 0 14 = kF k v f) (h15 : M.1 0 15 = a) (h16 : M.1 0 16 = nI s) (h17 : M.1 0 17 = nI p) : ∃ M', f_X7_goesIn_314 (nI i) (nI n) (nI v) M = some ((), M') ∧ NF M M' ∧ M'.1 0 14 = kF k v f ∧ M'.1 0 15 = kA k v a ∧ M'.1 0 16 = nI (kS k v s) ∧ M'.1 0 17 = nI (kP k v p) ∧ M'.1 0 18 = nI (hw (kF k v f) (kA k v a) (kS k v s) (kP k v p)) ∧ M'.1 0 19 = wy (hw (kF k v f) (kA k v a) (kS k v s) (kP k v p)) (kA k v a) n := by
  have s6 : ∀ {M : aSt} {a : Int32} {s : Nat}, M.1 1 (110 + i) = nI k → M.1 0 14 = kF k v f → M.1 0 15 = a → M.1 0 16 = nI s → M.1 0 17 = nI p → ∃ M', f_X7_goesIn_406 (nI i) (nI n) (nI v) M = some ((), M') ∧ NF M M' ∧ M'.1 0 14 = kF k v f ∧ M'.1 0 15 = a ∧ M'.1 0 16 = nI s ∧ M'.1 0 17 = nI (kP k v p) ∧ M'.1 0 18 = nI (hw (kF k v f) a s (kP k v p)) ∧ M'.1 0 19 = wy (hw (kF k v f) a s (kP k v p)) a n := by
    intro M a s hK h14 h15 h16 h17
    unfold f_X7_goesIn_406
    rw [show (110 : Int32) + nI i = nI (110 + i) from nI_add 110 i, if_neg (q_chk (by omega) (by omega)), nI_clamp (by omega), hK, h17]
    by_cases h6 : k = 6
    · rw [if_pos (show nI k = (6 : Int32) by rw [h6]; rfl), le_I hp (by omega) (fun z => f_X7_goesIn_441 (nI n) z M)]
      unfold f_X7_goesIn_441
      rw [aLt_eq]
      obtain ⟨M', e1, e2, e3⟩ := q_how7 (M := aUi M 0 17 (nI (p - v))) (n := n) (f := kF k v f) (a := a) (s := s) (p := kP k v p) hn (by rw [aUi_ne (by omega)]; exact h14) (by rw [aUi_ne (by omega)]; exact h15) (by rw [aUi_ne (by omega)]; exact h16) (by rw [aUi_at]; unfold kP; rw [if_pos h6])
      exact ⟨M', e1, (NF.up M 17 _ (by omega) (by omega)).tr e2, e3⟩
    · rw [if_neg (show ¬ nI k = (6 : Int32) from fun e => h6 ((nI_eq (b := 6) (by omega) (by omega)).mp e))]
      exact q_how7 hn h14 h15 h16 (by rw [h17]; unfold kP; rw [if_neg h6])
  have s5 : ∀ {M : aSt} {a : Int32}, M.1 1 (110 + i) = nI k → M.1 0 14 = kF k v f → M.1 0 15 = a → M.1 0 16 = nI s → M.1 0 17 = nI p → ∃ M', f_X7_goesIn_369 (nI i) (nI n) (nI v) M = some ((), M') ∧ NF M M' ∧ M'.1 0 14 = kF k v f ∧ M'.1 0 15 = a ∧ M'.1 0 16 = nI (kS k v s) ∧ M'.1 0 17 = nI (kP k v p) ∧ M'.1 0 18 = nI (hw (kF k v f) a (kS k v s) (kP k v p)) ∧ M'.1 0 19 = wy (hw (kF k v f) a (kS k v s) (kP k v p)) a n := by
    intro M a hK h14 h15 h16 h17
    unfold f_X7_goesIn_369
    rw [show (110 : Int32) + nI i = nI (110 + i) from nI_add 110 i, if_neg (q_chk (by omega) (by omega)), nI_clamp (by omega), hK, h16]
    by_cases h5 : k = 5
    · rw [if_pos (show nI k = (5 : Int32) by rw [h5]; rfl), le_I hs (by omega) (fun z => f_X7_goesIn_403 (nI i) (nI n) (nI v) z M)]
      unfold f_X7_goesIn_403
      rw [aLt_eq]
      obtain ⟨M', e1, e2, e3⟩ := s6 (M := aUi M 0 16 (nI (s - v))) (a := a) (s := kS k v s) (by rw [aUi_row (by omega)]; exact hK) (by rw [aUi_ne (by omega)]; exact h14) (by rw [aUi_ne (by omega)]; exact h15) (by rw [aUi_at]; unfold kS; rw [if_pos h5]) (by rw [aUi_ne (by omega)]; exact h17)
      exact ⟨M', e1, (NF.up M 16 _ (by omega) (by omega)).tr e2, e3⟩
    · rw [if_neg (show ¬ nI k = (5 : Int32) from fun e => h5 ((nI_eq (b := 5) (by omega) (by omega)).mp e))]
      exact s6 hK h14 h15 (by rw [h16]; unfold kS; rw [if_neg h5]) h17
  have s25 : ∀ {M : aSt}, M.1 1 (110 + i) = nI k → M.1 0 14 = kF k v f → M.1 0 15 = kA1 k v a → M.1 0 16 = nI s → M.1 0 17 = nI p → ∃ M', f_X7_goesIn_348 (nI i) (nI n) (nI v) M = some ((), M') ∧ NF M M' ∧ M'.1 0 14 = kF k v f ∧ M'.1 0 15 = kA k v a ∧ M'.1 0 16 = nI (kS k v s) ∧ M'.1 0 17 = nI (kP k v p) ∧ M'.1 0 18 = nI (hw (kF k v f) (kA k v a) (kS k v s) (kP k v p)) ∧ M'.1 0 19 = wy (hw (kF k v f) (kA k v a) (kS k v s) (kP k v p)) (kA k v a) n := by
    intro M hK h14 h15 h16 h17
    unfold f_X7_goesIn_348
    rw [show (2 : Int32) = nI 2 from rfl, show (5 : Int32) = nI 5 from rfl, q_isOf hi hk (by omega) (by omega) hK, aB_some]
    by_cases h : k = 2 ∨ k = 5
    · rw [decide_eq_true h, if_neg (show ¬ bI true = 0 by decide), aLt_eq, h15]
      obtain ⟨M', e1, e2, e3⟩ := s5 (M := aUi M 0 15 (kA1 k v a + nI v)) (a := kA k v a) (by rw [aUi_row (by omega)]; exact hK) (by rw [aUi_ne (by omega)]; exact h14) (by rw [aUi_at]; unfold kA; rw [if_pos h]) (by rw [aUi_ne (by omega)]; exact h16) (by rw [aUi_ne (by omega)]; exact h17)
      exact ⟨M', e1, (NF.up M 15 _ (by omega) (by omega)).tr e2, e3⟩
    · rw [decide_eq_false h, if_pos (show bI false = 0 from rfl)]
      exact s5 hK h14 (by rw [h15]; unfold kA; rw [if_neg h]) h16 h17
  unfold f_X7_goesIn_314
  rw [show (1 : Int32) = nI 1 from rfl, show (4 : Int32) = nI 4 from rfl, q_isOf hi hk (by omega) (by omega) hK, aB_some]
  by_cases h : k = 1 ∨ k = 4
  · rw [decide_eq_true h, if_neg (show ¬ bI true = 0 by decide), h15, q_size, aB_some, h15]
    have key : ∀ z : Int32, z = kA1 k v a → ∃ M', f_X7_goesIn_345 (nI i) (nI n) (nI v) z M = some ((), M') ∧ NF M M' ∧ M'.1 0 14 = kF k v f ∧ M'.1 0 15 = kA k v a ∧ M'.1 0 16 = nI (kS k v s) ∧ M'.1 0 17 = nI (kP k v p) ∧ M'.1 0 18 = nI (hw (kF k v f) (kA k v a) (kS k v s) (kP k v p)) ∧ M'.1 0 19 = wy (hw (kF k v f) (kA k v a) (kS k v s) (kP k v p)) (kA k v a) n := by
      intro z hz
      unfold f_X7_goesIn_345
      rw [aLt_eq]
      obtain ⟨M', e1, e2, e3⟩ := s25 (M := aUi M 0 15 z) (by rw [aUi_row (by omega)]; exact hK) (by rw [aUi_ne (by omega)]; exact h14) (by rw [aUi_at]; exact hz) (by rw [aUi_ne (by omega)]; exact h16) (by rw [aUi_ne (by omega)]; exact h17)
      exact ⟨M', e1, (NF.up M 15 _ (by omega) (by omega)).tr e2, e3⟩
    by_cases hc : nI v < ab a
    · rw [if_pos hc]
      exact key a (by unfold kA1; rw [if_pos h, if_pos hc])
    · rw [if_neg hc]
      exact key 0 (by unfold kA1; rw [if_pos h, if_neg hc])
  · rw [decide_eq_false h, if_pos (show bI false = 0 from rfl)]
    exact s25 hK h14 (by rw [h15]; unfold kA1; rw [if_neg h]) h16 h17
theorem TM_NF {i : Nat} {T : Nat → Nat} {M M' : aSt} (h : NF M M') (hT : TM i T (M.1 1)) : TM i T (M'.1 1) := by rw [h.1 1 (by omega) (by omega) (by omega)]; exact hT
theorem RMW_NF {nW : Nat} {W : PW} {M M' : aSt} (h : NF M M') (hT : RMW nW W (M.1 1)) : RMW nW W (M'.1 1) := by rw [h.1 1 (by omega) (by omega) (by omega)]; exact hT
theorem q_249 {i nW : Nat} {T : Nat → Nat} {M : aSt} {W : PW} {f a : Int32} (hi : i < 6) (hB : TB T) (hT : TM i T (M.1 1)) (hnW : nW ≤ 5) (hW : RMW nW W (M.1 1)) (hO : wdOk W) (h14 : M.1 0 14 = f) (h15 : M.1 0 15 = a) : ∃ M', f_X7_goesIn_249 (nI i) (nI (T 8)) (nI (T 9 + T 10)) (nI (T 1)) M = some ((), M') ∧ NF M M' ∧ M'.1 0 14 = kF (T 0) (T 1) f ∧ M'.1 0 15 = kA (T 0) (T 1) a ∧ M'.1 0 16 = nI (gS W i T) ∧ M'.1 0 17 = nI (gP W i T) ∧ M'.1 0 18 = nI (hw (kF (T 0) (T 1) f) (kA (T 0) (T 1) a) (gS W i T) (gP W i T)) ∧ M'.1 0 19 = wy (hw (kF (T 0) (T 1) f) (kA (T 0) (T 1) a) (gS W i T) (gP W i T)) (kA (T 0) (T 1) a) (T 8) := by
  have b0 : T 0 ≤ 6 := hB.1 0 (by omega)
  have b1 : T 1 ≤ 9 := hB.1 1 (by omega)
  have b6 : T 6 ≤ 9 := hB.1 6 (by omega)
  have b8 : T 8 ≤ 7 := hB.1 8 (by omega)
  have b9 : T 9 ≤ 9 := hB.1 9 (by omega)
  have b10 : T 10 ≤ 9 := hB.1 10 (by omega)
  have k0 := tot_lt (i := i) (w := T 8) (q := 0) (T := T) hO
  obtain ⟨M1, l1, l2, l3, l4, l5⟩ := q_looks hi hB (show T 8 < 8 by omega) hT hnW hW hO
  have n1 := NF.lh l1
  have hT1 := TM_NF n1 hT
  have t6 : M1.1 1 (146 + i) = nI (T 6) := hT1.1 6 (by omega)
  have t0 : M1.1 1 (110 + i) = nI (T 0) := hT1.1 0 (by omega)
  have m1 : T 6 * (T 9 + T 10) ≤ 9 * 18 := Nat.mul_le_mul b6 (by omega)
  have m2 : (1 + totL i T (T 8) 0 W.2.2) * (T 9 + T 10) ≤ 991 * 18 := Nat.mul_le_mul (by omega) (by omega)
  have m3 : 1 * (T 9 + T 10) ≤ (1 + totL i T (T 8) 0 W.2.2) * (T 9 + T 10) := Nat.mul_le_mul_right _ (by omega)
  have m4 : T 6 * (T 9 + T 10) ≤ 9 * (T 9 + T 10) := Nat.mul_le_mul_right _ b6
  have st : nI (1 + totL i T (T 8) 0 W.2.2) * nI (T 9 + T 10) - nI (T 6) * nI (T 9 + T 10) / 10 = nI (gS0 W i T) := by
    rw [pk_mul, pk_mul, show (10 : Int32) = nI 10 from rfl, pk_div (by omega) (by omega) (by omega), pk_sub (by omega)]
    rfl
  have gs : gS0 W i T < 2 ^ 30 := by
    show (1 + totL i T (T 8) 0 W.2.2) * (T 9 + T 10) - T 6 * (T 9 + T 10) / 10 < 2 ^ 30
    omega
  unfold f_X7_goesIn_249
  rw [l2, aB_some, show (146 : Int32) + nI i = nI (146 + i) from nI_add 146 i, if_neg (q_chk (by omega) (by omega)), nI_clamp (by omega), l3, t6, st, aLt_eq, aLt_eq, aUi_ne (show (12 : Nat) ≠ 16 by omega), l4, show (3 : Int32) = nI 3 from rfl, show (6 : Int32) = nI 6 from rfl]
  generalize hM2 : aUi (aUi M1 0 16 _) 0 17 _ = M2
  have n2 : NF M1 M2 := by subst hM2; exact (NF.up M1 16 _ (by omega) (by omega)).tr (NF.up _ 17 _ (by omega) (by omega))
  have r0 : M2.1 1 (110 + i) = nI (T 0) := by rw [n2.1 1 (by omega) (by omega) (by omega)]; exact t0
  have r14 : M2.1 0 14 = f := by subst hM2; rw [aUi_ne (by omega), aUi_ne (by omega), l1.2.1 14 (by omega) (by omega) (by omega)]; exact h14
  have r15 : M2.1 0 15 = a := by subst hM2; rw [aUi_ne (by omega), aUi_ne (by omega), l1.2.1 15 (by omega) (by omega) (by omega)]; exact h15
  have r16 : M2.1 0 16 = nI (gS0 W i T) := by subst hM2; rw [aUi_ne (by omega), aUi_at]
  have r17 : M2.1 0 17 = nI (gP0 W i T) := by subst hM2; rw [aUi_at]; rfl
  clear hM2
  rw [q_isOf hi (show T 0 < 7 by omega) (by omega) (by omega) r0, aB_some]
  have gp : gP0 W i T < 2 ^ 30 := by show 40 - totL i T (T 8) 1 W.2.2 < 2 ^ 30; omega
  by_cases h : T 0 = 3 ∨ T 0 = 6
  · rw [decide_eq_true h, if_neg (show ¬ bI true = 0 by decide), aLt_eq, r14]
    obtain ⟨M', e1, e2, e3⟩ := q_kind7 (M := aUi M2 0 14 (f - nI (T 1))) (f := f) (a := a) (s := gS0 W i T) (p := gP0 W i T) hi (show T 0 < 7 by omega) (show T 1 < 10 by omega) (show T 8 < 8 by omega) gs gp (by rw [aUi_row (by omega)]; exact r0) (by rw [aUi_at]; unfold kF; rw [if_pos h]) (by rw [aUi_ne (by omega)]; exact r15) (by rw [aUi_ne (by omega)]; exact r16) (by rw [aUi_ne (by omega)]; exact r17)
    exact ⟨M', e1, ((n1.tr n2).tr (NF.up M2 14 _ (by omega) (by omega))).tr e2, e3⟩
  · rw [decide_eq_false h, if_pos (show bI false = 0 from rfl)]
    obtain ⟨M', e1, e2, e3⟩ := q_kind7 (f := f) hi (show T 0 < 7 by omega) (show T 1 < 10 by omega) (show T 8 < 8 by omega) gs gp r0 (by rw [r14]; unfold kF; rw [if_neg h]) r15 r16 r17
    exact ⟨M', e1, (n1.tr n2).tr e2, e3⟩
theorem q_goesIn {i nW : Nat} {T : Nat → Nat} {M : aSt} {W : PW} (g : Option Nat) (hi : i < 6) (hB : TB T) (hT : TM i T (M.1 1)) (hnW : nW ≤ 5) (hW : RMW nW W (M.1 1)) (hO : wdOk W) (hg : ∀ w, g = some w → w < 8) : ∃ M', f_X7_goesIn (nI i) (gG g) M = some ((), M') ∧ NF M M' ∧ GM W i T g M' := by
  have b5 : T 5 ≤ 7 := hB.1 5 (by omega)
  have b8 : T 8 ≤ 7 := hB.1 8 (by omega)
  have b12 : T 12 ≤ 7 := hB.1 12 (by omega)
  have t1 : M.1 1 (116 + i) = nI (T 1) := hT.1 1 (by omega)
  have t4 : M.1 1 (134 + i) = nI (T 4) := hT.1 4 (by omega)
  have t5 : M.1 1 (140 + i) = nI (T 5) := hT.1 5 (by omega)
  have p0 : M.1 1 (158 + 6 * i) = nI (T 8) := hT.2 0 (by omega)
  have p1 : M.1 1 (158 + 6 * i + 1) = nI (T 9) := hT.2 1 (by omega)
  have p2 : M.1 1 (158 + 6 * i + 2) = nI (T 10) := hT.2 2 (by omega)
  have p3 : M.1 1 (158 + 6 * i + 3) = nI (T 11) := hT.2 3 (by omega)
  have p4 : M.1 1 (158 + 6 * i + 4) = nI (T 12) := hT.2 4 (by omega)
  have p5 : M.1 1 (158 + 6 * i + 5) = nI (T 13) := hT.2 5 (by omega)
  obtain ⟨o1, o2⟩ := q_tells hW hnW
  have o3 : ∀ x : Int32, f_X7_told 1 (aUi M 0 14 x) = some (nI W.2.1, aUi M 0 14 x) := fun x => (q_tells (M := aUi M 0 14 x) (by rw [aUi_row (by omega)]; exact hW) hnW).2
  have l158 : (158 : Int32) + 6 * nI i = nI (158 + 6 * i) := by rw [show (6 : Int32) = nI 6 from rfl, pk_mul, show (158 : Int32) = nI 158 from rfl, nI_add]
  have l134 : (134 : Int32) + nI i = nI (134 + i) := nI_add 134 i
  have l140 : (140 : Int32) + nI i = nI (140 + i) := nI_add 140 i
  have l116 : (116 : Int32) + nI i = nI (116 + i) := nI_add 116 i
  have a1 : nI (158 + 6 * i) + 1 = nI (158 + 6 * i + 1) := nI_add _ 1
  have a2 : nI (158 + 6 * i) + 2 = nI (158 + 6 * i + 2) := nI_add _ 2
  have a3 : nI (158 + 6 * i) + 3 = nI (158 + 6 * i + 3) := nI_add _ 3
  have a4 : nI (158 + 6 * i) + 4 = nI (158 + 6 * i + 4) := nI_add _ 4
  have a5 : nI (158 + 6 * i) + 5 = nI (158 + 6 * i + 5) := nI_add _ 5
  have cl : ∀ m, m < 979 → (nI m).toNatClampNeg = m := fun m hm => nI_clamp (by omega)
  have ck : ∀ m, m < 979 → (nI m < 0 ∨ 979 ≤ m) = False := fun m hm => eq_false (q_chk2 hm (by omega))
  unfold f_X7_goesIn
  rw [aLt_eq, l158]
  simp (disch := omega) only [l134, l140, l116, a1, a2, a3, a4, a5, cl, ck, if_false]
  simp only [p0, p1, p2, t1, t4, t5]
  rw [aLt_eq, aLt_eq, aLt_eq, q7_al (by omega) (by omega), aB_some, o1, aB_some, o2, aB_some]
  simp only [p3, p4, p5]
  rw [q7_al (by omega) (by omega), aB_some, aLt_eq]
  simp only [aUi_row (show (1 : Nat) ≠ 0 by omega), t4, t5]
  rw [q7_si (by omega) (by omega), aB_some, o3, aB_some]
  simp only [aUi_row (show (1 : Nat) ≠ 0 by omega), p1, p2, p4, p5]
  rw [q7_si (by omega) (by omega), aB_some, aLt_eq, nI_add (T 9)]
  generalize hX2 : aUi (aUi M 0 14 _) 0 15 _ = X2
  have f0 : NF M X2 := by subst hX2; exact (NF.up M 14 _ (by omega) (by omega)).tr (NF.up _ 15 _ (by omega) (by omega))
  have f1 : X2.1 0 14 = gF0 W i T none := by subst hX2; rw [aUi_ne (by omega), aUi_at]; rfl
  have f2 : X2.1 0 15 = gA0 W i T none := by subst hX2; rw [aUi_at]; rfl
  clear hX2
  have hT2 := TM_NF f0 hT
  have hW2 := RMW_NF f0 hW
  cases g with
  | none =>
    rw [show gG none = -1 from rfl, if_pos rfl]
    obtain ⟨S', g1, g2, g3, g4, g5, g6, g7, g8⟩ := q_249 hi hB hT2 hnW hW2 hO f1 f2
    exact ⟨S', g1, f0.tr g2, g3, g4, g5, g6, g7, g8⟩
  | some w =>
    have hw := hg w rfl
    obtain ⟨M1, l1, l2, l3, l4, l5⟩ := q_looks hi hB hw hT2 hnW hW2 hO
    rw [show gG (some w) = nI w from rfl, if_neg (show ¬ nI w = -1 from neg_ne (by omega) (by decide)), l2, aB_some, q7_al (by omega) (by omega), aB_some, aLt_eq, q7_si (by omega) (by omega), aB_some, aLt_eq, l1.2.1 14 (by omega) (by omega) (by omega), f1, aUi_ne (show (15 : Nat) ≠ 14 by omega), l1.2.1 15 (by omega) (by omega) (by omega), f2, aUi_ne (show (13 : Nat) ≠ 14 by omega), l5]
    generalize hX3 : aUi (aUi M1 0 14 _) 0 15 _ = X3
    have n1 := NF.lh l1
    have j0 : NF M1 X3 := by subst hX3; exact (NF.up M1 14 _ (by omega) (by omega)).tr (NF.up _ 15 _ (by omega) (by omega))
    have j1 : X3.1 0 14 = gF0 W i T (some w) := by subst hX3; rw [aUi_ne (by omega), aUi_at]; rfl
    have j2 : X3.1 0 15 = gA0 W i T (some w) := by subst hX3; rw [aUi_at]; rfl
    clear hX3
    obtain ⟨S', g1, g2, g3, g4, g5, g6, g7, g8⟩ := q_249 hi hB (TM_NF j0 (TM_NF n1 hT2)) hnW (RMW_NF j0 (RMW_NF n1 hW2)) hO j1 j2
    exact ⟨S', g1, ((f0.tr n1).tr j0).tr g2, g3, g4, g5, g6, g7, g8⟩

/-! PURE PART: the reference reads: small steps -/
def MS (tp : Nat → Nat) (en act p op : Nat) (C : List Int32) (M : aSt) : Prop := M.1 0 4 = nI act ∧ M.1 0 5 = nI p ∧ M.1 0 6 = nI en ∧ M.1 0 7 = 0 ∧ M.1 0 8 = nI op ∧ (∀ j, j < en → M.1 1 (10 + j) = nI (tp j)) ∧ M.1 1 (274 + act) = nI C.length ∧ ∀ j (h : j < C.length), M.1 1 (279 + 140 * act + j) = C[j]
/-- it is wrong at q -/
def MW (q : Nat) (M : aSt) : Prop := M.1 0 5 = nI q ∧ M.1 0 7 = 1
def FM (act : Nat) (M M' : aSt) : Prop := (∀ k, k ≠ 0 → k ≠ 1 → M'.1 k = M.1 k) ∧ M'.2 = M.2 ∧ (∀ j, j ≠ 5 → j ≠ 7 → j ≠ 8 → M'.1 0 j = M.1 0 j) ∧ ∀ q, q ≠ 274 + act → (q < 279 + 140 * act ∨ 419 + 140 * act ≤ q) → M'.1 1 q = M.1 1 q
theorem FM.tr {act : Nat} {A B C : aSt} (h : FM act A B) (g : FM act B C) : FM act A C := ⟨fun k h1 h2 => (g.1 k h1 h2).trans (h.1 k h1 h2), g.2.1.trans h.2.1, fun j h1 h2 h3 => (g.2.2.1 j h1 h2 h3).trans (h.2.2.1 j h1 h2 h3), fun q h1 h2 => (g.2.2.2 q h1 h2).trans (h.2.2.2 q h1 h2)⟩
theorem FM.rf {act : Nat} (A : aSt) : FM act A A := ⟨fun _ _ _ => rfl, rfl, fun _ _ _ _ => rfl, fun _ _ _ => rfl⟩
theorem FM.up {act : Nat} (A : aSt) {j : Nat} (v : Int32) (h : j = 5 ∨ j = 7 ∨ j = 8) : FM act A (aUi A 0 j v) := ⟨fun k h1 _ => aUi_row h1, rfl, fun q h1 h2 h3 => aUi_ne (by omega), fun q _ _ => by rw [aUi_row (by omega)]⟩
theorem MS_5 {tp : Nat → Nat} {en act p q op : Nat} {C : List Int32} {M : aSt} (h : MS tp en act p op C M) : MS tp en act q op C (aUi M 0 5 (nI q)) := by
  obtain ⟨a, b, c, d, e, f, g, i⟩ := h
  exact ⟨by rw [aUi_ne (by omega)]; exact a, aUi_at, by rw [aUi_ne (by omega)]; exact c, by rw [aUi_ne (by omega)]; exact d, by rw [aUi_ne (by omega)]; exact e, by rw [aUi_row (by omega)]; exact f, by rw [aUi_row (by omega)]; exact g, by rw [aUi_row (by omega)]; exact i⟩
theorem MS_7 {tp : Nat → Nat} {en act p op : Nat} {C : List Int32} {M : aSt} (h : MS tp en act p op C M) : MS tp en act p op C (aUi M 0 7 0) := by
  obtain ⟨a, b, c, d, e, f, g, i⟩ := h
  exact ⟨by rw [aUi_ne (by omega)]; exact a, by rw [aUi_ne (by omega)]; exact b, by rw [aUi_ne (by omega)]; exact c, aUi_at, by rw [aUi_ne (by omega)]; exact e, by rw [aUi_row (by omega)]; exact f, by rw [aUi_row (by omega)]; exact g, by rw [aUi_row (by omega)]; exact i⟩
theorem MS_8 {tp : Nat → Nat} {en act p op q : Nat} {C : List Int32} {M : aSt} (h : MS tp en act p op C M) : MS tp en act p q C (aUi M 0 8 (nI q)) := by
  obtain ⟨a, b, c, d, e, f, g, i⟩ := h
  exact ⟨by rw [aUi_ne (by omega)]; exact a, by rw [aUi_ne (by omega)]; exact b, by rw [aUi_ne (by omega)]; exact c, by rw [aUi_ne (by omega)]; exact d, aUi_at, by rw [aUi_row (by omega)]; exact f, by rw [aUi_row (by omega)]; exact g, by rw [aUi_row (by omega)]; exact i⟩
theorem MW_7 {q : Nat} {M : aSt} (h : M.1 0 5 = nI q) : MW q (aUi M 0 7 1) := ⟨by rw [aUi_ne (by omega)]; exact h, aUi_at⟩
theorem MW_8 {q : Nat} {M : aSt} {v : Int32} (h : MW q M) : MW q (aUi M 0 8 v) := ⟨by rw [aUi_ne (by omega)]; exact h.1, by rw [aUi_ne (by omega)]; exact h.2⟩
theorem MW_5 {q : Nat} {M : aSt} (h : MW q M) : MW q (aUi M 0 5 (nI q)) := ⟨aUi_at, by rw [aUi_ne (by omega)]; exact h.2⟩
theorem q_here {tp : Nat → Nat} {en act p op : Nat} {C : List Int32} {M : aSt} (hT : TP tp en) (hp : p ≤ en) (h : MS tp en act p op C M) : f_X7_here M = some (o1 (chO tp en p), M) := by
  obtain ⟨a, b, c, d, e, f, g, i⟩ := h
  have h1 := hT.1
  unfold f_X7_here chO
  rw [b, c]
  by_cases k : p < en
  · rw [if_neg (nI_ge k (by omega)), show (10 : Int32) + nI p = nI (10 + p) from nI_add 10 p, if_neg (q_chk (by omega) (by omega)), nI_clamp (by omega), f p k, if_pos k]
    rfl
  · rw [if_pos (nI_le (by omega) (by omega)), if_neg k]
    rfl
/-- what a step left -/
def MR (tp : Nat → Nat) (en act op : Nat) (C : List Int32) (r : PR) (M' : aSt) : Prop := (r.1 = true → MS tp en act r.2.1 op (C ++ r.2.2.map sgM) M') ∧ (r.1 = false → MW r.2.1 M')
def RMc (tp : Nat → Nat) (en act op : Nat) (f : Nat → PR) (F : aSt → Option (Unit × aSt)) : Prop := ∀ (p : Nat) (C : List Int32) (M : aSt), p ≤ en → C.length ≤ p → MS tp en act p op C M → ∃ M', F M = some ((), M') ∧ FM act M M' ∧ MR tp en act op C (f p) M'
def RMw (act : Nat) (F : aSt → Option (Unit × aSt)) : Prop := ∀ (q : Nat) (M : aSt), MW q M → ∃ M', F M = some ((), M') ∧ FM act M M' ∧ MW q M'
theorem q_mustW (act : Nat) (c : Int32) : RMw act (f_X7_must c) := by
  intro q M h
  unfold f_X7_must f_X7_must_16 f_X7_must_21 f_X7_must_41
  rw [if_neg (show ¬ M.1 0 7 = 0 by rw [h.2]; decide), if_pos (show (1 : Int32) = 0 ∨ (1 : Int32) = 1 from Or.inr rfl), aLt_eq, if_neg (show ¬ (aUi M 0 7 1).1 0 7 = 0 by rw [aUi_at]; decide), aLt_eq, aUi_ne (show (5 : Nat) ≠ 7 by omega), h.1, Int32.add_zero]
  exact ⟨_, rfl, (FM.up M _ (by omega)).tr (FM.up _ _ (by omega)), MW_5 (MW_7 h.1)⟩
theorem q_must {tp : Nat → Nat} {en act p op c : Nat} {C : List Int32} {M : aSt} (hT : TP tp en) (hp : p ≤ en) (hc : c < 128) (h : MS tp en act p op C M) : ∃ M', f_X7_must (nI c) M = some ((), M') ∧ FM act M M' ∧ (chO tp en p = some c → MS tp en act (p + 1) op C M') ∧ (¬ chO tp en p = some c → MW p M') := by
  have h7 := h.2.2.2.1
  unfold f_X7_must f_X7_must_16 f_X7_must_21 f_X7_must_41
  rw [if_pos h7, q_here hT hp h, aB_some]
  by_cases k : chO tp en p = some c
  · rw [if_pos ((ch_I hT hc).mpr k), if_pos (show (0 : Int32) = 0 ∨ (0 : Int32) = 1 from Or.inl rfl), aLt_eq, if_pos (show (aUi M 0 7 0).1 0 7 = 0 from aUi_at), aLt_eq, aUi_ne (show (5 : Nat) ≠ 7 by omega), h.2.1, nI_1]
    exact ⟨_, rfl, (FM.up M _ (by omega)).tr (FM.up _ _ (by omega)), fun _ => MS_5 (MS_7 h), fun q => absurd k q⟩
  · rw [if_neg (fun e => k ((ch_I hT hc).mp e)), if_pos (show (1 : Int32) = 0 ∨ (1 : Int32) = 1 from Or.inr rfl), aLt_eq, if_neg (show ¬ (aUi M 0 7 1).1 0 7 = 0 by rw [aUi_at]; decide), aLt_eq, aUi_ne (show (5 : Nat) ≠ 7 by omega), h.2.1, Int32.add_zero]
    exact ⟨_, rfl, (FM.up M _ (by omega)).tr (FM.up _ _ (by omega)), fun q => absurd q k, fun _ => MW_5 (MW_7 h.2.1)⟩
theorem q_spW {act i : Nat} (hi : i < 13) : ∀ (e k n q : Nat) (M : aSt), k + e = a_strL.getD i 0 → e < n → MW q M → ∃ M', f_X7_spells_2 n i (nI k) M = some ((), M') ∧ FM act M M' ∧ MW q M' := by
  have hl := len_10 ⟨i, hi⟩
  simp only at hl
  intro e
  induction e with
  | zero =>
    intro k n q M h1 h2 h
    obtain ⟨n, rfl⟩ : ∃ m, n = m + 1 := ⟨n - 1, by omega⟩
    rw [f_X7_spells_2, len_J hi, aB_some, if_pos (nI_le (by omega) (by omega))]
    exact ⟨M, rfl, FM.rf M, h⟩
  | succ e ih =>
    intro k n q M h1 h2 h
    obtain ⟨n, rfl⟩ : ∃ m, n = m + 1 := ⟨n - 1, by omega⟩
    obtain ⟨M1, a1, a2, a3⟩ := q_mustW act ((a_strB.getD i []).getD k 0) q M h
    rw [f_X7_spells_2, len_J hi, aB_some, if_neg (nI_ge (by omega) (by omega)), char_J hi (by omega), aB_some, a1, aB_some, aLt_eq, nI_1]
    obtain ⟨M', g1, g2, g3⟩ := ih (k + 1) n q M1 (by omega) (by omega) a3
    exact ⟨M', g1, a2.tr g2, g3⟩
theorem q_sp2 {tp : Nat → Nat} {en act i op : Nat} {C : List Int32} (hT : TP tp en) (hi : i < 13) : ∀ (r : List Nat) (k n p : Nat) (M : aSt), k + r.length = a_strL.getD i 0 → (∀ j (h : j < r.length), (a_strB.getD i []).getD (k + j) 0 = nI r[j] ∧ r[j] < 128) → r.length < n → p ≤ en → MS tp en act p op C M → ∃ M', f_X7_spells_2 n i (nI k) M = some ((), M') ∧ FM act M M' ∧ ((pAll tp en r p).1 = true → MS tp en act (pAll tp en r p).2 op C M') ∧ ((pAll tp en r p).1 = false → MW (pAll tp en r p).2 M')
  | [], k, n, p, M, h1, h2, h3, hp, h => by
    obtain ⟨n, rfl⟩ : ∃ m, n = m + 1 := ⟨n - 1, by omega⟩
    have h1 : k = a_strL.getD i 0 := h1
    rw [f_X7_spells_2, len_J hi, aB_some, h1, if_pos (Int32.le_refl _)]
    exact ⟨M, rfl, FM.rf M, fun _ => h, fun e => by cases e⟩
  | c :: r, k, n, p, M, h1, h2, h3, hp, h => by
    obtain ⟨n, rfl⟩ : ∃ m, n = m + 1 := ⟨n - 1, by omega⟩
    have h1 : k + (r.length + 1) = a_strL.getD i 0 := h1
    have h3 : r.length + 1 < n + 1 := h3
    have hl := len_10 ⟨i, hi⟩
    simp only at hl
    obtain ⟨hc1, hc2⟩ := h2 0 (by show 0 < r.length + 1; omega)
    have hc1 : (a_strB.getD i []).getD k 0 = nI c := hc1
    have hc2 : c < 128 := hc2
    obtain ⟨M1, a1, a2, a3, a4⟩ := q_must (c := c) hT hp hc2 h
    rw [f_X7_spells_2, len_J hi, aB_some, if_neg (nI_ge (by omega) (by omega)), char_J hi (by omega), aB_some, hc1, a1, aB_some, aLt_eq, nI_1]
    unfold pAll
    by_cases kk : chO tp en p = some c
    · rw [if_pos kk]
      obtain ⟨M', g1, g2, g3, g4⟩ := q_sp2 hT hi r (k + 1) n (p + 1) M1 (by omega) (fun j hj => by
        have := h2 (j + 1) (by show j + 1 < r.length + 1; omega)
        rw [show k + 1 + j = k + (j + 1) by omega]
        exact this) (by omega) (chO_lt kk).1 (a3 kk)
      exact ⟨M', g1, a2.tr g2, g3, g4⟩
    · rw [if_neg kk]
      obtain ⟨M', g1, g2, g3⟩ := q_spW (act := act) hi r.length (k + 1) n p M1 (by omega) (by omega) (a4 kk)
      exact ⟨M', g1, a2.tr g2, (fun e => by cases e), fun _ => g3⟩
theorem q_sp {tp : Nat → Nat} {en act i op p : Nat} {C : List Int32} {l : List Nat} {M : aSt} (hT : TP tp en) (hs : stJ i l) (hp : p ≤ en) (h : MS tp en act p op C M) : ∃ M', f_X7_spells i M = some ((), M') ∧ FM act M M' ∧ ((pAll tp en l p).1 = true → MS tp en act (pAll tp en l p).2 op C M') ∧ ((pAll tp en l p).1 = false → MW (pAll tp en l p).2 M') := by
  have hl := len_10 ⟨i, hs.1⟩
  simp only at hl
  have h9 := hs.2.1
  exact q_sp2 hT hs.1 l 0 aF p M (by rw [Nat.zero_add]; exact hs.2.1) (fun j hj => by rw [Nat.zero_add]; exact hs.2.2 j hj) (by have := aF_big; omega) hp h
theorem dG_t : ∀ t : Fin 128, pIx dG 0 t.1 = if 48 ≤ t.1 ∧ t.1 ≤ 57 then some (t.1 - 48) else none := by decide +kernel
theorem dG_one {tp : Nat → Nat} {en p : Nat} (hT : TP tp en) (S : aSt) : (pOne tp en dG p = none ∧ f_X7_in (o1 (chO tp en p)) 48 57 S = some (0, S)) ∨ ∃ t, chO tp en p = some t ∧ 48 ≤ t ∧ t ≤ 57 ∧ pOne tp en dG p = some (t - 48) ∧ f_X7_in (o1 (chO tp en p)) 48 57 S = some (1, S) := by
  unfold pOne
  cases hc : chO tp en p with
  | none => exact Or.inl ⟨rfl, rfl⟩
  | some t =>
    have ht : t < 128 := by
      obtain ⟨k1, k2⟩ := chO_lt hc
      rw [k2]; exact hT.2 p k1
    have hx : pIx dG 0 t = if 48 ≤ t ∧ t ≤ 57 then some (t - 48) else none := dG_t ⟨t, ht⟩
    rw [show (some t).bind (pIx dG 0) = pIx dG 0 t from rfl, hx, show o1 (some t) = nI t from rfl]
    by_cases k : 48 ≤ t ∧ t ≤ 57
    · rw [if_pos k]
      exact Or.inr ⟨t, rfl, k.1, k.2, rfl, q_in_in (m := 48) (n := 57) k.1 k.2 (by omega) S⟩
    · rw [if_neg k]
      refine Or.inl ⟨rfl, q_in_out (m := 48) (n := 57) ?_ S⟩
      by_cases k2 : t < 48
      · exact Or.inl (nI_lt k2 (by omega))
      · exact Or.inr (nI_lt (by omega) (by omega))
theorem fig_v {v t : Nat} (h1 : 48 ≤ t) : (10 : Int32) * nI v + nI t - (48 : Int32) = nI (10 * v + (t - 48)) := by
  rw [show (10 : Int32) = nI 10 from rfl, pk_mul, nI_add, show (48 : Int32) = nI 48 from rfl, pk_sub (by omega)]
  congr 1
  omega
theorem q_figW (act : Nat) : ∀ (q : Nat) (M : aSt), MW q M → ∃ v M', f_X7_figures M = some (v, M') ∧ FM act M M' ∧ MW q M' := by
  intro q M h
  obtain ⟨n, hn⟩ := aF_s 5 (by omega)
  unfold f_X7_figures f_X7_figures_22 f_X7_figures_27
  rw [if_neg (show ¬ M.1 0 7 = 0 by rw [h.2]; decide), if_pos (show (1 : Int32) = 0 ∨ (1 : Int32) = 1 from Or.inr rfl), aLt_eq, hn, f_X7_figures_34, if_neg (show ¬ (2 : Int32) ≤ 0 by decide), if_neg (show ¬ (aUi M 0 7 1).1 0 7 = 0 by rw [aUi_at]; decide)]
  exact ⟨_, _, rfl, FM.up M _ (by omega), MW_7 h.1⟩
theorem q_fig {tp : Nat → Nat} {en act p op : Nat} {C : List Int32} {M : aSt} (hT : TP tp en) (hp : p ≤ en) (h : MS tp en act p op C M) : ∃ v M', f_X7_figures M = some (v, M') ∧ FM act M M' ∧ (∀ n, (pNum tp en p).1 = some n → v = nI n ∧ MS tp en act (pNum tp en p).2 op C M') ∧ ((pNum tp en p).1 = none → MW (pNum tp en p).2 M') := by
  obtain ⟨n, hn⟩ := aF_s 5 (by omega)
  have h7 := h.2.2.2.1
  unfold f_X7_figures f_X7_figures_22 f_X7_figures_27
  rw [if_pos h7, q_here hT hp h, aB_some]
  rcases dG_one (p := p) hT M with ⟨k1, k2⟩ | ⟨t, t0, t1, t2, k1, k2⟩
  · rw [k2, aB_some, if_pos rfl, if_pos (show (1 : Int32) = 0 ∨ (1 : Int32) = 1 from Or.inr rfl), aLt_eq, hn, f_X7_figures_34, if_neg (show ¬ (2 : Int32) ≤ 0 by decide), if_neg (show ¬ (aUi M 0 7 1).1 0 7 = 0 by rw [aUi_at]; decide)]
    unfold pNum
    rw [k1]
    exact ⟨_, _, rfl, FM.up M _ (by omega), (fun n e => by cases e), fun _ => MW_7 h.2.1⟩
  · have hM1 : MS tp en act p op C (aUi M 0 7 0) := MS_7 h
    have hlt := (chO_lt t0).1
    have hk2 : ∀ S : aSt, f_X7_in (o1 (chO tp en p)) 48 57 S = some (1, S) := fun S => by rw [t0]; exact q_in_in (j := t) (m := 48) (n := 57) t1 t2 (by omega) S
    rw [k2, aB_some, if_neg (show ¬ (1 : Int32) = 0 by decide), if_pos (show (0 : Int32) = 0 ∨ (0 : Int32) = 1 from Or.inl rfl), aLt_eq, hn, f_X7_figures_34, if_neg (show ¬ (2 : Int32) ≤ 0 by decide), if_pos hM1.2.2.2.1, q_here hT hp hM1, aB_some, hk2, aB_some, if_neg (show ¬ (1 : Int32) = 0 by decide), if_pos rfl]
    unfold f_X7_figures_68
    rw [q_here hT hp hM1, aB_some, aLt_eq, aLt_eq, aLt_eq, hM1.2.1, nI_1, t0, show o1 (some t) = nI t from rfl, show (0 : Int32) = nI 0 from rfl, fig_v t1, nI_1]
    dsimp only
    rw [show 10 * 0 + (t - 48) = t - 48 by omega]
    have hM2 : MS tp en act (p + 1) op C (aUi (aUi M 0 7 (nI 0)) 0 5 (nI (p + 1))) := MS_5 (MS_7 h)
    have f2 : FM act M (aUi (aUi M 0 7 (nI 0)) 0 5 (nI (p + 1))) := (FM.up M _ (by omega)).tr (FM.up _ _ (by omega))
    generalize aUi (aUi M 0 7 (nI 0)) 0 5 (nI (p + 1)) = M2 at hM2 f2 ⊢
    rw [f_X7_figures_34, if_neg (show ¬ (2 : Int32) ≤ nI (0 + 1) by decide), if_pos hM2.2.2.2.1, q_here hT hlt hM2, aB_some]
    unfold pNum
    rw [k1]
    dsimp only
    rcases dG_one (p := p + 1) hT M2 with ⟨j1, j2⟩ | ⟨u, u0, u1, u2, j1, j2⟩
    · rw [j2, aB_some, if_pos rfl, j1]
      by_cases d0 : t - 48 = 0
      · rw [if_pos d0, d0]
        exact ⟨_, _, rfl, f2, (fun n e => by cases e; exact ⟨rfl, hM2⟩), fun e => by cases e⟩
      · rw [if_neg d0]
        exact ⟨_, _, rfl, f2, (fun n e => by cases e; exact ⟨rfl, hM2⟩), fun e => by cases e⟩
    · rw [j2, aB_some, if_neg (show ¬ (1 : Int32) = 0 by decide), if_neg (show ¬ nI (0 + 1) = 0 by decide), j1]
      by_cases d0 : t - 48 = 0
      · rw [if_pos (show nI (t - 48) ≤ 0 by rw [d0]; exact Int32.le_refl _), if_pos d0, d0]
        exact ⟨_, _, rfl, f2, (fun n e => by cases e; exact ⟨rfl, hM2⟩), fun e => by cases e⟩
      · have hlt2 := (chO_lt u0).1
        rw [if_neg (nI_nle (by omega) (by omega)), if_neg d0]
        unfold f_X7_figures_68
        rw [q_here hT hlt hM2, aB_some, aLt_eq, aLt_eq, aLt_eq, hM2.2.1, nI_1, u0, show o1 (some u) = nI u from rfl, fig_v u1, nI_1]
        dsimp only
        rw [f_X7_figures_34, if_pos (show (2 : Int32) ≤ nI (0 + 1 + 1) by decide)]
        exact ⟨_, _, rfl, f2.tr (FM.up _ _ (by omega)), (fun n e => by cases e; exact ⟨rfl, MS_5 hM2⟩), fun e => by cases e⟩
theorem q_am2 {tp : Nat → Nat} {en act p op i : Nat} {C : List Int32} {M : aSt} (hT : TP tp en) (hp : p ≤ en) (hi : i < 13) (h : MS tp en act p op C M) : ∀ (r : List Nat) (k n : Nat), k + r.length = a_strL.getD i 0 → (∀ j (h : j < r.length), (a_strB.getD i []).getD (k + j) 0 = nI r[j] ∧ r[j] < 128) → r.length < n → ∃ M', f_X7_among_2 n i (nI k) M = some (o1 ((chO tp en p).bind (pIx r k)), M') ∧ FM act M M' ∧ MS tp en act (nxO ((chO tp en p).bind (pIx r k)) p) op C M'
  | [], k, n, h1, h2, h3 => by
    obtain ⟨n, rfl⟩ : ∃ m, n = m + 1 := ⟨n - 1, by omega⟩
    have h1 : k = a_strL.getD i 0 := h1
    rw [f_X7_among_2, len_J hi, aB_some, h1, if_pos (Int32.le_refl _)]
    have hb : (chO tp en p).bind (pIx [] (a_strL.getD i 0)) = none := by cases chO tp en p <;> rfl
    rw [hb]
    exact ⟨M, rfl, FM.rf M, h⟩
  | c :: r, k, n, h1, h2, h3 => by
    obtain ⟨n, rfl⟩ : ∃ m, n = m + 1 := ⟨n - 1, by omega⟩
    have h1 : k + (r.length + 1) = a_strL.getD i 0 := h1
    have h3 : r.length + 1 < n + 1 := h3
    have hl := len_10 ⟨i, hi⟩
    simp only at hl
    obtain ⟨hc1, hc2⟩ := h2 0 (by show 0 < r.length + 1; omega)
    have hc1 : (a_strB.getD i []).getD k 0 = nI c := hc1
    have hc2 : c < 128 := hc2
    rw [f_X7_among_2, len_J hi, aB_some, if_neg (nI_ge (by omega) (by omega)), q_here hT hp h, aB_some, char_J hi (by omega), aB_some, hc1]
    by_cases kk : chO tp en p = some c
    · rw [if_pos ((ch_I hT hc2).mpr kk), aLt_eq, h.2.1, nI_1, kk]
      have hb : (some c).bind (pIx (c :: r) k) = some k := by
        show (if c = c then some k else pIx r (k + 1) c) = some k
        rw [if_pos rfl]
      rw [hb]
      exact ⟨_, rfl, FM.up M _ (by omega), MS_5 h⟩
    · rw [if_neg (fun e => kk ((ch_I hT hc2).mp e)), aLt_eq, nI_1]
      have hb : (chO tp en p).bind (pIx (c :: r) k) = (chO tp en p).bind (pIx r (k + 1)) := by
        cases hc : chO tp en p with
        | none => rfl
        | some t =>
          show (if t = c then some k else pIx r (k + 1) t) = pIx r (k + 1) t
          rw [if_neg (fun e => kk (by rw [hc, e]))]
      rw [hb]
      exact q_am2 hT hp hi h r (k + 1) n (by omega) (fun j hj => by
        have := h2 (j + 1) (by show j + 1 < r.length + 1; omega)
        rw [show k + 1 + j = k + (j + 1) by omega]
        exact this) (by omega)
theorem q_am {tp : Nat → Nat} {en act p op i : Nat} {C : List Int32} {l : List Nat} {M : aSt} (hT : TP tp en) (hp : p ≤ en) (hs : stJ i l) (h : MS tp en act p op C M) : ∃ M', f_X7_among i M = some (o1 (pOne tp en l p), M') ∧ FM act M M' ∧ MS tp en act (nxO (pOne tp en l p) p) op C M' := by
  have hl := len_10 ⟨i, hs.1⟩
  simp only at hl
  have h9 := hs.2.1
  exact q_am2 hT hp hs.1 h l 0 aF (by rw [Nat.zero_add]; exact hs.2.1) (fun j hj => by rw [Nat.zero_add]; exact hs.2.2 j hj) (by have := aF_big; omega)
theorem q_emW (act : Nat) (c : Int32) : RMw act (f_X7_emits c) := by
  intro q M h
  unfold f_X7_emits
  rw [if_neg (show ¬ M.1 0 7 = 0 by rw [h.2]; decide)]
  exact ⟨M, rfl, FM.rf M, h⟩
theorem q_em {tp : Nat → Nat} {en act p op : Nat} {C : List Int32} {M : aSt} (c : Int32) (hen : en ≤ 100) (ha : act < 5) (hC : C.length < 140) (h : MS tp en act p op C M) : ∃ M', f_X7_emits c M = some ((), M') ∧ FM act M M' ∧ MS tp en act p op (C ++ [c]) M' := by
  obtain ⟨a, b, cc, d, e, f, g, i⟩ := h
  have e1 : (274 : Int32) + nI act = nI (274 + act) := nI_add 274 act
  have e2 : (279 : Int32) + (140 : Int32) * nI act = nI (279 + 140 * act) := by
    rw [show (140 : Int32) = nI 140 from rfl, pk_mul, show (279 : Int32) = nI 279 from rfl, nI_add]
  unfold f_X7_emits
  rw [if_pos d, a, e1, if_neg (q_chk (by omega) (by omega)), nI_clamp (by omega), g, e2, nI_add, if_neg (q_chk (by omega) (by omega)), aLt_eq, nI_clamp (by omega), aUi_row (show 0 ≠ 1 by omega), a, e1, if_neg (q_chk (by omega) (by omega)), if_neg (q_chk (by omega) (by omega)), aLt_eq, nI_clamp (by omega), aUi_ne (by omega), g, nI_1]
  refine ⟨_, rfl, ⟨fun k _ h2 => by rw [aUi_row h2, aUi_row h2], rfl, fun j _ _ _ => by rw [aUi_row (by omega), aUi_row (by omega)], fun q h1 h2 => by rw [aUi_ne (by omega), aUi_ne (by omega)]⟩, ?_, ?_, ?_, ?_, ?_, fun j hj => ?_, ?_, fun j hj => ?_⟩
  · rw [aUi_row (by omega), aUi_row (by omega)]; exact a
  · rw [aUi_row (by omega), aUi_row (by omega)]; exact b
  · rw [aUi_row (by omega), aUi_row (by omega)]; exact cc
  · rw [aUi_row (by omega), aUi_row (by omega)]; exact d
  · rw [aUi_row (by omega), aUi_row (by omega)]; exact e
  · rw [aUi_ne (by omega), aUi_ne (by omega)]; exact f j hj
  · rw [aUi_at, List.length_append]; rfl
  · rw [aUi_ne (by omega)]
    rw [List.length_append] at hj
    have hj : j < C.length + 1 := hj
    by_cases k : j = C.length
    · subst k
      rw [aUi_at, List.getElem_append_right (Nat.le_refl _)]
      simp
    · rw [aUi_ne (by omega), List.getElem_append_left (by omega)]
      exact i j (by omega)

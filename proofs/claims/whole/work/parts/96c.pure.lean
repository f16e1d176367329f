/-! PURE PART: the reference reads a WOOD -/
def pM (tp : Nat → Nat) (en w : Nat) (l : List Nat) (p : Nat) : CR := if (pAll tp en (l ++ [32]) p).1 = true then pC2 tp en w (pAll tp en (l ++ [32]) p).2 else (false, (pAll tp en (l ++ [32]) p).2, 0, 0, [])
theorem pCl_M {tp : Nat → Nat} {en w p p' : Nat} {l : List Nat} (h : pWrd tp en p = pWo w (pAll tp en l p')) : pCl tp en p = pM tp en w l p' := by
  have e1 : ∀ q, pAll tp en [32] q = if chO tp en q = some 32 then (true, q + 1) else (false, q) := fun q => rfl
  unfold pCl pM
  rw [h, pAll_app, e1]
  unfold pWo
  cases hk : (pAll tp en l p').1 with
  | false =>
    rw [if_neg (show ¬ false = true by decide), if_neg (show ¬ false = true by decide), hk, if_neg (show ¬ false = true by decide)]
  | true =>
    rw [if_pos rfl, if_pos rfl]
    dsimp only
    by_cases c : chO tp en (pAll tp en l p').2 = some 32
    · rw [if_pos c, if_pos c, if_pos rfl]
    · rw [if_neg c, if_neg c, if_neg (show ¬ false = true by decide)]
def kdI (w : Nat) : Int32 := if w = 0 then (-10 : Int32) else if w = 1 then -200 else -400
theorem q_much {tp : Nat → Nat} {en act p i w : Nat} {l : List Nat} {C : List Int32} {M : aSt} (hT : TP tp en) (ha : act < 5) (hw : w < 3) (hs : stJ i (l ++ [32])) (hp : p ≤ en) (hC : C.length ≤ p) (h : MS tp en act p 0 C M) : ∃ M', f_X7_much (kdI w) i M = some ((), M') ∧ FM act M M' ∧ ((pM tp en w l p).1 = true → (pM tp en w l p).2.2.1 = w ∧ MS tp en act (pM tp en w l p).2.1 0 (C ++ clM (w, (pM tp en w l p).2.2.2)) M') ∧ ((pM tp en w l p).1 = false → MW (pM tp en w l p).2.1 M') := by
  have h100 := hT.1
  obtain ⟨p1, p2, p3⟩ := pAll_in (tp := tp) (en := en) (l ++ [32]) p hp
  obtain ⟨M1, a1, a2, a3, a4⟩ := q_sp hT hs hp h
  unfold f_X7_much pM
  rw [a1, aB_some]
  cases k1 : (pAll tp en (l ++ [32]) p).1 with
  | false =>
    obtain ⟨v, M2, b1, b2, b3⟩ := q_figW act _ M1 (a4 k1)
    obtain ⟨M3, c1, c2, c3⟩ := q_mustW act 32 _ M2 b3
    obtain ⟨M4, d1, d2, d3⟩ := q_EMW act _ M3 c3
    obtain ⟨M5, e1, e2, e3⟩ := q_emW act (kdI w - v) _ M4 d3
    rw [b1, aB_some, c1, aB_some, d1, aB_some, e1, aB_some, if_neg (show ¬ false = true by decide)]
    exact ⟨M5, rfl, (((a2.tr b2).tr c2).tr d2).tr e2, (fun q => by cases q), fun _ => e3⟩
  | true =>
    rw [if_pos rfl]
    obtain ⟨v, M2, b1, b2, b3, b4⟩ := q_fig hT p2 (a3 k1)
    obtain ⟨n1, n2, n3⟩ := pNum_in (tp := tp) p2
    rw [b1, aB_some]
    unfold pC2
    cases k2 : (pNum tp en (pAll tp en (l ++ [32]) p).2).1 with
    | none =>
      obtain ⟨M3, c1, c2, c3⟩ := q_mustW act 32 _ M2 (b4 k2)
      obtain ⟨M4, d1, d2, d3⟩ := q_EMW act _ M3 c3
      obtain ⟨M5, e1, e2, e3⟩ := q_emW act (kdI w - v) _ M4 d3
      rw [c1, aB_some, d1, aB_some, e1, aB_some]
      exact ⟨M5, rfl, (((a2.tr b2).tr c2).tr d2).tr e2, (fun q => by cases q), fun _ => e3⟩
    | some n =>
      obtain ⟨y1, y2⟩ := b3 n k2
      obtain ⟨m1, m2⟩ := n3 n k2
      dsimp only
      unfold pC3
      rw [if_neg (show ¬ w = 3 by omega), if_neg (show ¬ w = 4 by omega), y1]
      obtain ⟨M3, c1, c2, c3, c4⟩ := q_must (c := 32) hT n2 (by omega) y2
      have c1 : f_X7_must 32 M2 = some ((), M3) := c1
      rw [c1, aB_some]
      by_cases k3 : chO tp en (pNum tp en (pAll tp en (l ++ [32]) p).2).2 = some 32
      · have hlt := (chO_lt k3).1
        rw [if_pos k3]
        obtain ⟨M4, d1, d2, d3⟩ := q_EM hT ha _ C M3 hlt (by omega) (c3 k3)
        obtain ⟨g1, g2, g3, g4⟩ := Gd_E (tp := tp) (en := en) ((pNum tp en (pAll tp en (l ++ [32]) p).2).2 + 1) hlt
        rw [d1, aB_some]
        cases k4 : (pE tp en ((pNum tp en (pAll tp en (l ++ [32]) p).2).2 + 1)).1 with
        | false =>
          obtain ⟨M5, e1, e2, e3⟩ := q_emW act (kdI w - nI n) _ M4 (d3.2 k4)
          rw [e1, aB_some]
          exact ⟨M5, rfl, (((a2.tr b2).tr c2).tr d2).tr e2, (fun q => by cases q), fun _ => e3⟩
        | true =>
          obtain ⟨M5, e1, e2, e3⟩ := q_em (kdI w - nI n) h100 ha (show (C ++ (pE tp en ((pNum tp en (pAll tp en (l ++ [32]) p).2).2 + 1)).2.2.map sgM).length < 140 by rw [List.length_append, List.length_map]; omega) (d3.1 k4)
          rw [e1, aB_some]
          refine ⟨M5, rfl, (((a2.tr b2).tr c2).tr d2).tr e2, fun _ => ⟨rfl, ?_⟩, fun q => by cases q⟩
          rw [List.append_assoc] at e3
          exact e3
      · rw [if_neg k3]
        obtain ⟨M4, d1, d2, d3⟩ := q_EMW act _ M3 (c4 k3)
        obtain ⟨M5, e1, e2, e3⟩ := q_emW act (kdI w - nI n) _ M4 d3
        rw [d1, aB_some, e1, aB_some]
        exact ⟨M5, rfl, (((a2.tr b2).tr c2).tr d2).tr e2, (fun q => by cases q), fun _ => e3⟩
theorem q_tellsH {tp : Nat → Nat} {en act p i w wh : Nat} {l : List Nat} {C : List Int32} {M : aSt} (hT : TP tp en) (ha : act < 5) (hw : w = 3 ∨ w = 4) (hwh : wh < 900) (hs : stJ i (l ++ [32])) (hp : p ≤ en) (h : MS tp en act p 0 C M) : ∃ M1 M', f_X7_tellsHere (nI wh) i M = some ((), M') ∧ FM act M M1 ∧ ((pM tp en w l p).1 = true → (pM tp en w l p).2.2.1 = w ∧ MS tp en act (pM tp en w l p).2.1 0 C M1 ∧ M' = aUi M1 1 (wh + act) (nI (pM tp en w l p).2.2.2.1)) ∧ ((pM tp en w l p).1 = false → MW (pM tp en w l p).2.1 M' ∧ M' = M1) := by
  have h100 := hT.1
  obtain ⟨p1, p2, p3⟩ := pAll_in (tp := tp) (en := en) (l ++ [32]) p hp
  obtain ⟨M1, a1, a2, a3, a4⟩ := q_sp hT hs hp h
  unfold f_X7_tellsHere pM
  rw [a1, aB_some]
  cases k1 : (pAll tp en (l ++ [32]) p).1 with
  | false =>
    obtain ⟨v, M2, b1, b2, b3⟩ := q_figW act _ M1 (a4 k1)
    rw [b1, aB_some, if_neg (show ¬ M2.1 0 7 = 0 by rw [b3.2]; decide), if_neg (show ¬ false = true by decide)]
    exact ⟨M2, M2, rfl, a2.tr b2, (fun q => by cases q), fun _ => ⟨b3, rfl⟩⟩
  | true =>
    rw [if_pos rfl]
    obtain ⟨v, M2, b1, b2, b3, b4⟩ := q_fig hT p2 (a3 k1)
    rw [b1, aB_some]
    unfold pC2
    cases k2 : (pNum tp en (pAll tp en (l ++ [32]) p).2).1 with
    | none =>
      rw [if_neg (show ¬ M2.1 0 7 = 0 by rw [(b4 k2).2]; decide)]
      exact ⟨M2, M2, rfl, a2.tr b2, (fun q => by cases q), fun _ => ⟨b4 k2, rfl⟩⟩
    | some n =>
      obtain ⟨y1, y2⟩ := b3 n k2
      rw [if_pos y2.2.2.2.1, y2.1, nI_add, if_neg (q_chk (by omega) (by omega)), aLt_eq, nI_clamp (by omega), y1]
      dsimp only
      unfold pC3
      rcases hw with rfl | rfl
      · rw [if_pos rfl]
        exact ⟨M2, _, rfl, a2.tr b2, (fun _ => ⟨rfl, y2, rfl⟩), fun q => by cases q⟩
      · rw [if_neg (by omega), if_pos rfl]
        exact ⟨M2, _, rfl, a2.tr b2, (fun _ => ⟨rfl, y2, rfl⟩), fun q => by cases q⟩
def FC (act : Nat) (M M' : aSt) : Prop := (∀ k, k ≠ 0 → k ≠ 1 → M'.1 k = M.1 k) ∧ M'.2 = M.2 ∧ (∀ j, j ≠ 5 → j ≠ 7 → j ≠ 8 → M'.1 0 j = M.1 0 j) ∧ ∀ q, q ≠ 200 + act → q ≠ 205 + act → q ≠ 274 + act → (q < 279 + 140 * act ∨ 419 + 140 * act ≤ q) → M'.1 1 q = M.1 1 q
theorem FC.tr {act : Nat} {A B C : aSt} (h : FC act A B) (g : FC act B C) : FC act A C := ⟨fun k h1 h2 => (g.1 k h1 h2).trans (h.1 k h1 h2), g.2.1.trans h.2.1, fun j h1 h2 h3 => (g.2.2.1 j h1 h2 h3).trans (h.2.2.1 j h1 h2 h3), fun q h1 h2 h3 h4 => (g.2.2.2 q h1 h2 h3 h4).trans (h.2.2.2 q h1 h2 h3 h4)⟩
theorem FC.fm {act : Nat} {A B : aSt} (h : FM act A B) : FC act A B := ⟨h.1, h.2.1, h.2.2.1, fun q _ _ h3 h4 => h.2.2.2 q h3 h4⟩
theorem FC.up {act : Nat} (A : aSt) {q : Nat} (v : Int32) (h : q = 200 + act ∨ q = 205 + act) : FC act A (aUi A 1 q v) := ⟨fun k _ h2 => aUi_row h2, rfl, fun j _ _ _ => by rw [aUi_row (by omega)], fun r h1 h2 _ _ => aUi_ne (by omega)⟩
def MC (tp : Nat → Nat) (en act p : Nat) (W : PW) (M : aSt) : Prop := MS tp en act p 0 (W.2.2.flatMap clM) M ∧ M.1 1 (200 + act) = nI W.1 ∧ M.1 1 (205 + act) = nI W.2.1
theorem MS_1 {tp : Nat → Nat} {en act p op q : Nat} {C : List Int32} {M : aSt} {v : Int32} (hen : en ≤ 100) (ha : act < 5) (hq : q = 200 + act ∨ q = 205 + act) (h : MS tp en act p op C M) : MS tp en act p op C (aUi M 1 q v) := by
  obtain ⟨a, b, c, d, e, f, g, i⟩ := h
  exact ⟨by rw [aUi_row (by omega)]; exact a, by rw [aUi_row (by omega)]; exact b, by rw [aUi_row (by omega)]; exact c, by rw [aUi_row (by omega)]; exact d, by rw [aUi_row (by omega)]; exact e, fun j hj => by rw [aUi_ne (by omega)]; exact f j hj, by rw [aUi_ne (by omega)]; exact g, fun j hj => by rw [aUi_ne (by omega)]; exact i j hj⟩
theorem q_clM {tp : Nat → Nat} {en act p : Nat} {W : PW} {M : aSt} (hT : TP tp en) (ha : act < 5) (hp : p ≤ en) (h : MC tp en act p W M) (hW : WI p W) : ∃ M', f_X7_clauseHere M = some ((), M') ∧ FC act M M' ∧ ((pCl tp en p).1 = true → MC tp en act (pCl tp en p).2.1 (adR W (pCl tp en p)) M') ∧ ((pCl tp en p).1 = false → MW (pCl tp en p).2.1 M') := by
  have h100 := hT.1
  have hfl : (W.2.2.flatMap clM).length ≤ p := by
    rw [clM_len]
    exact hW.2.2.1
  obtain ⟨hS, h200, h205⟩ := h
  have oI := fun (c : Nat) (hc : c < 128) => ch_I (p := p) (c := c) hT hc
  have kM : ∀ (p' i w : Nat) (l : List Nat) (M0 : aSt), p ≤ p' → p' ≤ en → w < 3 → stJ i (l ++ [32]) → pWrd tp en p = pWo w (pAll tp en l p') → FM act M M0 → MS tp en act p' 0 (W.2.2.flatMap clM) M0 → ∃ M', aB (f_X7_much (kdI w) i M0) (fun _ S9 => some ((), S9)) = some ((), M') ∧ FC act M M' ∧ ((pCl tp en p).1 = true → MC tp en act (pCl tp en p).2.1 (adR W (pCl tp en p)) M') ∧ ((pCl tp en p).1 = false → MW (pCl tp en p).2.1 M') := fun p' i w l M0 hpp hp' hw hs hwd hf h0 => by
    obtain ⟨M1, a1, a2, a3, a4⟩ := q_much hT ha hw hs hp' (by omega) h0
    rw [a1, aB_some, pCl_M hwd]
    refine ⟨M1, rfl, FC.fm (hf.tr a2), fun k => ?_, a4⟩
    obtain ⟨b1, b2⟩ := a3 k
    unfold adR adC
    rw [b1, if_neg (by omega), if_neg (by omega)]
    refine ⟨?_, ?_, ?_⟩
    · show MS tp en act _ 0 ((W.2.2 ++ [(w, (pM tp en w l p').2.2.2.1, (pM tp en w l p').2.2.2.2)]).flatMap clM) M1
      rw [List.flatMap_append, List.flatMap_cons, List.flatMap_nil, List.append_nil]
      exact b2
    · rw [(hf.tr a2).2.2.2 _ (by omega) (by omega)]; exact h200
    · rw [(hf.tr a2).2.2.2 _ (by omega) (by omega)]; exact h205
  have kT3 : ∀ (p' i : Nat) (l : List Nat) (M0 : aSt), p ≤ p' → p' ≤ en → stJ i (l ++ [32]) → pWrd tp en p = pWo 3 (pAll tp en l p') → FM act M M0 → MS tp en act p' 0 (W.2.2.flatMap clM) M0 → ∃ M', aB (f_X7_tellsHere (nI 200) i M0) (fun _ S9 => some ((), S9)) = some ((), M') ∧ FC act M M' ∧ ((pCl tp en p).1 = true → MC tp en act (pCl tp en p).2.1 (adR W (pCl tp en p)) M') ∧ ((pCl tp en p).1 = false → MW (pCl tp en p).2.1 M') := fun p' i l M0 hpp hp' hs hwd hf h0 => by
    obtain ⟨M1, M2, a1, a2, a3, a4⟩ := q_tellsH (w := 3) (wh := 200) hT ha (Or.inl rfl) (by omega) hs hp' h0
    rw [a1, aB_some, pCl_M hwd]
    cases k : (pM tp en 3 l p').1 with
    | true =>
      obtain ⟨b1, b2, b3⟩ := a3 k
      subst b3
      refine ⟨_, rfl, (FC.fm (hf.tr a2)).tr (FC.up M1 _ (Or.inl rfl)), fun _ => ?_, fun q => by cases q⟩
      unfold adR adC
      rw [b1, if_pos rfl]
      exact ⟨MS_1 h100 ha (Or.inl rfl) b2, aUi_at, by rw [aUi_ne (by omega), (hf.tr a2).2.2.2 _ (by omega) (by omega)]; exact h205⟩
    | false =>
      obtain ⟨b1, b2⟩ := a4 k
      refine ⟨M2, rfl, by rw [b2]; exact FC.fm (hf.tr a2), (fun q => by cases q), fun _ => b1⟩
  have kT4 : ∀ (p' i : Nat) (l : List Nat) (M0 : aSt), p ≤ p' → p' ≤ en → stJ i (l ++ [32]) → pWrd tp en p = pWo 4 (pAll tp en l p') → FM act M M0 → MS tp en act p' 0 (W.2.2.flatMap clM) M0 → ∃ M', aB (f_X7_tellsHere (nI 205) i M0) (fun _ S9 => some ((), S9)) = some ((), M') ∧ FC act M M' ∧ ((pCl tp en p).1 = true → MC tp en act (pCl tp en p).2.1 (adR W (pCl tp en p)) M') ∧ ((pCl tp en p).1 = false → MW (pCl tp en p).2.1 M') := fun p' i l M0 hpp hp' hs hwd hf h0 => by
    obtain ⟨M1, M2, a1, a2, a3, a4⟩ := q_tellsH (w := 4) (wh := 205) hT ha (Or.inr rfl) (by omega) hs hp' h0
    rw [a1, aB_some, pCl_M hwd]
    cases k : (pM tp en 4 l p').1 with
    | true =>
      obtain ⟨b1, b2, b3⟩ := a3 k
      subst b3
      refine ⟨_, rfl, (FC.fm (hf.tr a2)).tr (FC.up M1 _ (Or.inr rfl)), fun _ => ?_, fun q => by cases q⟩
      unfold adR adC
      rw [b1, if_neg (by omega), if_pos rfl]
      exact ⟨MS_1 h100 ha (Or.inr rfl) b2, by rw [aUi_ne (by omega), (hf.tr a2).2.2.2 _ (by omega) (by omega)]; exact h200, aUi_at⟩
    | false =>
      obtain ⟨b1, b2⟩ := a4 k
      refine ⟨M2, rfl, by rw [b2]; exact FC.fm (hf.tr a2), (fun q => by cases q), fun _ => b1⟩
  unfold f_X7_clauseHere
  rw [q_here hT hp hS, aB_some]
  by_cases h1 : chO tp en p = some 104
  · rw [if_pos (show o1 (chO tp en p) = (104 : Int32) from (oI 104 (by omega)).mpr h1)]
    exact kM p 8 0 sHold M (Nat.le_refl _) hp (by omega) (stJ_in (by simp)) (by unfold pWrd; rw [if_pos h1]) (FM.rf M) hS
  · rw [if_neg (show ¬ o1 (chO tp en p) = (104 : Int32) from fun e => h1 ((oI 104 (by omega)).mp e))]
    by_cases h2 : chO tp en p = some 114
    · rw [if_pos (show o1 (chO tp en p) = (114 : Int32) from (oI 114 (by omega)).mpr h2)]
      exact kT4 p 12 sRope M (Nat.le_refl _) hp (stJ_in (by simp)) (by unfold pWrd; rw [if_neg h1, if_pos h2]) (FM.rf M) hS
    · rw [if_neg (show ¬ o1 (chO tp en p) = (114 : Int32) from fun e => h2 ((oI 114 (by omega)).mp e))]
      by_cases h3 : chO tp en p = some 115
      · rw [if_pos (show o1 (chO tp en p) = (115 : Int32) from (oI 115 (by omega)).mpr h3)]
        exact kM p 9 1 sSplit M (Nat.le_refl _) hp (by omega) (stJ_in (by simp)) (by unfold pWrd; rw [if_neg h1, if_neg h2, if_pos h3]) (FM.rf M) hS
      · rw [if_neg (show ¬ o1 (chO tp en p) = (115 : Int32) from fun e => h3 ((oI 115 (by omega)).mp e))]
        by_cases h4 : chO tp en p = some 119
        · have hl := (chO_lt h4).1
          rw [if_pos (show o1 (chO tp en p) = (119 : Int32) from (oI 119 (by omega)).mpr h4)]
          obtain ⟨M0, a1, a2, a3, a4⟩ := q_must (c := 119) hT hp (by omega) hS
          have a1 : f_X7_must 119 M = some ((), M0) := a1
          have a5 := a3 h4
          rw [a1, aB_some, q_here hT hl a5, aB_some]
          by_cases h5 : chO tp en (p + 1) = some 105
          · rw [if_pos (show o1 (chO tp en (p + 1)) = (105 : Int32) from (ch_I (c := 105) hT (by omega)).mpr h5)]
            exact kM (p + 1) 10 2 sInd M0 (by omega) hl (by omega) (stJ_in (by simp)) (by unfold pWrd; rw [if_neg h1, if_neg h2, if_neg h3, if_pos h4, if_pos h5]) a2 a5
          · rw [if_neg (show ¬ o1 (chO tp en (p + 1)) = (105 : Int32) from fun e => h5 ((ch_I (c := 105) hT (by omega)).mp e))]
            exact kT3 (p + 1) 11 sEdge M0 (by omega) hl (stJ_in (by simp)) (by unfold pWrd; rw [if_neg h1, if_neg h2, if_neg h3, if_pos h4, if_neg h5]) a2 a5
        · rw [if_neg (show ¬ o1 (chO tp en p) = (119 : Int32) from fun e => h4 ((oI 119 (by omega)).mp e)), aLt_eq]
          have e : pWrd tp en p = (none, p) := by unfold pWrd; rw [if_neg h1, if_neg h2, if_neg h3, if_neg h4]
          have e2 : pCl tp en p = (false, p, 0, 0, []) := by unfold pCl; rw [e]
          rw [e2]
          exact ⟨_, rfl, FC.fm (FM.up M _ (by omega)), (fun q => by cases q), fun _ => MW_7 hS.2.1⟩
/-- what reading a WOOD leaves -/
def WD (tp : Nat → Nat) (en act : Nat) (M : aSt) (r : Bool × Nat × PW) (a : Int32) (M' : aSt) : Prop := (r.1 = true → a = nI act ∧ ∃ M1, FC act M M1 ∧ MC tp en act r.2.1 r.2.2 M1 ∧ M' = aUi (aUi M1 1 1 (M1.1 1 1 + 1)) 1 4 (nI act)) ∧ (r.1 = false → a = -10 - nI r.2.1 ∧ FC act M M')
theorem q_wdM {tp : Nat → Nat} {en act : Nat} (hT : TP tp en) (ha : act < 5) : ∀ (r l n p : Nat) (W : PW) (M : aSt), l + r = 10 → r < n → p ≤ en → MC tp en act p W M → WI p W → W.2.2.length + r + 1 ≤ 10 → ∃ a M', aB (f_X7_clauseHere M) (fun _ S => f_X7_wood_103 n (nI l) S) = some (a, M') ∧ WD tp en act M (pRs tp en r p W) a M' := by
  have h100 := hT.1
  have w145 : ∀ (q : Nat) (W : PW) (M : aSt), q ≤ en → MC tp en act q W M → f_X7_wood_145 M = if q = en then some (nI act, aUi (aUi M 1 1 (M.1 1 1 + 1)) 1 4 (nI act)) else some (-10 - nI q, M) := fun q W M hq h => by
    obtain ⟨hS, -, -⟩ := h
    unfold f_X7_wood_145 f_X7_wood_163
    simp only [aLt_eq]
    rw [if_pos hS.2.2.2.1, hS.2.1, hS.2.2.1, aUi_row (show 0 ≠ 1 by omega), aUi_row (show 0 ≠ 1 by omega), hS.1]
    by_cases e : q = en
    · rw [if_pos (congrArg nI e), if_pos e]
    · rw [if_neg (fun k => e ((nI_eq (by omega) (by omega)).mp k)), if_neg e]
  have wbad : ∀ (q n : Nat) (l : Int32) (M : aSt), MW q M → f_X7_wood_103 (n + 1) l M = some (-10 - nI q, M) := fun q n l M h => by
    rw [f_X7_wood_103, if_neg (show ¬ M.1 0 7 = 0 by rw [h.2]; decide)]
    unfold f_X7_wood_145 f_X7_wood_163
    rw [if_neg (show ¬ M.1 0 7 = 0 by rw [h.2]; decide), h.1]
  intro r
  induction r with
  | zero =>
    intro l n p W M h1 h2 hp h hW hl
    obtain ⟨n, rfl⟩ : ∃ m, n = m + 1 := ⟨n - 1, by omega⟩
    obtain ⟨M1, a1, a2, a3, a4⟩ := q_clM hT ha hp h hW
    have hc := pCl_in (tp := tp) hp
    rw [a1, aB_some]
    unfold pRs
    cases k : (pCl tp en p).1 with
    | false =>
      rw [wbad _ n _ M1 (a4 k), if_neg (show ¬ false = true by decide)]
      exact ⟨_, _, rfl, (fun q => by cases q), fun _ => ⟨rfl, a2⟩⟩
    | true =>
      have hm := a3 k
      rw [if_pos rfl, f_X7_wood_103, if_pos hm.1.2.2.2.1, if_pos (show (10 : Int32) ≤ nI l from nI_le (a := 10) (by omega) (by omega)), w145 _ _ M1 hc.2.1 hm]
      by_cases e : (pCl tp en p).2.1 = en
      · rw [if_pos e, if_pos e]
        exact ⟨_, _, rfl, (fun _ => ⟨rfl, M1, a2, hm, rfl⟩), fun q => by cases q⟩
      · rw [if_neg e, if_neg e]
        exact ⟨_, _, rfl, (fun q => by cases q), fun _ => ⟨rfl, a2⟩⟩
  | succ r ih =>
    intro l n p W M h1 h2 hp h hW hl
    obtain ⟨n, rfl⟩ : ∃ m, n = m + 1 := ⟨n - 1, by omega⟩
    obtain ⟨M1, a1, a2, a3, a4⟩ := q_clM hT ha hp h hW
    have hc := pCl_in (tp := tp) hp
    rw [a1, aB_some]
    unfold pRs
    cases k : (pCl tp en p).1 with
    | false =>
      rw [wbad _ n _ M1 (a4 k), if_neg (show ¬ false = true by decide)]
      exact ⟨_, _, rfl, (fun q => by cases q), fun _ => ⟨rfl, a2⟩⟩
    | true =>
      have hm := a3 k
      obtain ⟨b1, b2⟩ := WI_ad hW hc k
      rw [if_pos rfl, f_X7_wood_103, if_pos hm.1.2.2.2.1, if_neg (show ¬ (10 : Int32) ≤ nI l from nI_ge (b := 10) (by omega) (by omega)), q_here hT hc.2.1 hm.1, aB_some]
      by_cases e : (pCl tp en p).2.1 = en
      · rw [if_neg (show ¬ o1 (chO tp en (pCl tp en p).2.1) = (59 : Int32) by rw [chO_end (by omega)]; decide), w145 _ _ M1 hc.2.1 hm, if_pos e, if_pos e]
        exact ⟨_, _, rfl, (fun _ => ⟨rfl, M1, a2, hm, rfl⟩), fun q => by cases q⟩
      · rw [if_neg e]
        by_cases c : chO tp en (pCl tp en p).2.1 = some 59
        · have hlt := (chO_lt c).1
          rw [if_pos (show o1 (chO tp en (pCl tp en p).2.1) = (59 : Int32) from (ch_I (c := 59) hT (by omega)).mpr c), if_pos c]
          simp only [aLt_eq, hm.1.2.1, nI_1]
          have f1 := a2.tr (FC.fm (FM.up (act := act) M1 (j := 5) (nI ((pCl tp en p).2.1 + 1)) (by omega)))
          have hm2 : MC tp en act ((pCl tp en p).2.1 + 1) (adR W (pCl tp en p)) (aUi M1 0 5 (nI ((pCl tp en p).2.1 + 1))) := ⟨MS_5 hm.1, by rw [aUi_row (by omega)]; exact hm.2.1, by rw [aUi_row (by omega)]; exact hm.2.2⟩
          obtain ⟨a, M', g1, g2, g3⟩ := ih (l + 1) n ((pCl tp en p).2.1 + 1) (adR W (pCl tp en p)) _ (by omega) (by omega) hlt hm2 (WI_mono b1 (by omega)) (by omega)
          refine ⟨a, M', g1, fun q => ?_, fun q => ?_⟩
          · obtain ⟨y1, M3, y2, y3, y4⟩ := g2 q
            exact ⟨y1, M3, f1.tr y2, y3, y4⟩
          · obtain ⟨y1, y2⟩ := g3 q
            exact ⟨y1, f1.tr y2⟩
        · rw [if_neg (show ¬ o1 (chO tp en (pCl tp en p).2.1) = (59 : Int32) from fun q => c ((ch_I (c := 59) hT (by omega)).mp q)), if_neg c, w145 _ _ M1 hc.2.1 hm, if_neg e]
          exact ⟨_, _, rfl, (fun q => by cases q), fun _ => ⟨rfl, a2⟩⟩

/-! PURE PART: CLAUSES, WOODS; the class reads them -/
def sHold : List Nat := [104, 111, 108, 100]
def sSplit : List Nat := [115, 112, 108, 105, 116]
def sRope : List Nat := [114, 111, 112, 101]
def sInd : List Nat := [105, 110, 100]
def sEdge : List Nat := [101, 100, 103, 101]
theorem stJ_t : ∀ q ∈ [(0, sHold), (1, sSplit), (2, sRope), (3, sInd), (4, sEdge), (8, sHold ++ [32]), (9, sSplit ++ [32]), (10, sInd ++ [32]), (11, sEdge ++ [32]), (12, sRope ++ [32]), (6, lT), (7, rL)], q.1 < 13 ∧ q.2.length = a_strL.getD q.1 0 ∧ ∀ j (h : j < q.2.length), (a_strB.getD q.1 []).getD j 0 = nI q.2[j] ∧ q.2[j] < 128 := by decide +kernel
theorem stJ_in {i : Nat} {l : List Nat} (h : (i, l) ∈ [(0, sHold), (1, sSplit), (2, sRope), (3, sInd), (4, sEdge), (8, sHold ++ [32]), (9, sSplit ++ [32]), (10, sInd ++ [32]), (11, sEdge ++ [32]), (12, sRope ++ [32]), (6, lT), (7, rL)]) : stJ i l := stJ_t (i, l) h
def pWo (w : Nat) (r : Bool × Nat) : Option Nat × Nat := (if r.1 = true then some w else none, r.2)
def pWrd (tp : Nat → Nat) (en p : Nat) : Option Nat × Nat := if chO tp en p = some 104 then pWo 0 (pAll tp en sHold p) else if chO tp en p = some 114 then pWo 4 (pAll tp en sRope p) else if chO tp en p = some 115 then pWo 1 (pAll tp en sSplit p) else if chO tp en p = some 119 then (if chO tp en (p + 1) = some 105 then pWo 2 (pAll tp en sInd (p + 1)) else pWo 3 (pAll tp en sEdge (p + 1))) else (none, p)
theorem pWo_in {tp : Nat → Nat} {en p p' w : Nat} {l : List Nat} (hw : w < 5) (hp : p ≤ p') (hp' : p' ≤ en) (hl : 3 ≤ l.length) : p ≤ (pWo w (pAll tp en l p')).2 ∧ (pWo w (pAll tp en l p')).2 ≤ en ∧ ∀ v, (pWo w (pAll tp en l p')).1 = some v → v < 5 ∧ p < (pWo w (pAll tp en l p')).2 := by
  obtain ⟨a, b, c⟩ := pAll_in (tp := tp) (en := en) l p' hp'
  unfold pWo
  refine ⟨by show p ≤ (pAll tp en l p').2; omega, b, fun v hv => ?_⟩
  by_cases k : (pAll tp en l p').1 = true
  · have h2 := c k
    rw [if_pos k] at hv
    cases hv
    exact ⟨hw, by show p < (pAll tp en l p').2; omega⟩
  · rw [if_neg k] at hv
    cases hv
theorem pWrd_in {tp : Nat → Nat} {en p : Nat} (hp : p ≤ en) : p ≤ (pWrd tp en p).2 ∧ (pWrd tp en p).2 ≤ en ∧ ∀ v, (pWrd tp en p).1 = some v → v < 5 ∧ p < (pWrd tp en p).2 := by
  unfold pWrd
  by_cases h1 : chO tp en p = some 104
  · rw [if_pos h1]; exact pWo_in (by omega) (Nat.le_refl _) hp (by decide)
  · rw [if_neg h1]
    by_cases h2 : chO tp en p = some 114
    · rw [if_pos h2]; exact pWo_in (by omega) (Nat.le_refl _) hp (by decide)
    · rw [if_neg h2]
      by_cases h3 : chO tp en p = some 115
      · rw [if_pos h3]; exact pWo_in (by omega) (Nat.le_refl _) hp (by decide)
      · rw [if_neg h3]
        by_cases h4 : chO tp en p = some 119
        · have hl := (chO_lt h4).1
          rw [if_pos h4]
          by_cases h5 : chO tp en (p + 1) = some 105
          · rw [if_pos h5]; exact pWo_in (by omega) (by omega) hl (by decide)
          · rw [if_neg h5]; exact pWo_in (by omega) (by omega) hl (by decide)
        · rw [if_neg h4]
          exact ⟨Nat.le_refl _, hp, fun v hv => by cases hv⟩
abbrev CR : Type := Bool × Nat × Nat × Nat × List Nat
def pC3 (tp : Nat → Nat) (en w n p : Nat) : CR := if w = 3 then (true, p, w, n, []) else if w = 4 then (true, p, w, n, []) else if chO tp en p = some 32 then ((pE tp en (p + 1)).1, (pE tp en (p + 1)).2.1, w, n, (pE tp en (p + 1)).2.2) else (false, p, 0, 0, [])
def pC2 (tp : Nat → Nat) (en w p : Nat) : CR := match (pNum tp en p).1 with
  | none => (false, (pNum tp en p).2, 0, 0, [])
  | some n => pC3 tp en w n (pNum tp en p).2
def pCl (tp : Nat → Nat) (en p : Nat) : CR := match (pWrd tp en p).1 with
  | none => (false, (pWrd tp en p).2, 0, 0, [])
  | some w => if chO tp en (pWrd tp en p).2 = some 32 then pC2 tp en w ((pWrd tp en p).2 + 1) else (false, (pWrd tp en p).2, 0, 0, [])
def cOk (en p : Nat) (c : CR) : Prop := p ≤ c.2.1 ∧ c.2.1 ≤ en ∧ (c.1 = true → c.2.2.1 < 5 ∧ c.2.2.2.1 < 100 ∧ c.2.2.2.2.length + 1 + p ≤ c.2.1 ∧ (c.2.2.1 < 3 → sgH c.2.2.2.2 0 = some 1))
theorem cOk_f {en p q : Nat} (h1 : p ≤ q) (h2 : q ≤ en) : cOk en p (false, q, 0, 0, []) := ⟨h1, h2, fun e => by cases e⟩
theorem pC3_in {tp : Nat → Nat} {en w n p q : Nat} (hw : w < 5) (hn : n < 100) (hq : q < p) (hp : p ≤ en) : cOk en q (pC3 tp en w n p) := by
  unfold pC3
  by_cases h1 : w = 3
  · rw [if_pos h1]
    exact ⟨by show q ≤ p; omega, hp, fun _ => ⟨hw, hn, by show 0 + 1 + q ≤ p; omega, fun k => by have k : w < 3 := k; omega⟩⟩
  · rw [if_neg h1]
    by_cases h2 : w = 4
    · rw [if_pos h2]
      exact ⟨by show q ≤ p; omega, hp, fun _ => ⟨hw, hn, by show 0 + 1 + q ≤ p; omega, fun k => by have k : w < 3 := k; omega⟩⟩
    · rw [if_neg h2]
      by_cases h3 : chO tp en p = some 32
      · have hl := (chO_lt h3).1
        rw [if_pos h3]
        obtain ⟨e1, e2, e3, e4⟩ := Gd_E (tp := tp) (en := en) (p + 1) hl
        exact ⟨by show q ≤ (pE tp en (p + 1)).2.1; omega, e2, fun k => ⟨hw, hn, by show (pE tp en (p + 1)).2.2.length + 1 + q ≤ (pE tp en (p + 1)).2.1; omega, fun _ => e4 k 0 (by omega)⟩⟩
      · rw [if_neg h3]
        exact cOk_f (by omega) hp
theorem pCl_in {tp : Nat → Nat} {en p : Nat} (hp : p ≤ en) : cOk en p (pCl tp en p) := by
  obtain ⟨a, b, c⟩ := pWrd_in (tp := tp) hp
  unfold pCl
  cases h1 : (pWrd tp en p).1 with
  | none => exact cOk_f a b
  | some w =>
    obtain ⟨w1, w2⟩ := c w h1
    dsimp only
    by_cases h2 : chO tp en (pWrd tp en p).2 = some 32
    · have hl := (chO_lt h2).1
      rw [if_pos h2]
      obtain ⟨n1, n2, n3⟩ := pNum_in (tp := tp) (en := en) (p := (pWrd tp en p).2 + 1) hl
      unfold pC2
      cases h3 : (pNum tp en ((pWrd tp en p).2 + 1)).1 with
      | none => exact cOk_f (by omega) n2
      | some n =>
        obtain ⟨m1, m2⟩ := n3 n h3
        exact pC3_in w1 m1 (by omega) n2
    · rw [if_neg h2]
      exact cOk_f a b
def adC (W : PW) (w n : Nat) (o : List Nat) : PW := if w = 3 then (n, W.2.1, W.2.2) else if w = 4 then (W.1, n, W.2.2) else (W.1, W.2.1, W.2.2 ++ [(w, n, o)])
def adR (W : PW) (c : CR) : PW := adC W c.2.2.1 c.2.2.2.1 c.2.2.2.2
/-- r CLAUSES more may follow -/
def pRs (tp : Nat → Nat) (en : Nat) : Nat → Nat → PW → Bool × Nat × PW
  | 0, p, W => if (pCl tp en p).1 = true then (if (pCl tp en p).2.1 = en then (true, (pCl tp en p).2.1, adR W (pCl tp en p)) else (false, (pCl tp en p).2.1, W)) else (false, (pCl tp en p).2.1, W)
  | r + 1, p, W => if (pCl tp en p).1 = true then (if (pCl tp en p).2.1 = en then (true, (pCl tp en p).2.1, adR W (pCl tp en p)) else if chO tp en (pCl tp en p).2.1 = some 59 then pRs tp en r ((pCl tp en p).2.1 + 1) (adR W (pCl tp en p)) else (false, (pCl tp en p).2.1, W)) else (false, (pCl tp en p).2.1, W)
def WI (p : Nat) (W : PW) : Prop := W.1 < 100 ∧ W.2.1 < 100 ∧ (W.2.2.map (fun c => c.2.2.length)).sum + W.2.2.length ≤ p ∧ ∀ c ∈ W.2.2, clOk c
theorem WI_mono {p q : Nat} {W : PW} (h : WI p W) (hq : p ≤ q) : WI q W := ⟨h.1, h.2.1, Nat.le_trans h.2.2.1 hq, h.2.2.2⟩
theorem WI_ad {en p : Nat} {W : PW} {c : CR} (h : WI p W) (hc : cOk en p c) (hk : c.1 = true) : WI c.2.1 (adR W c) ∧ (adR W c).2.2.length ≤ W.2.2.length + 1 := by
  obtain ⟨h1, h2, h3, h4⟩ := h
  obtain ⟨c1, c2, c3⟩ := hc
  obtain ⟨k1, k2, k3, k4⟩ := c3 hk
  unfold adR adC
  by_cases e1 : c.2.2.1 = 3
  · rw [if_pos e1]
    exact ⟨⟨k2, h2, by show (W.2.2.map (fun c => c.2.2.length)).sum + W.2.2.length ≤ _; omega, h4⟩, by show W.2.2.length ≤ _; omega⟩
  · rw [if_neg e1]
    by_cases e2 : c.2.2.1 = 4
    · rw [if_pos e2]
      exact ⟨⟨h1, k2, by show (W.2.2.map (fun c => c.2.2.length)).sum + W.2.2.length ≤ _; omega, h4⟩, by show W.2.2.length ≤ _; omega⟩
    · rw [if_neg e2]
      refine ⟨⟨h1, h2, ?_, fun x hx => ?_⟩, ?_⟩
      · show ((W.2.2 ++ [(c.2.2.1, c.2.2.2.1, c.2.2.2.2)]).map (fun c => c.2.2.length)).sum + (W.2.2 ++ [(c.2.2.1, c.2.2.2.1, c.2.2.2.2)]).length ≤ _
        rw [List.map_append, List.sum_append, List.length_append]
        show (W.2.2.map (fun c => c.2.2.length)).sum + (c.2.2.2.2.length + 0) + (W.2.2.length + 1) ≤ _
        omega
      · have hx : x ∈ W.2.2 ++ [(c.2.2.1, c.2.2.2.1, c.2.2.2.2)] := hx
        rcases List.mem_append.mp hx with hx | hx
        · exact h4 x hx
        · rw [List.mem_singleton.mp hx]
          exact ⟨by show c.2.2.1 < 3; omega, k2, k4 (by omega)⟩
      · show (W.2.2 ++ [(c.2.2.1, c.2.2.2.1, c.2.2.2.2)]).length ≤ _
        rw [List.length_append]
        exact Nat.le_refl _
theorem pRs_in {tp : Nat → Nat} {en : Nat} : ∀ (r p : Nat) (W : PW), p ≤ en → WI p W → W.2.2.length + r + 1 ≤ 10 → (pRs tp en r p W).1 = true → WI en (pRs tp en r p W).2.2 ∧ (pRs tp en r p W).2.2.2.2.length ≤ 10
  | 0, p, W, hp, hW, hl, hk => by
    have hc := pCl_in (tp := tp) hp
    unfold pRs at hk ⊢
    by_cases k : (pCl tp en p).1 = true
    · rw [if_pos k] at hk ⊢
      by_cases e : (pCl tp en p).2.1 = en
      · rw [if_pos e] at hk ⊢
        obtain ⟨a, b⟩ := WI_ad hW hc k
        exact ⟨WI_mono a (by omega), by show (adR W (pCl tp en p)).2.2.length ≤ 10; omega⟩
      · rw [if_neg e] at hk; cases hk
    · rw [if_neg k] at hk; cases hk
  | r + 1, p, W, hp, hW, hl, hk => by
    have hc := pCl_in (tp := tp) hp
    unfold pRs at hk ⊢
    by_cases k : (pCl tp en p).1 = true
    · rw [if_pos k] at hk ⊢
      obtain ⟨a, b⟩ := WI_ad hW hc k
      by_cases e : (pCl tp en p).2.1 = en
      · rw [if_pos e] at hk ⊢
        exact ⟨WI_mono a (by omega), by show (adR W (pCl tp en p)).2.2.length ≤ 10; omega⟩
      · rw [if_neg e] at hk ⊢
        by_cases c : chO tp en (pCl tp en p).2.1 = some 59
        · have hl2 := (chO_lt c).1
          rw [if_pos c] at hk ⊢
          exact pRs_in r _ _ hl2 (WI_mono a (by omega)) (by omega) hk
        · rw [if_neg c] at hk; cases hk
    · rw [if_neg k] at hk; cases hk
/-! the class -/
def XH (W : PW) (X : aSt) : Prop := X.1 23 0 = nI W.2.2.length ∧ X.1 23 2 = nI W.1 ∧ X.1 23 3 = nI W.2.1 ∧ (∀ i (h : i < W.2.2.length), X.1 24 i = nI W.2.2[i].1 ∧ X.1 25 i = nI W.2.2[i].2.1) ∧ ∀ i (h : i < (clEnds 0 W.2.2).length), X.1 26 i = nI (clEnds 0 W.2.2)[i]
theorem XH_FX {W : PW} {X X' : aSt} (h : FX X X') (hH : XH W X) : XH W X' := by
  unfold XH at hH ⊢
  rw [h.2.1 0 (by omega), h.2.1 2 (by omega), h.2.1 3 (by omega), h.1 24 (by omega) (by omega) (by omega), h.1 25 (by omega) (by omega) (by omega), h.1 26 (by omega) (by omega) (by omega)]
  exact hH
def flW (W : PW) : List Nat := W.2.2.flatMap (fun c => c.2.2)
def FY (X X' : aSt) : Prop := (∀ k, (k < 22 ∨ 29 ≤ k) → X'.1 k = X.1 k) ∧ X'.2 = X.2
theorem FY.tr {A B C : aSt} (h : FY A B) (g : FY B C) : FY A C := ⟨fun k hk => (g.1 k hk).trans (h.1 k hk), g.2.trans h.2⟩
theorem FY.fx {A B : aSt} (h : FX A B) : FY A B := ⟨fun k hk => h.1 k (by omega) (by omega) (by omega), h.2.2.2⟩
theorem FY.up (A : aSt) {k : Nat} (j : Nat) (v : Int32) (h : 22 ≤ k ∧ k < 29) : FY A (aUi A k j v) := ⟨fun q hq => aUi_row (by omega), rfl⟩
theorem XS_23 {tp : Nat → Nat} {en p j : Nat} {L : List Nat} {X : aSt} {v : Int32} (hj : j ≠ 1) (h : XS tp en p L X) : XS tp en p L (aUi X 23 j v) := by
  obtain ⟨a, b, c, d, e⟩ := h
  exact ⟨by rw [aUi_row (by omega)]; exact a, by rw [aUi_row (by omega)]; exact b, fun j hj => by rw [aUi_row (by omega)]; exact c j hj, by rw [aUi_ne (fun q => hj q.symm)]; exact d, fun j hj => by rw [aUi_row (by omega)]; exact e j hj⟩
theorem clE_app (c : Nat × Nat × List Nat) : ∀ (l : List (Nat × Nat × List Nat)) (o : Nat), clEnds o (l ++ [c]) = clEnds o l ++ [o + (l.flatMap (fun c => c.2.2)).length + c.2.2.length]
  | [], o => rfl
  | x :: r, o => by
    show (o + x.2.2.length) :: clEnds (o + x.2.2.length) (r ++ [c]) = (o + x.2.2.length) :: clEnds (o + x.2.2.length) r ++ [o + ((x :: r).flatMap (fun c => c.2.2)).length + c.2.2.length]
    rw [clE_app c r, List.flatMap_cons, List.length_append, show o + x.2.2.length + (r.flatMap (fun c => c.2.2)).length + c.2.2.length = o + (x.2.2.length + (r.flatMap (fun c => c.2.2)).length) + c.2.2.length by omega]
    rfl
theorem q_close {tp : Nat → Nat} {en p w n : Nat} {o : List Nat} {W : PW} {X : aSt} (hl : W.2.2.length < 10) (h : XS tp en p (flW W ++ o) X) (hH : XH W X) : ∃ X', f_X5_close 23 (nI w) (nI n) X = some ((), X') ∧ XS tp en p (flW W ++ o) X' ∧ XH (W.1, W.2.1, W.2.2 ++ [(w, n, o)]) X' ∧ FY X X' := by
  obtain ⟨a, b, c, d, e⟩ := h
  obtain ⟨h0, h2, h3, h4, h5⟩ := hH
  unfold f_X5_close
  rw [h0, if_neg (show ¬ (10 : Int32) ≤ nI W.2.2.length from nI_ge (b := 10) hl (by omega)), if_neg (q_chk hl (by omega)), aLt_eq, aUi_row (show 23 ≠ 23 + 1 by omega), h0, if_neg (q_chk hl (by omega)), aLt_eq, aUi_row (show 23 ≠ 23 + 2 by omega), aUi_row (show 23 ≠ 23 + 1 by omega), h0, d, if_neg (q_chk hl (by omega)), aLt_eq, aLt_eq, aUi_row (show 23 ≠ 23 + 3 by omega), aUi_row (show 23 ≠ 23 + 2 by omega), aUi_row (show 23 ≠ 23 + 1 by omega), h0, nI_clamp (by omega), nI_1]
  refine ⟨_, rfl, ⟨?_, ?_, fun j hj => ?_, ?_, fun j hj => ?_⟩, ⟨?_, ?_, ?_, fun i hi => ?_, fun i hi => ?_⟩, (((FY.up X _ _ (by omega)).tr (FY.up _ _ _ (by omega))).tr (FY.up _ _ _ (by omega))).tr (FY.up _ _ _ (by omega))⟩
  · rw [aUi_row (by omega), aUi_row (by omega), aUi_row (by omega), aUi_row (by omega)]; exact a
  · rw [aUi_row (by omega), aUi_row (by omega), aUi_row (by omega), aUi_row (by omega)]; exact b
  · rw [aUi_row (by omega), aUi_row (by omega), aUi_row (by omega), aUi_row (by omega)]; exact c j hj
  · rw [aUi_ne (by omega), aUi_row (by omega), aUi_row (by omega), aUi_row (by omega)]; exact d
  · rw [aUi_row (by omega), aUi_row (by omega), aUi_row (by omega), aUi_row (by omega)]; exact e j hj
  · rw [aUi_at]
    show nI (W.2.2.length + 1) = nI (W.2.2 ++ [(w, n, o)]).length
    rw [List.length_append]
    rfl
  · rw [aUi_ne (by omega), aUi_row (by omega), aUi_row (by omega), aUi_row (by omega)]; exact h2
  · rw [aUi_ne (by omega), aUi_row (by omega), aUi_row (by omega), aUi_row (by omega)]; exact h3
  · have hi : i < (W.2.2 ++ [(w, n, o)]).length := hi
    show _ = nI (W.2.2 ++ [(w, n, o)])[i].1 ∧ _ = nI (W.2.2 ++ [(w, n, o)])[i].2.1
    rw [aUi_row (show 24 ≠ 23 by omega), aUi_row (show 24 ≠ 23 + 3 by omega), aUi_row (show 24 ≠ 23 + 2 by omega), aUi_row (show 25 ≠ 23 by omega), aUi_row (show 25 ≠ 23 + 3 by omega)]
    by_cases k : i = W.2.2.length
    · subst k
      refine ⟨?_, ?_⟩
      · rw [show (24 : Nat) = 23 + 1 from rfl, aUi_at]; simp
      · rw [show (25 : Nat) = 23 + 2 from rfl, aUi_at]; simp
    · have hi2 : i < W.2.2.length := by
        rw [List.length_append] at hi
        have hi : i < W.2.2.length + 1 := hi
        omega
      rw [List.getElem_append_left hi2]
      refine ⟨?_, ?_⟩
      · rw [show (24 : Nat) = 23 + 1 from rfl, aUi_ne k]; exact (h4 i hi2).1
      · rw [show (25 : Nat) = 23 + 2 from rfl, aUi_ne k, aUi_row (by omega)]; exact (h4 i hi2).2
  · have hi : i < (clEnds 0 (W.2.2 ++ [(w, n, o)])).length := hi
    show _ = nI (clEnds 0 (W.2.2 ++ [(w, n, o)]))[i]
    have hi3 := hi
    rw [clE_len, List.length_append] at hi3
    have hi3 : i < W.2.2.length + 1 := hi3
    have hq : (clEnds 0 (W.2.2 ++ [(w, n, o)]))[i]? = (clEnds 0 W.2.2 ++ [0 + (W.2.2.flatMap (fun c => c.2.2)).length + o.length])[i]? := by rw [clE_app]
    rw [aUi_row (show 26 ≠ 23 by omega), show (26 : Nat) = 23 + 3 from rfl]
    by_cases k : i = W.2.2.length
    · have : (clEnds 0 (W.2.2 ++ [(w, n, o)]))[i] = (flW W ++ o).length := by
        have h9 : (clEnds 0 W.2.2).length ≤ i := by rw [clE_len]; omega
        rw [List.getElem?_eq_getElem hi, List.getElem?_append_right h9, clE_len, show i - W.2.2.length = 0 by omega] at hq
        have := Option.some.inj hq
        rw [this, List.length_append, Nat.zero_add]
        rfl
      rw [this, k, aUi_at]
    · have h9 : i < (clEnds 0 W.2.2).length := by rw [clE_len]; omega
      have : (clEnds 0 (W.2.2 ++ [(w, n, o)]))[i] = (clEnds 0 W.2.2)[i] := by
        rw [List.getElem?_eq_getElem hi, List.getElem?_append_left h9, List.getElem?_eq_getElem h9] at hq
        exact Option.some.inj hq
      rw [this, aUi_ne k, aUi_row (by omega), aUi_row (by omega)]
      exact h5 i h9
theorem q_wordX {tp : Nat → Nat} {en p : Nat} {L : List Nat} {X : aSt} (hT : TP tp en) (hp : p ≤ en) (h : XS tp en p L X) : ∃ X', f_X3_word X = some (o1 (pWrd tp en p).1, X') ∧ XS tp en (pWrd tp en p).2 L X' ∧ FX X X' := by
  have key : ∀ (i w p' : Nat) (l : List Nat) (X1 : aSt), stJ i l → p' ≤ en → XS tp en p' L X1 → FX X X1 → ∃ X', aB (f_X3_takesAll i X1) (fun r8_ S8 => if r8_ = 0 then some ((-1 : Int32), S8) else some (nI w, S8)) = some (o1 (pWo w (pAll tp en l p')).1, X') ∧ XS tp en (pWo w (pAll tp en l p')).2 L X' ∧ FX X X' := fun i w p' l X1 hs hp' h1 hf => by
    obtain ⟨X', a1, a2, a3⟩ := q_tAll hT hs hp' h1
    rw [a1, aB_some]
    refine ⟨X', ?_, a2, hf.tr a3⟩
    unfold pWo
    cases (pAll tp en l p').1 <;> rfl
  have oI := fun (c : Nat) (hc : c < 128) => ch_I (p := p) (c := c) hT hc
  unfold f_X3_word pWrd
  rw [q_next hT hp h, aB_some]
  by_cases h1 : chO tp en p = some 104
  · rw [if_pos (show o1 (chO tp en p) = (104 : Int32) from (oI 104 (by omega)).mpr h1), if_pos h1]
    exact key 0 0 p sHold X (stJ_in (by simp)) hp h (FX.rf X)
  · rw [if_neg (show ¬ o1 (chO tp en p) = (104 : Int32) from fun e => h1 ((oI 104 (by omega)).mp e)), if_neg h1]
    by_cases h2 : chO tp en p = some 114
    · rw [if_pos (show o1 (chO tp en p) = (114 : Int32) from (oI 114 (by omega)).mpr h2), if_pos h2]
      exact key 2 4 p sRope X (stJ_in (by simp)) hp h (FX.rf X)
    · rw [if_neg (show ¬ o1 (chO tp en p) = (114 : Int32) from fun e => h2 ((oI 114 (by omega)).mp e)), if_neg h2]
      by_cases h3 : chO tp en p = some 115
      · rw [if_pos (show o1 (chO tp en p) = (115 : Int32) from (oI 115 (by omega)).mpr h3), if_pos h3]
        exact key 1 1 p sSplit X (stJ_in (by simp)) hp h (FX.rf X)
      · rw [if_neg (show ¬ o1 (chO tp en p) = (115 : Int32) from fun e => h3 ((oI 115 (by omega)).mp e)), if_neg h3]
        by_cases h4 : chO tp en p = some 119
        · have hl := (chO_lt h4).1
          have hX1 : XS tp en (p + 1) L (aUi X 22 3 (nI (p + 1))) := XS_at h
          rw [if_pos (show o1 (chO tp en p) = (119 : Int32) from (oI 119 (by omega)).mpr h4), if_pos h4, aLt_eq, h.2.1, nI_1, q_next hT hl hX1, aB_some]
          by_cases h5 : chO tp en (p + 1) = some 105
          · rw [if_pos (show o1 (chO tp en (p + 1)) = (105 : Int32) from (ch_I (c := 105) hT (by omega)).mpr h5), if_pos h5]
            exact key 3 2 (p + 1) sInd _ (stJ_in (by simp)) hl hX1 (FX.at X _)
          · rw [if_neg (show ¬ o1 (chO tp en (p + 1)) = (105 : Int32) from fun e => h5 ((ch_I (c := 105) hT (by omega)).mp e)), if_neg h5]
            exact key 4 3 (p + 1) sEdge _ (stJ_in (by simp)) hl hX1 (FX.at X _)
        · rw [if_neg (show ¬ o1 (chO tp en p) = (119 : Int32) from fun e => h4 ((oI 119 (by omega)).mp e)), if_neg h4]
          exact ⟨X, rfl, h, FX.rf X⟩

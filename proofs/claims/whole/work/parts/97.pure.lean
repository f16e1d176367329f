/-! PURE PART: wood -/
theorem q_woodM {P : PS} {M : aSt} (hV : PV P) (hM : RM P (M.1 1)) (hw : pW P < 5) : ∃ a M' M0, f_X7_wood M = some (a, M') ∧ (∀ k, k ≠ 0 → k ≠ 1 → M0.1 k = M.1 k) ∧ (∀ j, (j < 4 ∨ 9 ≤ j) → M0.1 0 j = M.1 0 j) ∧ M0.1 1 3 = 0 ∧ (∀ q, q ≠ 3 → q ≠ 200 + pW P → q ≠ 205 + pW P → q ≠ 274 + pW P → M0.1 1 q = M.1 1 q) ∧ WD (pTape P) (pG P) (pW P) M0 (pRd (pTape P) (pG P)) a M' := by
  have hg := hV.2.2.2.1
  have hT : TP (pTape P) (pG P) := ⟨hg, hV.2.2.2.2.2.1⟩
  have m1 : M.1 1 1 = nI (pW P) := hM.2.1
  have m3 : M.1 1 3 = nI (pG P) := hM.2.2.2.1
  have m6 := hM.2.2.2.2.2.1
  unfold f_X7_wood
  rw [m1, if_neg (show ¬ nI (pW P) = (5 : Int32) from fun e => by have := (nI_eq (b := 5) (by omega) (by omega)).mp e; omega), aLt_eq, aLt_eq, aLt_eq, aUi_row (show 1 ≠ 0 by omega), m3, aUi_row (show 0 ≠ 1 by omega), aUi_ne (show (4 : Nat) ≠ 6 by omega), aUi_at, show (200 : Int32) + nI (pW P) = nI (200 + pW P) from nI_add 200 (pW P), if_neg (q_chk (by omega) (by omega)), aLt_eq, aUi_row (show 0 ≠ 1 by omega), aUi_row (show 0 ≠ 1 by omega), aUi_ne (show (4 : Nat) ≠ 6 by omega), aUi_at, show (205 : Int32) + nI (pW P) = nI (205 + pW P) from nI_add 205 (pW P), if_neg (q_chk (by omega) (by omega)), aLt_eq, aUi_row (show 0 ≠ 1 by omega), aUi_row (show 0 ≠ 1 by omega), aUi_row (show 0 ≠ 1 by omega), aUi_ne (show (4 : Nat) ≠ 6 by omega), aUi_at, show (274 : Int32) + nI (pW P) = nI (274 + pW P) from nI_add 274 (pW P), if_neg (q_chk (by omega) (by omega)), aLt_eq, aLt_eq, aLt_eq, aLt_eq, nI_clamp (show 200 + pW P < 2 ^ 31 by omega), nI_clamp (show 205 + pW P < 2 ^ 31 by omega), nI_clamp (show 274 + pW P < 2 ^ 31 by omega)]
  generalize hM0 : aUi (aUi (aUi (aUi (aUi (aUi (aUi (aUi (aUi M 0 4 (nI (pW P))) 0 6 (nI (pG P))) 1 3 0) 1 (200 + pW P) 3) 1 (205 + pW P) 2) 1 (274 + pW P) 0) 0 5 0) 0 7 0) 0 8 0 = M0
  have r1 : M0.1 1 = upd (upd (upd (upd (M.1 1) 3 0) (200 + pW P) 3) (205 + pW P) 2) (274 + pW P) 0 := by
    subst hM0
    rw [aUi_row (by omega), aUi_row (by omega), aUi_row (by omega), aUi_k, aUi_k, aUi_k, aUi_k, aUi_row (by omega), aUi_row (by omega)]
  have r0 : ∀ j, M0.1 0 j = if j = 8 then 0 else if j = 7 then 0 else if j = 5 then 0 else if j = 6 then nI (pG P) else if j = 4 then nI (pW P) else M.1 0 j := fun j => by
    subst hM0
    simp [aUi_rd]
  have rk : ∀ k, k ≠ 0 → k ≠ 1 → M0.1 k = M.1 k := fun k h1 h2 => by
    subst hM0
    rw [aUi_row h1, aUi_row h1, aUi_row h1, aUi_row h2, aUi_row h2, aUi_row h2, aUi_row h2, aUi_row h1, aUi_row h1]
  clear hM0
  have hMC : MC (pTape P) (pG P) (pW P) 0 W0 M0 := by
    refine ⟨⟨?_, ?_, ?_, ?_, ?_, fun j hj => ?_, ?_, fun j hj => absurd hj (by show ¬ j < 0; omega)⟩, ?_, ?_⟩
    · rw [r0]; rfl
    · rw [r0]; rfl
    · rw [r0]; rfl
    · rw [r0]; rfl
    · rw [r0]; rfl
    · rw [r1, pk_un (by omega), pk_un (by omega), pk_un (by omega), pk_un (by omega)]; exact m6 j hj
    · rw [r1, pk_us]; rfl
    · rw [r1, pk_un (by omega), pk_un (by omega), pk_us]; rfl
    · rw [r1, pk_un (by omega), pk_us]; rfl
  obtain ⟨a, M', g1, g2⟩ := q_wdM hT hw 9 1 aF 0 W0 M0 (by omega) (by have := aF_big; omega) (by omega) hMC WI0 (by decide)
  refine ⟨a, M', M0, g1, rk, fun j hj => ?_, ?_, fun q h1 h2 h3 h4 => ?_, g2⟩
  · rw [r0, if_neg (by omega), if_neg (by omega), if_neg (by omega), if_neg (by omega), if_neg (by omega)]
  · rw [r1, pk_un (by omega), pk_un (by omega), pk_un (by omega), pk_us]
  · rw [r1, pk_un h4, pk_un h3, pk_un h2, pk_un h1]
theorem RMW_wd {w h' : Nat} {W : PW} {s s' : Nat → Int32} (hw : w < 5) (hO : wdOk W) (h : RMW w W s) (hs : ∀ q, q ≠ 1 → q ≠ 3 → q ≠ 200 + w → q ≠ 205 + w → q ≠ 274 + w → (q < 279 + 140 * w ∨ 419 + 140 * w ≤ q) → s' q = s q) : RMW w W s' := by
  rcases h with ⟨h1, h2⟩ | ⟨q, hq, h1, h2, h3, h4, h5⟩
  · exact Or.inl ⟨by rw [hs 4 (by omega) (by omega) (by omega) (by omega) (by omega) (by omega)]; exact h1, h2⟩
  · have hl := clM_len W.2.2
    have ho := hO.2.2.2.1
    exact Or.inr ⟨q, hq, by rw [hs 4 (by omega) (by omega) (by omega) (by omega) (by omega) (by omega)]; exact h1, by rw [hs _ (by omega) (by omega) (by omega) (by omega) (by omega) (by omega)]; exact h2, by rw [hs _ (by omega) (by omega) (by omega) (by omega) (by omega) (by omega)]; exact h3, by rw [hs _ (by omega) (by omega) (by omega) (by omega) (by omega) (by omega)]; exact h4, fun z hz => by rw [hs _ (by omega) (by omega) (by omega) (by omega) (by omega) (by omega)]; exact h5 z hz⟩
/-- the reference's row behind a WOOD -/
theorem RM_wd {P P' : PS} {s s' : Nat → Int32} (hV : PV P) (hw : pW P < 5) (h : RM P s) (e1 : P'.2.2.1 = P.2.2.1) (e2 : pN P' = pN P) (e3 : pB P' = pB P) (e4 : pG P' = 0) (e5 : pO P' = pO P) (e6 : pT P' = pT P) (e7 : pTh P' = pTh P) (a : s' 1 = nI (pW P')) (b : s' 3 = 0) (c : RMW (pW P') (pWd P') s') (hs : ∀ q, q ≠ 1 → q ≠ 3 → q ≠ 4 → q ≠ 200 + pW P → q ≠ 205 + pW P → q ≠ 274 + pW P → (q < 279 + 140 * pW P ∨ 419 + 140 * pW P ≤ q) → s' q = s q) : RM P' s' := by
  obtain ⟨m1, m2, m3, m4, m5, m6, m7, m8, m9, m10⟩ := h
  have hn := hV.1
  have hbk := hV.2.2.1
  have hs2 : ∀ q, q < 274 → q ≠ 1 → q ≠ 3 → q ≠ 4 → (q < 200 ∨ 210 ≤ q) → s' q = s q := fun q k1 k2 k3 k4 k5 => hs q k2 k3 k4 (by omega) (by omega) (by omega) (by omega)
  have e8 : pBook P' = pBook P := e1
  refine ⟨by rw [hs2 0 (by omega) (by omega) (by omega) (by omega) (by omega), e2]; exact m1, a, by rw [hs2 2 (by omega) (by omega) (by omega) (by omega) (by omega), e3]; exact m3, by rw [b, e4]; rfl, by rw [hs2 5 (by omega) (by omega) (by omega) (by omega) (by omega), e5]; exact m5, fun i hi => absurd hi (by rw [e4]; omega), fun i hi => ?_, fun p hp => ?_, fun i hi => ⟨fun j hj => ?_, fun j hj => ?_⟩, c⟩
  · rw [e3] at hi
    rw [hs2 _ (by omega) (by omega) (by omega) (by omega) (by omega), e8]; exact m7 i hi
  · rw [hs2 _ (by omega) (by omega) (by omega) (by omega) (by omega), e7]; exact m8 p hp
  · rw [e2] at hi
    rw [hs2 _ (by omega) (by omega) (by omega) (by omega) (by omega), e6]; exact (m9 i hi).1 j hj
  · rw [e2] at hi
    rw [hs2 _ (by omega) (by omega) (by omega) (by omega) (by omega), e6]; exact (m9 i hi).2 j hj
theorem pu_wood_ok : pu_wood Rel := by
  intro K X M hR
  obtain ⟨⟨P, hV, hX, hM⟩, ⟨n, hn, b1, b2, b3⟩, hK⟩ := id hR
  have hN := hV.1
  have hw5 := hV.2.1
  have hg := hV.2.2.2.1
  have x3 : X.1 1 3 = nI (pW P) := hX.2.1
  have m1 : M.1 1 1 = nI (pW P) := hM.2.1
  by_cases hw : pW P < 5
  · obtain ⟨X1, r1, r2, r3, r4⟩ := q_reads hV hX
    obtain ⟨a, M', M0, g1, g2, g3, g4, g5, g7⟩ := q_woodM hV hM hw
    have fin : ∀ (P' : PS) (X' : aSt), PV P' → RX 1 P' X' → RM P' (M'.1 1) → (∀ k, (22 ≤ k ∧ k < 29 ∨ 29 ≤ k) → k ≥ 29 → X'.1 k = X.1 k) → X'.2 34 = X.2 34 → M'.1 2 = M.1 2 → M'.1 8 = M.1 8 → (∀ j, (j < 4 ∨ 9 ≤ j) → M'.1 0 j = M.1 0 j) → Rel K X' M' := fun P' X' hV' hX' hM' k1 k2 k3 k4 k5 => by
      refine ⟨⟨P', hV', hX', hM'⟩, ⟨n, hn, by rw [k1 30 (by omega) (by omega)]; exact b1, by rw [k5 27 (by omega)]; exact b2, fun i q1 q2 => by rw [k1 31 (by omega) (by omega), k4]; exact b3 i q1 q2⟩, ?_⟩
      rcases hK with ⟨e, h⟩ | ⟨e, h, Q, hVQ, hQ, hMQ⟩
      · exact Or.inl ⟨e, by rw [k5 3 (by omega)]; exact h⟩
      · exact Or.inr ⟨e, by rw [k5 3 (by omega)]; exact h, Q, hVQ, RX_congr hVQ (fun k q1 q2 => k1 k (by omega) (by omega)) k2 hQ, by rw [k3]; exact hMQ⟩
    unfold f_X6_wood
    rw [x3, if_pos (show nI (pW P) < (5 : Int32) from nI_lt (b := 5) hw (by omega)), r1, aB_some, aLt_eq, aUi_row (show 22 ≠ 1 by omega), r2]
    have hP0 : PV ((pN P, pW P, pB P, 0, pO P), P.2) := ⟨hV.1, hV.2.1, hV.2.2.1, Nat.zero_le _, hV.2.2.2.2.1, fun i hi => absurd hi (Nat.not_lt_zero i), hV.2.2.2.2.2.2⟩
    have hX1 : RX 1 ((pN P, pW P, pB P, 0, pO P), P.2) (aUi X1 1 2 0) := by
      refine RX_hd hV hX (fun k h1 h2 => by rw [aUi_row (by omega), r4.1 k (by omega)]) (by show X1.2 1 = X.2 1; rw [r4.2]) rfl rfl ?_ ?_ ?_ aUi_at ?_ (fun i hi => absurd hi (Nat.not_lt_zero i)) ?_ ?_
      · rw [aUi_ne (by omega), r4.1 1 (by omega)]; exact hX.1
      · rw [aUi_ne (by omega), r4.1 1 (by omega)]; exact hX.2.1
      · rw [aUi_ne (by omega), r4.1 1 (by omega)]; exact hX.2.2.1
      · rw [aUi_ne (by omega), r4.1 1 (by omega)]; exact hX.2.2.2.2.1
      · rw [aUi_row (by omega), r4.1 2 (by omega)]; exact hX.2.2.2.2.2.2.1
      · rw [aUi_row (by omega), r4.1 3 (by omega)]; exact hX.2.2.2.2.2.2.2.1
    cases hk : (pRd (pTape P) (pG P)).1 with
    | false =>
      rw [if_pos (show bI false = 0 from rfl)]
      obtain ⟨y1, y2⟩ := g7.2 hk
      refine ⟨_, _, M', rfl, by rw [g1, y1], fin _ _ hP0 hX1 ?_ (fun k _ h2 => by rw [aUi_row (by omega), r4.1 k (by omega)]) (by show X1.2 34 = X.2 34; rw [r4.2]) ((y2.1 2 (by omega) (by omega)).trans (g2 2 (by omega) (by omega))) ((y2.1 8 (by omega) (by omega)).trans (g2 8 (by omega) (by omega))) (fun j hj => (y2.2.2.1 j (by omega) (by omega) (by omega)).trans (g3 j hj))⟩
      have row : ∀ q, q ≠ 3 → q ≠ 200 + pW P → q ≠ 205 + pW P → q ≠ 274 + pW P → (q < 279 + 140 * pW P ∨ 419 + 140 * pW P ≤ q) → M'.1 1 q = M.1 1 q := fun q h1 h2 h3 h4 h5 => (y2.2.2.2 q h2 h3 h4 h5).trans (g5 q h1 h2 h3 h4)
      refine RM_wd hV hw hM rfl rfl rfl rfl rfl rfl rfl ?_ ?_ ?_ (fun q _ h1 _ h2 h3 h4 h5 => row q h1 h2 h3 h4 h5)
      · rw [row 1 (by omega) (by omega) (by omega) (by omega) (by omega)]; exact m1
      · rw [y2.2.2.2 3 (by omega) (by omega) (by omega) (by omega)]; exact g4
      · have hz : RMW (pW P) (pWd P) (M'.1 1) := RMW_wd (h' := 0) hw (W_of hV) (RMW_of hM) (fun q _ h1 h2 h3 h4 h5 => row q h1 h2 h3 h4 h5)
        exact hz
    | true =>
      rw [if_neg (show ¬ bI true = 0 by decide)]
      obtain ⟨y1, M1, y2, y3, y4⟩ := g7.1 hk
      have hin := pRs_in (tp := pTape P) (en := pG P) 9 0 W0 (Nat.zero_le _) WI0 (by decide) hk
      have hok : wdOk (pRd (pTape P) (pG P)).2.2 := ⟨hin.1.1, hin.1.2.1, hin.2, Nat.le_trans hin.1.2.2.1 hg, hin.1.2.2.2⟩
      obtain ⟨X3, c1, c2, c3, c4, c5, c6⟩ := q_copyW (c := 1 + 3) (d := 23) (S := aUi X1 1 2 0) (by omega)
      have hRW : RXW 23 (pRd (pTape P) (pG P)).2.2 (aUi X1 1 2 0) := RXW_congr (fun k h1 h2 => by rw [aUi_row (by omega)]) (r3 hk)
      have hRW4 : RXW 4 (pRd (pTape P) (pG P)).2.2 X3 := RXW_copy (c := 4) (d := 23) hok hRW c4 c5 c6
      have x13 : X3.1 1 3 = nI (pW P) := by rw [c3 1 (by omega)]; exact hX1.2.1
      rw [c1, aB_some, aLt_eq, x13, nI_1, aUi_at, show nI (pW P + 1) - 1 = nI (pW P) from nI_pred (pW P)]
      refine ⟨_, _, M', rfl, by rw [g1, y1], fin ((pN P, pW P + 1, pB P, 0, pO P), P.2.1, P.2.2.1, P.2.2.2.1, P.2.2.2.2.1, (pRd (pTape P) (pG P)).2.2) _ ?_ ?_ ?_ (fun k _ h2 => by rw [aUi_row (by omega), c3 k (by omega), aUi_row (by omega), r4.1 k (by omega)]) (by show X3.2 34 = X.2 34; rw [c2]; show X1.2 34 = X.2 34; rw [r4.2]) ?_ ?_ (fun j hj => ?_)⟩
      · exact ⟨hV.1, hw, hV.2.2.1, Nat.zero_le _, hV.2.2.2.2.1, fun i hi => absurd hi (Nat.not_lt_zero i), hV.2.2.2.2.2.2.1, hV.2.2.2.2.2.2.2.1, hV.2.2.2.2.2.2.2.2.1, hok⟩
      · obtain ⟨a1, a2, a3, a4, a5, a6, a7, a8, a9, a10, a11⟩ := hX1
        have row : ∀ k, (k = 2 ∨ k = 3 ∨ 9 ≤ k) → (aUi X3 1 3 (nI (pW P + 1))).1 k = (aUi X1 1 2 0).1 k := fun k hk => by rw [aUi_row (by omega), c3 k (by omega)]
        have r11 : ∀ j, j ≠ 3 → (aUi X3 1 3 (nI (pW P + 1))).1 1 j = (aUi X1 1 2 0).1 1 j := fun j hj => by rw [aUi_ne hj, c3 1 (by omega)]
        refine ⟨by rw [r11 4 (by omega)]; exact a1, aUi_at, by rw [r11 5 (by omega)]; exact a3, by rw [r11 2 (by omega)]; exact a4, by rw [r11 1 (by omega)]; exact a5, fun i hi => absurd hi (Nat.not_lt_zero i), by rw [row (1 + 1) (by omega)]; exact a7, by rw [row (1 + 2) (by omega)]; exact a8, by show X3.2 1 0 = _; rw [c2]; exact a9, fun i hi => ?_, RXW_congr (fun k h1 h2 => aUi_row (by omega)) hRW4⟩
        have hi : i < pN P := hi
        rw [row (1 + 9 + 2 * i) (by omega), row (1 + 9 + 2 * i + 1) (by omega)]
        exact a10 i hi
      · subst y4
        have row1 : ∀ q, q ≠ 3 → q ≠ 200 + pW P → q ≠ 205 + pW P → q ≠ 274 + pW P → (q < 279 + 140 * pW P ∨ 419 + 140 * pW P ≤ q) → M1.1 1 q = M.1 1 q := fun q h1 h2 h3 h4 h5 => (y2.2.2.2 q h2 h3 h4 h5).trans (g5 q h1 h2 h3 h4)
        refine RM_wd hV hw hM rfl rfl rfl rfl rfl rfl rfl ?_ ?_ ?_ (fun q h0 h1 h9 h2 h3 h4 h5 => by rw [aUi_ne h9, aUi_ne h0]; exact row1 q h1 h2 h3 h4 h5)
        · rw [aUi_ne (by omega), aUi_at, row1 1 (by omega) (by omega) (by omega) (by omega) (by omega), m1, nI_1]
          rfl
        · rw [aUi_ne (by omega), aUi_ne (by omega), y2.2.2.2 3 (by omega) (by omega) (by omega) (by omega)]; exact g4
        · refine Or.inr ⟨pW P, Nat.lt_succ_self _, aUi_at, ?_, ?_, ?_, fun i hi => ?_⟩
          · rw [aUi_ne (by omega), aUi_ne (by omega)]; exact y3.2.1
          · rw [aUi_ne (by omega), aUi_ne (by omega)]; exact y3.2.2
          · rw [aUi_ne (by omega), aUi_ne (by omega)]; exact y3.1.2.2.2.2.2.2.1
          · rw [aUi_ne (by omega), aUi_ne (by omega)]; exact y3.1.2.2.2.2.2.2.2 i hi
      · subst y4
        rw [aUi_row (by omega), aUi_row (by omega)]; exact (y2.1 2 (by omega) (by omega)).trans (g2 2 (by omega) (by omega))
      · subst y4
        rw [aUi_row (by omega), aUi_row (by omega)]; exact (y2.1 8 (by omega) (by omega)).trans (g2 8 (by omega) (by omega))
      · subst y4
        rw [aUi_row (by omega), aUi_row (by omega)]; exact (y2.2.2.1 j (by omega) (by omega) (by omega)).trans (g3 j hj)
  · have e5 : pW P = 5 := by omega
    unfold f_X6_wood f_X7_wood
    rw [x3, m1, e5, if_neg (show ¬ nI 5 < (5 : Int32) by decide), if_pos (show nI 5 = (5 : Int32) from rfl)]
    exact ⟨_, X, M, rfl, rfl, hR⟩

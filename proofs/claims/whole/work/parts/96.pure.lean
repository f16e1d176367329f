/-! PURE PART: the class reads a WOOD -/
theorem q_clX {tp : Nat → Nat} {en p : Nat} {W : PW} {X : aSt} (hT : TP tp en) (hp : p ≤ en) (h : XS tp en p (flW W) X) (hH : XH W X) (hW : WI p W) (hl : W.2.2.length < 10) : ∃ X', f_X3_clause X = some (bI (pCl tp en p).1, X') ∧ X'.1 22 2 = nI en ∧ X'.1 22 3 = nI (pCl tp en p).2.1 ∧ ((pCl tp en p).1 = true → XS tp en (pCl tp en p).2.1 (flW (adR W (pCl tp en p))) X' ∧ XH (adR W (pCl tp en p)) X') ∧ FY X X' := by
  have h100 := hT.1
  have hfl : (flW W).length ≤ p := by
    have := hW.2.2.1
    unfold flW
    rw [fl_len]
    omega
  obtain ⟨X1, a1, a2, a3⟩ := q_wordX hT hp h
  obtain ⟨w1, w2, w3⟩ := pWrd_in (tp := tp) hp
  unfold f_X3_clause pCl
  rw [a1, aB_some]
  cases hw : (pWrd tp en p).1 with
  | none =>
    rw [if_pos (show o1 none = -1 from rfl)]
    exact ⟨X1, rfl, a2.1, a2.2.1, (fun k => by cases k), FY.fx a3⟩
  | some w =>
    obtain ⟨v1, v2⟩ := w3 w hw
    rw [if_neg (o1_ne (by omega)), show o1 (some w) = nI w from rfl]
    dsimp only
    by_cases c : chO tp en (pWrd tp en p).2 = some 32
    · have hlt := (chO_lt c).1
      have t1 : f_X3_takes 32 X1 = _ := q_tk1 (c := 32) hT w2 (by omega) a2 c
      have a4 : XS tp en ((pWrd tp en p).2 + 1) (flW W) (aUi X1 22 3 (nI ((pWrd tp en p).2 + 1))) := XS_at a2
      have a5 := a3.tr (FX.at X1 (nI ((pWrd tp en p).2 + 1)))
      rw [t1, aB_some, if_neg (show ¬ (1 : Int32) = 0 by decide), if_pos c]
      generalize hq : (pWrd tp en p).2 + 1 = q at a4 a5 ⊢
      have hqe : q ≤ en := by omega
      obtain ⟨X2, b1, b2, b3⟩ := q_num hT hqe a4
      obtain ⟨n1, n2, n3⟩ := pNum_in (tp := tp) hqe
      rw [b1, aB_some]
      unfold pC2
      cases hn : (pNum tp en q).1 with
      | none =>
        rw [if_pos (show o1 none = -1 from rfl)]
        exact ⟨X2, rfl, b2.1, b2.2.1, (fun k => by cases k), FY.fx (a5.tr b3)⟩
      | some n =>
        obtain ⟨m1, m2⟩ := n3 n hn
        rw [if_neg (o1_ne (by omega)), show o1 (some n) = nI n from rfl]
        dsimp only
        have b4 := a5.tr b3
        have hH2 := XH_FX b4 hH
        unfold pC3
        by_cases e3 : w = 3
        · rw [if_pos (show nI w = (3 : Int32) by rw [e3]; rfl), if_pos e3, aLt_eq]
          refine ⟨_, rfl, ?_, ?_, fun _ => ?_, (FY.fx b4).tr (FY.up X2 2 (nI n) (by omega))⟩
          · rw [aUi_row (by omega)]; exact b2.1
          · rw [aUi_row (by omega)]; exact b2.2.1
          · unfold adR adC
            rw [if_pos e3]
            obtain ⟨g0, g2, g3, g4, g5⟩ := hH2
            exact ⟨XS_23 (by omega) b2, by rw [aUi_ne (by omega)]; exact g0, aUi_at, by rw [aUi_ne (by omega)]; exact g3, fun i hi => by rw [aUi_row (by omega), aUi_row (by omega)]; exact g4 i hi, fun i hi => by rw [aUi_row (by omega)]; exact g5 i hi⟩
        · rw [if_neg (show ¬ nI w = (3 : Int32) from fun k => e3 ((nI_eq (b := 3) (by omega) (by omega)).mp k)), if_neg e3]
          by_cases e4 : w = 4
          · rw [if_pos (show nI w = (4 : Int32) by rw [e4]; rfl), if_pos e4, aLt_eq]
            refine ⟨_, rfl, ?_, ?_, fun _ => ?_, (FY.fx b4).tr (FY.up X2 3 (nI n) (by omega))⟩
            · rw [aUi_row (by omega)]; exact b2.1
            · rw [aUi_row (by omega)]; exact b2.2.1
            · unfold adR adC
              rw [if_neg e3, if_pos e4]
              obtain ⟨g0, g2, g3, g4, g5⟩ := hH2
              exact ⟨XS_23 (by omega) b2, by rw [aUi_ne (by omega)]; exact g0, by rw [aUi_ne (by omega)]; exact g2, aUi_at, fun i hi => by rw [aUi_row (by omega), aUi_row (by omega)]; exact g4 i hi, fun i hi => by rw [aUi_row (by omega)]; exact g5 i hi⟩
          · rw [if_neg (show ¬ nI w = (4 : Int32) from fun k => e4 ((nI_eq (b := 4) (by omega) (by omega)).mp k)), if_neg e4]
            by_cases c2 : chO tp en (pNum tp en q).2 = some 32
            · have hlt2 := (chO_lt c2).1
              have t2 : f_X3_takes 32 X2 = _ := q_tk1 (c := 32) hT n2 (by omega) b2 c2
              have b5 : XS tp en ((pNum tp en q).2 + 1) (flW W) (aUi X2 22 3 (nI ((pNum tp en q).2 + 1))) := XS_at b2
              have b6 := b4.tr (FX.at X2 (nI ((pNum tp en q).2 + 1)))
              rw [t2, aB_some, if_neg (show ¬ (1 : Int32) = 0 by decide), if_pos c2]
              obtain ⟨X3, d1, d2, d3⟩ := q_EX hT ((pNum tp en q).2 + 1) (flW W) _ hlt2 (by omega) b5
              rw [d1, aB_some]
              cases hk : (pE tp en ((pNum tp en q).2 + 1)).1 with
              | false =>
                rw [if_pos (show bI false = 0 from rfl)]
                exact ⟨X3, rfl, d2.1, d2.2.1, (fun k => by cases k), FY.fx (b6.tr d3)⟩
              | true =>
                rw [if_neg (show ¬ bI true = 0 by decide)]
                obtain ⟨X4, k1, k2, k3, k4⟩ := q_close (w := w) (n := n) hl d2 (XH_FX (b6.tr d3) hH)
                rw [k1, aB_some]
                refine ⟨X4, rfl, k2.1, k2.2.1, fun _ => ?_, (FY.fx (b6.tr d3)).tr k4⟩
                unfold adR adC
                rw [if_neg e3, if_neg e4]
                refine ⟨?_, k3⟩
                show XS tp en _ ((W.2.2 ++ [(w, n, (pE tp en ((pNum tp en q).2 + 1)).2.2)]).flatMap (fun c => c.2.2)) X4
                rw [List.flatMap_append, List.flatMap_cons, List.flatMap_nil, List.append_nil]
                exact k2
            · have t2 : f_X3_takes 32 X2 = _ := q_tk0 (c := 32) hT n2 (by omega) b2 c2
              rw [t2, aB_some, if_pos rfl, if_neg c2]
              exact ⟨X2, rfl, b2.1, b2.2.1, (fun k => by cases k), FY.fx b4⟩
    · have t1 : f_X3_takes 32 X1 = _ := q_tk0 (c := 32) hT w2 (by omega) a2 c
      rw [t1, aB_some, if_pos rfl, if_neg c]
      exact ⟨X1, rfl, a2.1, a2.2.1, (fun k => by cases k), FY.fx a3⟩
theorem q_rdX {tp : Nat → Nat} {en : Nat} (hT : TP tp en) : ∀ (r l n p : Nat) (W : PW) (X : aSt), l + r = 9 → r < n → p ≤ en → XS tp en p (flW W) X → XH W X → WI p W → W.2.2.length + r + 1 ≤ 10 → ∃ X', f_X3_reads_52 (fun l3 S => f_X3_reads_31 n l3 S) (nI l) X = some (bI (pRs tp en r p W).1, X') ∧ X'.1 22 3 = nI (pRs tp en r p W).2.1 ∧ ((pRs tp en r p W).1 = true → XS tp en (pRs tp en r p W).2.1 (flW (pRs tp en r p W).2.2) X' ∧ XH (pRs tp en r p W).2.2 X') ∧ FY X X' := by
  have h100 := hT.1
  intro r
  induction r with
  | zero =>
    intro l n p W X h1 h2 hp h hH hW hl
    obtain ⟨n, rfl⟩ : ∃ m, n = m + 1 := ⟨n - 1, by omega⟩
    obtain ⟨X1, a1, a2, a3, a4, a5⟩ := q_clX hT hp h hH hW (by omega)
    have hc := pCl_in (tp := tp) hp
    unfold f_X3_reads_52 pRs
    rw [a1, aB_some]
    by_cases k : (pCl tp en p).1 = true
    · rw [k, if_neg (show ¬ bI true = 0 by decide), if_pos rfl, a2, a3]
      by_cases e : (pCl tp en p).2.1 = en
      · rw [if_pos (congrArg nI e), if_pos e]
        exact ⟨X1, rfl, a3, fun _ => a4 k, a5⟩
      · rw [if_neg (fun q => e ((nI_eq (by have := hc.2.1; omega) (by omega)).mp q)), if_neg e, aLt_eq, nI_1]
        dsimp only
        rw [f_X3_reads_31, if_pos (show (10 : Int32) ≤ nI (l + 1) from nI_le (a := 10) (by omega) (by omega))]
        exact ⟨X1, rfl, a3, (fun q => by cases q), a5⟩
    · have k2 : (pCl tp en p).1 = false := by simpa using k
      rw [k2, if_pos (show bI false = 0 from rfl), if_neg (by decide)]
      exact ⟨X1, rfl, a3, (fun q => by cases q), a5⟩
  | succ r ih =>
    intro l n p W X h1 h2 hp h hH hW hl
    obtain ⟨n, rfl⟩ : ∃ m, n = m + 1 := ⟨n - 1, by omega⟩
    obtain ⟨X1, a1, a2, a3, a4, a5⟩ := q_clX hT hp h hH hW (by omega)
    have hc := pCl_in (tp := tp) hp
    unfold f_X3_reads_52 pRs
    rw [a1, aB_some]
    by_cases k : (pCl tp en p).1 = true
    · obtain ⟨b1, b2⟩ := WI_ad hW hc k
      obtain ⟨x1, x2⟩ := a4 k
      rw [k, if_neg (show ¬ bI true = 0 by decide), if_pos rfl, a2, a3]
      by_cases e : (pCl tp en p).2.1 = en
      · rw [if_pos (congrArg nI e), if_pos e]
        exact ⟨X1, rfl, a3, fun _ => a4 k, a5⟩
      · rw [if_neg (fun q => e ((nI_eq (by have := hc.2.1; omega) (by omega)).mp q)), if_neg e, aLt_eq, nI_1]
        dsimp only
        rw [f_X3_reads_31, if_neg (show ¬ (10 : Int32) ≤ nI (l + 1) from nI_ge (b := 10) (by omega) (by omega)), if_neg (nI_nle (by omega) (by omega))]
        by_cases c : chO tp en (pCl tp en p).2.1 = some 59
        · have hlt := (chO_lt c).1
          have t1 : f_X3_takes 59 X1 = _ := q_tk1 (c := 59) hT hc.2.1 (by omega) x1 c
          rw [t1, aB_some, if_neg (show ¬ (1 : Int32) = 0 by decide), if_pos c]
          obtain ⟨X', g1, g2, g3, g4⟩ := ih (l + 1) n ((pCl tp en p).2.1 + 1) (adR W (pCl tp en p)) (aUi X1 22 3 (nI ((pCl tp en p).2.1 + 1))) (by omega) (by omega) hlt (XS_at x1) (XH_FX (FX.at X1 _) x2) (WI_mono b1 (by omega)) (by omega)
          exact ⟨X', g1, g2, g3, (a5.tr (FY.fx (FX.at X1 _))).tr g4⟩
        · have t1 : f_X3_takes 59 X1 = _ := q_tk0 (c := 59) hT hc.2.1 (by omega) x1 c
          rw [t1, aB_some, if_pos rfl, if_neg c]
          exact ⟨X1, rfl, a3, (fun q => by cases q), a5⟩
    · have k2 : (pCl tp en p).1 = false := by simpa using k
      rw [k2, if_pos (show bI false = 0 from rfl), if_neg (by decide)]
      exact ⟨X1, rfl, a3, (fun q => by cases q), a5⟩
def W0 : PW := (3, 2, [])
theorem WI0 : WI 0 W0 := ⟨by decide, by decide, by decide, fun c h => absurd h List.not_mem_nil⟩
/-- what a TAPE says -/
def pRd (tp : Nat → Nat) (en : Nat) : Bool × Nat × PW := pRs tp en 9 0 W0
theorem q_reads {P : PS} {X : aSt} (hV : PV P) (hX : RX 1 P X) : ∃ X', f_X3_reads (1 + 1) (X.1 1 2) X = some (bI (pRd (pTape P) (pG P)).1, X') ∧ X'.1 22 3 = nI (pRd (pTape P) (pG P)).2.1 ∧ ((pRd (pTape P) (pG P)).1 = true → RXW 23 (pRd (pTape P) (pG P)).2.2 X') ∧ FY X X' := by
  have hg := hV.2.2.2.1
  have hT : TP (pTape P) (pG P) := ⟨hg, hV.2.2.2.2.2.1⟩
  have x2 : X.1 1 2 = nI (pG P) := hX.2.2.2.1
  have t6 := hX.2.2.2.2.2.1
  unfold f_X3_reads f_X5_clear
  rw [if_pos (show aFit (X.1 (1 + 1)) 100 = true from hX.2.2.2.2.2.2.1), x2]
  simp only [aLt_eq, aB_some]
  generalize hX5 : aUi (aUi (aUi (aUi (aUi (aUi (aCp X (1 + 1) 28 100) 22 2 (nI (pG P))) 22 3 0) 23 0 0) 23 1 0) 23 2 3) 23 3 2 = X5
  have hXS : XS (pTape P) (pG P) 0 (flW W0) X5 := by
    subst hX5
    refine ⟨?_, ?_, fun j hj => ?_, ?_, fun j hj => absurd hj (by show ¬ j < 0; omega)⟩
    · rw [aUi_row (by omega), aUi_row (by omega), aUi_row (by omega), aUi_row (by omega), aUi_ne (by omega), aUi_at]
    · rw [aUi_row (by omega), aUi_row (by omega), aUi_row (by omega), aUi_row (by omega), aUi_at]; rfl
    · rw [aUi_row (by omega), aUi_row (by omega), aUi_row (by omega), aUi_row (by omega), aUi_row (by omega), aUi_row (by omega), aCp_at (by omega)]
      exact t6 j hj
    · rw [aUi_ne (by omega), aUi_ne (by omega), aUi_at]; rfl
  have hXH : XH W0 X5 := by
    subst hX5
    refine ⟨?_, ?_, aUi_at, fun j hj => absurd hj (by show ¬ j < 0; omega), fun j hj => absurd hj (by show ¬ j < 0; omega)⟩
    · rw [aUi_ne (by omega), aUi_ne (by omega), aUi_ne (by omega), aUi_at]; rfl
    · rw [aUi_ne (by omega), aUi_at]; rfl
  have hFY : FY X X5 := by
    subst hX5
    refine ⟨fun k hk => ?_, rfl⟩
    rw [aUi_row (by omega), aUi_row (by omega), aUi_row (by omega), aUi_row (by omega), aUi_row (by omega), aUi_row (by omega), aCp_ne (by omega)]
  clear hX5
  obtain ⟨n, hn⟩ := aF_s 20 (by omega)
  obtain ⟨X', g1, g2, g3, g4⟩ := q_rdX hT 9 0 (n + 19) 0 W0 X5 (by omega) (by omega) (by omega) hXS hXH WI0 (by decide)
  refine ⟨X', ?_, g2, fun k => ?_, hFY.tr g4⟩
  · rw [hn, f_X3_reads_31, if_neg (show ¬ (10 : Int32) ≤ 0 by decide), if_pos (Int32.le_refl _)]
    exact g1
  · obtain ⟨y1, y2⟩ := g3 k
    exact ⟨y2.1, y2.2.1, y2.2.2.1, y2.2.2.2.1, y2.2.2.2.2, y1.2.2.2.2⟩

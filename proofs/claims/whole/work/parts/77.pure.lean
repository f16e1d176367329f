/-! PURE PART: a TREE's run, in the class and in the reference -/
def sbT (st : Nat → Nat) : Nat → Nat
  | 0 => 0
  | n + 1 => sbT st n ||| (if st n = 0 then 0 else 2 ^ n)
theorem sbT_lt (st : Nat → Nat) : ∀ n, sbT st n < 2 ^ n
  | 0 => Nat.zero_lt_one
  | n + 1 => by
    have h := sbT_lt st n
    have h2 : 2 ^ n < 2 ^ (n + 1) := Nat.pow_lt_pow_right (by omega) (by omega)
    refine Nat.or_lt_two_pow (Nat.lt_trans h h2) ?_
    split
    · exact Nat.lt_of_le_of_lt (Nat.zero_le _) h2
    · exact h2
theorem sbT_bit (st : Nat → Nat) (t : Nat) : ∀ n, (sbT st n).testBit t = decide (t < n ∧ st t ≠ 0)
  | 0 => by
    rw [show sbT st 0 = 0 from rfl, Nat.zero_testBit, decide_eq_false (fun h => absurd h.1 (by omega))]
  | n + 1 => by
    rw [show sbT st (n + 1) = (sbT st n ||| (if st n = 0 then 0 else 2 ^ n)) from rfl, Nat.testBit_or, sbT_bit st t n]
    by_cases h : t = n
    · subst h
      rw [decide_eq_false (fun h => absurd h.1 (by omega)), Bool.false_or]
      by_cases h0 : st t = 0
      · rw [if_pos h0, Nat.zero_testBit, decide_eq_false (fun h => h.2 h0)]
      · rw [if_neg h0, Nat.testBit_two_pow_self, decide_eq_true ⟨by omega, h0⟩]
    · have e : (if st n = 0 then 0 else 2 ^ n).testBit t = false := by
        split
        · exact Nat.zero_testBit t
        · exact Nat.testBit_two_pow_of_ne (fun e => h e.symm)
      rw [e, Bool.or_false]
      by_cases c : t < n ∧ st t ≠ 0
      · rw [decide_eq_true c, decide_eq_true ⟨by omega, c.2⟩]
      · rw [decide_eq_false c, decide_eq_false (fun d => c ⟨by omega, d.2⟩)]
theorem q_stT4 {N : Nat} {st : Nat → Nat} {X : aSt} (hN6 : N ≤ 6) (hN : X.1 1 4 = nI N) (hs : ∀ t, t < N → X.1 (1 + 9 + 2 * t) 8 = nI (st t) ∧ st t ≤ 1) : ∀ e t n, t + e = N → e < n → f_X2_standingTrees_4 n 1 (nI (sbT st t)) (nI t) X = some (nI (sbT st N), X) := by
  intro e
  induction e with
  | zero =>
    intro t n h1 h2
    obtain ⟨n, rfl⟩ : ∃ m, n = m + 1 := ⟨n - 1, by omega⟩
    have ht : t = N := by omega
    subst ht
    rw [f_X2_standingTrees_4, hN, if_pos (Int32.le_refl _)]
  | succ e ih =>
    intro t n h1 h2
    obtain ⟨n, rfl⟩ : ∃ m, n = m + 1 := ⟨n - 1, by omega⟩
    have ht : t < N := by omega
    obtain ⟨x8, l8⟩ := hs t ht
    rw [f_X2_standingTrees_4, hN, if_neg (nI_ge ht (by omega)), if_neg (q_chk (by omega) (by omega)), nI_clamp (by omega), x8, q_bit (by omega), aB_some]
    unfold f_X2_standingTrees_33
    rw [aLt_eq, aLt_eq, aLt_eq, aLt_eq, nI_1]
    dsimp only
    have := ih (t + 1) n (by omega) (by omega)
    by_cases h0 : st t = 0
    · rw [if_pos (show nI (st t) = 0 by rw [h0]; rfl), show (0 : Int32) = nI 0 from rfl, nx_or]
      rw [show sbT st (t + 1) = sbT st t ||| 0 by show (sbT st t ||| if st t = 0 then 0 else 2 ^ t) = _; rw [if_pos h0]] at this
      exact this
    · rw [if_neg (nI_ne0 (by omega) (by omega)), nx_or]
      rw [show sbT st (t + 1) = sbT st t ||| 2 ^ t by show (sbT st t ||| if st t = 0 then 0 else 2 ^ t) = _; rw [if_neg h0]] at this
      exact this
def plP (P : PS) (t : Nat) : Nat := pT P t 2
def stP (P : PS) (t : Nat) : Nat := pT P t 7
def sbP (P : PS) : Nat := sbT (stP P) (pN P)
theorem sbP_lt {P : PS} (hV : PV P) : sbP P < 64 := Nat.lt_of_lt_of_le (sbT_lt (stP P) (pN P)) (Nat.pow_le_pow_right (n := 2) (by omega) hV.1)
theorem q_standing {P : PS} {X : aSt} (hV : PV P) (hX : RX 1 P X) : f_X2_standingTrees 1 X = some (nI (sbP P), X) :=
  q_stT4 hV.1 hX.1 (fun t ht => ⟨(hX.2.2.2.2.2.2.2.2.2.1 t ht).2.1 7 (by omega), (hV.2.2.2.2.2.2.2.1 t ht).1 7 (by omega)⟩) (pN P) 0 aF (by omega) (by have := aF_big; have := hV.1; omega)
theorem VX_of {P : PS} {X : aSt} (hV : PV P) (hX : RX 1 P X) : VX (pN P) (plP P) X := ⟨hX.1, fun t ht => ⟨(hX.2.2.2.2.2.2.2.2.2.1 t ht).2.1 2 (by omega), Nat.lt_succ_of_le ((hV.2.2.2.2.2.2.2.1 t ht).1 2 (by omega))⟩⟩
theorem VM_of {P : PS} {M : aSt} (hV : PV P) (hM : RM P (M.1 1)) : VM (pN P) (stP P) (plP P) M := ⟨hM.1, fun t ht => ⟨(hM.2.2.2.2.2.2.2.2.1 t ht).1 7 (by omega), (hV.2.2.2.2.2.2.2.1 t ht).1 7 (by omega), (hM.2.2.2.2.2.2.2.2.1 t ht).1 2 (by omega), Nat.lt_succ_of_le ((hV.2.2.2.2.2.2.2.1 t ht).1 2 (by omega))⟩⟩
theorem TX_of {P : PS} {X : aSt} {i : Nat} (hX : RX 1 P X) (hi : i < pN P) : TX (10 + 2 * i) i (pT P i) X := hX.2.2.2.2.2.2.2.2.2.1 i hi
theorem TM_of {P : PS} {M : aSt} {i : Nat} (hM : RM P (M.1 1)) (hi : i < pN P) : TM i (pT P i) (M.1 1) := hM.2.2.2.2.2.2.2.2.1 i hi
theorem TB_of {P : PS} {i : Nat} (hV : PV P) (hi : i < pN P) : TB (pT P i) := hV.2.2.2.2.2.2.2.1 i hi
theorem W_of {P : PS} (hV : PV P) : wdOk (pWd P) := hV.2.2.2.2.2.2.2.2.2
theorem RXW_of {P : PS} {X : aSt} (hX : RX 1 P X) : RXW 4 (pWd P) X := hX.2.2.2.2.2.2.2.2.2.2
theorem RMW_of {P : PS} {M : aSt} (hM : RM P (M.1 1)) : RMW (pW P) (pWd P) (M.1 1) := hM.2.2.2.2.2.2.2.2.2
theorem RX_RF {P : PS} {X X' : aSt} (hV : PV P) (h : RF X X') (hX : RX 1 P X) : RX 1 P X' := RX_congr hV (fun k h1 h2 => h.1 k (by omega)) (h.2 1 (by omega)) hX
theorem RM_NG {P : PS} {M M' : aSt} (h : NG M M') (hM : RM P (M.1 1)) : RM P (M'.1 1) := by rw [h.1 1 (by omega) (by omega) (by omega)]; exact hM
/-- what a TREE lies on and hangs on, among those of b -/
def lyB (P : PS) (b i : Nat) (g : Option Nat) : List Nat × Option Nat := lyL (ocA b.testBit (plP P) (pN P)) (wyN (gH (pWd P) i (pT P i) g) (gA (pWd P) i (pT P i) g) (pT P i 8)) (lyN (gH (pWd P) i (pT P i) g) (pT P i 3)) (np (pT P i 2) (wyN (gH (pWd P) i (pT P i) g) (gA (pWd P) i (pT P i) g) (pT P i 8)))
theorem gH_lt (W : PW) (i : Nat) (T : Nat → Nat) (g : Option Nat) : gH W i T g < 5 := hw_lt _ _ _ _
theorem q_layB {P : PS} {X : aSt} {i b : Nat} (g : Option Nat) (hV : PV P) (hX : RX 1 P X) (hi : i < pN P) (hb : b < 64) (hG : GX (pWd P) i (pT P i) g X) : ∃ X', f_X1_lay 1 (10 + 2 * i) (nI b) X = some ((), X') ∧ RF X X' ∧ GX (pWd P) i (pT P i) g X' ∧ X'.1 29 6 = oI (lyB P b i g).2 ∧ X'.2 29 7 = lN (bts (lyB P b i g).1) := by
  have hn := hV.1
  have hB := TB_of hV hi
  have b8 : pT P i 8 ≤ 7 := hB.1 8 (by omega)
  have b2 : pT P i 2 ≤ 63 := hB.1 2 (by omega)
  have b3 : pT P i 3 ≤ 7 := hB.1 3 (by omega)
  have hT := TX_of hX hi
  obtain ⟨X', e1, e2, e3, e4, e5⟩ := q_lay (c := 10 + 2 * i) (n := pT P i 8) (a := gA (pWd P) i (pT P i) g) hn hb (by omega) (show pT P i 2 < 64 by omega) hB.2 b3 (by omega) (VX_of hV hX) (hT.2.1 2 (by omega)) (hT.2.1 3 (by omega)) hG.2.2.2.2.1 (gH_lt _ _ _ _) hG.2.2.2.2.2
  exact ⟨X', e1, e2, ⟨(e3 0 (by omega)).trans hG.1, (e3 1 (by omega)).trans hG.2.1, (e3 2 (by omega)).trans hG.2.2.1, (e3 3 (by omega)).trans hG.2.2.2.1, (e3 4 (by omega)).trans hG.2.2.2.2.1, (e3 5 (by omega)).trans hG.2.2.2.2.2⟩, e4, e5⟩
theorem q_dec {P : PS} {X : aSt} {i : Nat} (g : Option Nat) (hV : PV P) (hX : RX 1 P X) (hi : i < pN P) (hg : ∀ w, g = some w → w < 8) : ∃ X', f_X1_decide (1 + 3) (10 + 2 * i) (gG g) X = some ((), X') ∧ RF X X' ∧ GX (pWd P) i (pT P i) g X' := by
  have hn := hV.1
  obtain ⟨X1, e1, e2, e3⟩ := q_decide g (TX_of hX hi) (by omega) (TB_of hV hi) (by omega) (by omega) (RXW_of hX) (W_of hV) hg
  exact ⟨X1, e1, RF.cf e2, e3⟩
theorem q_run {P : PS} {X : aSt} {i : Nat} (g : Option Nat) (hV : PV P) (hX : RX 1 P X) (hi : i < pN P) (hg : ∀ w, g = some w → w < 8) : ∃ X', f_X1_run 1 (10 + 2 * i) (gG g) X = some ((), X') ∧ RF X X' ∧ GX (pWd P) i (pT P i) g X' ∧ X'.1 29 6 = oI (lyB P (sbP P) i g).2 ∧ X'.2 29 7 = lN (bts (lyB P (sbP P) i g).1) := by
  obtain ⟨X1, e1, e2, e3⟩ := q_dec g hV hX hi hg
  have hX1 := RX_RF hV e2 hX
  obtain ⟨X2, j1, j2, j3, j4, j5⟩ := q_layB g hV hX1 hi (sbP_lt hV) e3
  unfold f_X1_run
  rw [e1, aB_some, q_standing hV hX1, aB_some, j1, aB_some]
  exact ⟨X2, rfl, e2.tr j2, j3, j4, j5⟩
theorem ocG_congr2 {A A' : Nat → Bool} {pl : Nat → Nat} {p K : Nat} (h : ∀ t, t < K → ((A t = true ∧ pl t = p) ↔ (A' t = true ∧ pl t = p))) : ∀ e t, t + e ≤ K → ocG A pl p e t = ocG A' pl p e t
  | 0, _, _ => rfl
  | e + 1, t, hk => by
    unfold ocG
    rw [ocG_congr2 h e (t + 1) (by omega)]
    by_cases c : A t = true ∧ pl t = p
    · rw [if_pos c, if_pos ((h t (by omega)).mp c)]
    · rw [if_neg c, if_neg (fun d => c ((h t (by omega)).mpr d))]
theorem lyL_congr {oc oc' : Nat → Option Nat} {w p0 : Nat} (hw : w < 8) (h : ∀ p, p ≠ p0 → oc p = oc' p) : ∀ (n : Nat) (q : Option Nat), (∀ p, q = some p → p < 64 ∧ if 2 ≤ w ∧ w ≤ 5 then p0 < p else p < p0) → lyL oc w n q = lyL oc' w n q
  | 0, _, _ => rfl
  | n + 1, none, _ => rfl
  | n + 1, some p, hq => by
    obtain ⟨h1, h2⟩ := hq p rfl
    have hne : p ≠ p0 := by
      by_cases c : 2 ≤ w ∧ w ≤ 5
      · rw [if_pos c] at h2; omega
      · rw [if_neg c] at h2; omega
    have ih := lyL_congr hw h n (np p w) (fun x hx => by
      obtain ⟨g1, g2⟩ := np_in h1 hw hx
      refine ⟨g1, ?_⟩
      by_cases c : 2 ≤ w ∧ w ≤ 5
      · rw [if_pos c] at h2 g2 ⊢; omega
      · rw [if_neg c] at h2 g2 ⊢; omega)
    rw [lyL, lyL, ← h p hne, ih]
theorem ly_same {P : PS} {i w n : Nat} (hV : PV P) (hi : i < pN P) (hw : w < 8) : lyL (ocA (stA (stP P) (some i)) (plP P) (pN P)) w n (np (pT P i 2) w) = lyL (ocA (sbP P).testBit (plP P) (pN P)) w n (np (pT P i 2) w) := by
  have b2 : pT P i 2 ≤ 63 := (TB_of hV hi).1 2 (by omega)
  refine lyL_congr (p0 := pT P i 2) hw (fun p hp => ?_) n _ (fun p h => np_in (by omega) hw h)
  refine ocG_congr2 (K := pN P) (fun t ht => ?_) (pN P) 0 (by omega)
  have l7 : pT P t 7 ≤ 1 := (TB_of hV ht).1 7 (by omega)
  have hs : stP P t ≤ 1 := l7
  unfold stA sbP
  rw [sbT_bit]
  constructor
  · rintro ⟨h1, h2⟩
    have h1 : stP P t = 1 ∧ ¬ some i = some t := by simpa using h1
    exact ⟨decide_eq_true ⟨ht, by omega⟩, h2⟩
  · rintro ⟨h1, h2⟩
    have h1 : t < pN P ∧ stP P t ≠ 0 := of_decide_eq_true h1
    have h3 : ¬ some i = some t := fun e => by
      cases e
      exact hp h2.symm
    refine ⟨?_, h2⟩
    rw [decide_eq_true (show stP P t = 1 by omega), decide_eq_false h3]
    rfl
theorem q_gIn {P : PS} {M : aSt} {i : Nat} (g : Option Nat) (hV : PV P) (hM : RM P (M.1 1)) (hi : i < pN P) (hg : ∀ w, g = some w → w < 8) : ∃ M', f_X7_goesIn (nI i) (gG g) M = some ((), M') ∧ NF M M' ∧ GM (pWd P) i (pT P i) g M' := by
  have hn := hV.1
  exact q_goesIn g (by omega) (TB_of hV hi) (TM_of hM hi) hV.2.1 (RMW_of hM) (W_of hV) hg
theorem q_goesNow {P : PS} {M : aSt} {i : Nat} (g : Option Nat) (hV : PV P) (hM : RM P (M.1 1)) (hi : i < pN P) (hg : ∀ w, g = some w → w < 8) : ∃ M', f_X7_goesNow (nI i) (gG g) M = some ((), M') ∧ NG M M' ∧ GM (pWd P) i (pT P i) g M' ∧ M'.1 0 22 = oI (lyB P (sbP P) i g).2 ∧ M'.1 0 21 = nI (lyB P (sbP P) i g).1.length ∧ M'.2 0 20 = lN (bts (lyB P (sbP P) i g).1) := by
  have hn := hV.1
  have hB := TB_of hV hi
  have b8 : pT P i 8 ≤ 7 := hB.1 8 (by omega)
  have b2 : pT P i 2 ≤ 63 := hB.1 2 (by omega)
  have b3 : pT P i 3 ≤ 7 := hB.1 3 (by omega)
  obtain ⟨M1, e1, e2, hG⟩ := q_gIn g hV hM hi hg
  have hM1 := RM_NG (NG.nf e2) hM
  have hT := TM_of hM1 hi
  obtain ⟨M2, j1, j2, j3, j4, j5⟩ := q_lays (i := i) (n := pT P i 8) (a := gA (pWd P) i (pT P i) g) (pl := plP P) (st := stP P) hn (by omega) (by omega) (show pT P i 2 < 64 by omega) hB.2 b3 (VM_of hV hM1) (hT.1 2 (by omega)) (hT.1 3 (by omega)) hG.2.2.2.2.1 (gH_lt _ _ _ _) hG.2.2.2.2.2
  rw [ly_same hV hi (wyN_lt (by omega))] at j3 j4 j5
  unfold f_X7_goesNow
  rw [e1, aB_some, j1, aB_some]
  exact ⟨M2, rfl, (NG.nf e2).tr (NG.nh j2), ⟨(j2.2.1 14 (by omega) (by omega)).trans hG.1, (j2.2.1 15 (by omega) (by omega)).trans hG.2.1, (j2.2.1 16 (by omega) (by omega)).trans hG.2.2.1, (j2.2.1 17 (by omega) (by omega)).trans hG.2.2.2.1, (j2.2.1 18 (by omega) (by omega)).trans hG.2.2.2.2.1, (j2.2.1 19 (by omega) (by omega)).trans hG.2.2.2.2.2⟩, j3, j4, j5⟩

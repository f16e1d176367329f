/-! PURE PART: sure -/
/-- one of the places from p on, e of them -/
def sk (f : Nat → Bool) : Nat → Nat → Bool
  | 0, _ => false
  | e + 1, p => f p || sk f e (p + 1)
theorem sk_iff (f : Nat → Bool) : ∀ e p, sk f e p = true ↔ ∃ j, p ≤ j ∧ j < p + e ∧ f j = true
  | 0, p => by
    constructor
    · intro h
      have h : false = true := h
      cases h
    · rintro ⟨j, h1, h2, -⟩
      omega
  | e + 1, p => by
    show (f p || sk f e (p + 1)) = true ↔ _
    rw [Bool.or_eq_true, sk_iff f e (p + 1)]
    constructor
    · rintro (h | ⟨j, h1, h2, h3⟩)
      · exact ⟨p, by omega, by omega, h⟩
      · exact ⟨j, by omega, by omega, h3⟩
    · rintro ⟨j, h1, h2, h3⟩
      by_cases c : j = p
      · exact Or.inl (c ▸ h3)
      · exact Or.inr ⟨j, by omega, by omega, h3⟩
def stk (L : Nat) (th : Int64) (p : Nat) : Bool := L.testBit p && th.toBitVec.getLsbD p
theorem q_str4 {L : Nat} {th : Int64} {M : aSt} (hL : M.2 0 20 = lN L) (hs : ∀ p, p < 64 → M.1 1 (210 + p) = if th.toBitVec.getLsbD p then 1 else 0) : ∀ (e p n : Nat) (a : Bool), p + e = 64 → e < n → f_X7_doesStrike_4 n (bI a) (nI p) M = some (bI (a || sk (stk L th) e p), M) := by
  intro e
  induction e with
  | zero =>
    intro p n a h1 h2
    obtain ⟨n, rfl⟩ : ∃ m, n = m + 1 := ⟨n - 1, by omega⟩
    have hp : p = 64 := by omega
    subst hp
    rw [f_X7_doesStrike_4, if_pos (show (64 : Int32) ≤ nI 64 from Int32.le_refl _)]
    cases a <;> rfl
  | succ e ih =>
    intro p n a h1 h2
    obtain ⟨n, rfl⟩ : ∃ m, n = m + 1 := ⟨n - 1, by omega⟩
    have hp : p < 64 := by omega
    have go := fun a' => ih (p + 1) n a' (by omega) (by omega)
    rw [f_X7_doesStrike_4, if_neg (show ¬ (64 : Int32) ≤ nI p from nI_ge (b := 64) hp (by omega)), hL, sar_bit (lN L) hp, lN_bit hp, show (210 : Int32) + nI p = nI (210 + p) from nI_add 210 p, if_neg (q_chk (by omega) (by omega)), nI_clamp (by omega), hs p hp]
    unfold f_X7_doesStrike_41 f_X7_doesStrike_45 f_X7_doesStrike_46
    simp only [aLt_eq, nI_1]
    show _ = some (bI (a || ((L.testBit p && th.toBitVec.getLsbD p) || sk (stk L th) e (p + 1))), M)
    cases a with
    | true => exact (go true).trans (by simp)
    | false =>
      rw [if_pos (show bI false = 0 from rfl), Bool.false_or]
      cases L.testBit p with
      | false =>
        rw [if_neg (show ¬ lg_cmp (if false = true then (1 : Int64) else 0) 1 = 0 by decide), Bool.false_and]
        exact go false
      | true =>
        rw [if_pos (show lg_cmp (if true = true then (1 : Int64) else 0) 1 = 0 by decide), Bool.true_and]
        cases th.toBitVec.getLsbD p with
        | false => exact go false
        | true => exact (go true).trans (by simp)
theorem q_str {L : Nat} {th : Int64} {M : aSt} (hL : M.2 0 20 = lN L) (hs : ∀ p, p < 64 → M.1 1 (210 + p) = if th.toBitVec.getLsbD p then 1 else 0) : f_X7_doesStrike M = some (bI (sk (stk L th) 64 0), M) := by
  have := q_str4 hL hs 64 0 aF false (by omega) (by have := aF_big; omega)
  rw [Bool.false_or] at this
  exact this
theorem and0_iff {L : Nat} {th : Int64} : (lN L &&& th) = 0 ↔ sk (stk L th) 64 0 = false := by
  constructor
  · intro h
    rw [← Bool.not_eq_true, sk_iff]
    rintro ⟨j, h1, h2, h3⟩
    have hb := congrArg (fun z : Int64 => z.toBitVec.getLsbD j) h
    simp only [Int64.toBitVec_and, BitVec.getLsbD_and] at hb
    rw [lN_bit (by omega), show (L.testBit j && th.toBitVec.getLsbD j) = true from h3] at hb
    have : (0 : Int64).toBitVec.getLsbD j = false := by
      show (0#64 : BitVec 64).getLsbD j = false
      simp
    rw [this] at hb
    cases hb
  · intro h
    apply wb_inj
    apply BitVec.eq_of_getLsbD_eq
    intro j hj
    rw [Int64.toBitVec_and, BitVec.getLsbD_and, lN_bit hj]
    show stk L th j = (0#64 : BitVec 64).getLsbD j
    have h2 : stk L th j = false := by
      rw [← Bool.not_eq_true]
      intro c
      rw [← Bool.not_eq_true, sk_iff] at h
      exact h ⟨j, by omega, by omega, c⟩
    rw [h2]
    simp
theorem cd7_S : ∀ (n : Nat) (a b c : Int32) (S S0 : aSt), f_X6_commonDivisor_7 n a b c S = (f_X6_commonDivisor_7 n a b c S0).map (fun q => (q.1, S))
  | 0, _, _, _, _, _ => rfl
  | n + 1, a, b, c, S, S0 => by
    rw [f_X6_commonDivisor_7, f_X6_commonDivisor_7]
    unfold f_X6_commonDivisor_34
    by_cases h1 : (64 : Int32) ≤ c
    · rw [if_pos h1, if_pos h1]
      split <;> rfl
    · rw [if_neg h1, if_neg h1]
      by_cases h2 : b = 0
      · rw [if_pos h2, if_pos h2]
        split <;> rfl
      · rw [if_neg h2, if_neg h2, if_neg h2, if_neg h2]
        exact cd7_S n _ _ _ S S0
theorem dv4_S : ∀ (n : Nat) (a b : Int32) (S S0 : aSt), f_X7_divisor_4 n a b S = (f_X7_divisor_4 n a b S0).map (fun q => (q.1, S))
  | 0, _, _, _, _ => rfl
  | n + 1, a, b, S, S0 => by
    rw [f_X7_divisor_4, f_X7_divisor_4]
    by_cases h2 : b = 0
    · rw [if_pos h2, if_pos h2]; rfl
    · rw [if_neg h2, if_neg h2, if_neg h2, if_neg h2]
      exact dv4_S n _ _ S S0
theorem cd_t : ∀ s : Fin 81, (f_X6_commonDivisor 80 (nI s.1) z0).map Prod.fst = some (nI (Nat.gcd 80 s.1)) := by decide +kernel
theorem dv_t : ∀ s : Fin 81, (f_X7_divisor (nI s.1) 80 z0).map Prod.fst = some (nI (Nat.gcd 80 s.1)) := by decide +kernel
theorem q_cd {s : Nat} (hs : s < 81) (S : aSt) : f_X6_commonDivisor 80 (nI s) S = some (nI (Nat.gcd 80 s), S) := map_S (F := f_X6_commonDivisor 80 (nI s)) (fun S S0 => cd7_S _ _ _ _ S S0) (cd_t ⟨s, hs⟩) S
theorem q_dv {s : Nat} (hs : s < 81) (S : aSt) : f_X7_divisor (nI s) 80 S = some (nI (Nat.gcd 80 s), S) := map_S (F := f_X7_divisor (nI s) 80) (fun S S0 => dv4_S _ _ _ S S0) (dv_t ⟨s, hs⟩) S
def cnS (P : PS) (i : Nat) (what : Int32) (g : Option Nat) : Bool := if what = 0 then decide (gH (pWd P) i (pT P i) g = 0) else sk (stk (bts (lyB P (sbP P) i g).1) (pTh P)) 64 0
theorem q_sure1 {P : PS} (hV : PV P) {i : Nat} (hi : i < pN P) (what part : Int32) (g : Option Nat) (hg : ∀ w, g = some w → w < 8) (n n' s : Nat) (X M : aSt) (hX : RX 1 P X) (hM : RM P (M.1 1)) : ∃ s' X1 M1, s' ≤ s + wtP P g ∧ f_X6_sure_53 (n + 1) what part (10 + 2 * i) 80 (nI s) (gG g) X = f_X6_sure_53 n what part (10 + 2 * i) 80 (nI s') (nI (gN g)) X1 ∧ f_X7_sure_44 (n' + 1) (nI i) what part (nI s) (gG g) M = f_X7_sure_44 n' (nI i) what part (nI s') (nI (gN g)) M1 ∧ RF X X1 ∧ NG M M1 := by
  have hwt := wtP_le hV g
  obtain ⟨M1, m1, m2, m3, m4, m5, m6⟩ := q_goesNow g hV hM hi hg
  have hM1 := RM_NG m2 hM
  have hlt := gH_lt (pWd P) i (pT P i) g
  have ds := q_str m6 hM1.2.2.2.2.2.2.2.1
  have step7 : f_X7_sure_44 (n' + 1) (nI i) what part (nI s) (gG g) M = f_X7_sure_44 n' (nI i) what part (nI (s + if cnS P i what g then wtP P g else 0)) (nI (gN g)) M1 := by
    rw [f_X7_sure_44, if_neg (gG_8 hg), m1, aB_some, m3.2.2.2.2.1, ds, aB_some]
    unfold f_X7_sure_81 f_X7_sure_100
    simp only [aLt_eq, gG_1, q_wt7 g hV hM1 hg, aB_some]
    unfold cnS
    by_cases hw : what = 0
    · rw [if_pos hw, if_pos hw]
      by_cases h0 : gH (pWd P) i (pT P i) g = 0
      · rw [if_pos (show nI (gH (pWd P) i (pT P i) g) = 0 by rw [h0]; rfl), if_neg (show ¬ (1 : Int32) = 0 by decide), decide_eq_true h0, if_pos rfl, nI_add]
      · rw [if_neg (nI_ne0 (by omega) (by omega)), if_pos trivial, decide_eq_false h0, Int32.add_zero]
        rfl
    · rw [if_neg hw, if_neg hw]
      cases sk (stk (bts (lyB P (sbP P) i g).1) (pTh P)) 64 0 with
      | true => rw [if_neg (show ¬ bI true = 0 by decide), if_pos rfl, nI_add]
      | false => rw [if_pos (show bI false = 0 from rfl), Int32.add_zero]; rfl
  have hle : s + (if cnS P i what g then wtP P g else 0) ≤ s + wtP P g := by split <;> omega
  by_cases h0 : wtP P g = 0
  · refine ⟨s + (if cnS P i what g then wtP P g else 0), X, M1, hle, ?_, step7, RF.rf X, m2⟩
    rw [f_X6_sure_53, if_neg (gG_8 hg), q_wt6 g hV hX hg, aB_some, if_pos (show nI (wtP P g) ≤ 0 by rw [h0]; exact Int32.le_refl _)]
    unfold f_X6_sure_156
    simp only [aLt_eq, gG_1]
    rw [h0, ite_self, Nat.add_zero]
  · obtain ⟨X1, r1, r2, r3, r4, r5⟩ := q_run g hV hX hi hg
    have th : X1.2 1 0 = pTh P := (RX_RF hV r2 hX).2.2.2.2.2.2.2.2.1
    refine ⟨s + (if cnS P i what g then wtP P g else 0), X1, M1, hle, ?_, step7, r2, m2⟩
    rw [f_X6_sure_53, if_neg (gG_8 hg), q_wt6 g hV hX hg, aB_some, if_neg (nI_nle (by omega) (by omega)), r1, aB_some, r3.2.2.2.2.1, r5, th]
    unfold f_X6_sure_138 f_X6_sure_153 f_X6_sure_156
    simp only [aLt_eq, gG_1]
    unfold cnS
    by_cases hw : what = 0
    · rw [if_pos hw, if_pos hw]
      by_cases h0 : gH (pWd P) i (pT P i) g = 0
      · rw [if_pos (show nI (gH (pWd P) i (pT P i) g) = 0 by rw [h0]; rfl), if_neg (show ¬ (1 : Int32) = 0 by decide), decide_eq_true h0, if_pos rfl, nI_add]
      · rw [if_neg (nI_ne0 (by omega) (by omega)), if_pos trivial, decide_eq_false h0, Int32.add_zero]
        rfl
    · rw [if_neg hw, if_neg hw]
      cases hk : sk (stk (bts (lyB P (sbP P) i g).1) (pTh P)) 64 0 with
      | true =>
        rw [if_neg (show ¬ lg_cmp (lN (bts (lyB P (sbP P) i g).1) &&& pTh P) 0 = 0 from fun e => by
          rw [lg_cmp_eq, and0_iff, hk] at e
          cases e), if_neg (show ¬ (1 : Int32) = 0 by decide), if_pos rfl, nI_add]
      | false =>
        rw [if_pos (show lg_cmp (lN (bts (lyB P (sbP P) i g).1) &&& pTh P) 0 = 0 by rw [lg_cmp_eq, and0_iff, hk]), if_pos trivial, Int32.add_zero]
        rfl
theorem q_sure {P : PS} (hV : PV P) {i : Nat} (hi : i < pN P) (what part : Int32) : ∀ (e w n n' s : Nat) (X M : aSt), w + e = 8 → e < n → e < n' → s + pO P * e ≤ 80 → RX 1 P X → RM P (M.1 1) → ∃ r X' M', f_X6_sure_53 n what part (10 + 2 * i) 80 (nI s) (nI w) X = some (r, X') ∧ f_X7_sure_44 n' (nI i) what part (nI s) (nI w) M = some (r, M') ∧ RF X X' ∧ NG M M' := by
  intro e
  induction e with
  | zero =>
    intro w n n' s X M h1 h2 h3 hs hX hM
    obtain ⟨n, rfl⟩ : ∃ m, n = m + 1 := ⟨n - 1, by omega⟩
    obtain ⟨n', rfl⟩ : ∃ m, n' = m + 1 := ⟨n' - 1, by omega⟩
    have hw : w = 8 := by omega
    subst hw
    have gp : 0 < Nat.gcd 80 s := Nat.gcd_pos_of_pos_left s (by omega)
    have gl : Nat.gcd 80 s ≤ 80 := Nat.gcd_le_left s (by omega)
    rw [f_X6_sure_53, f_X7_sure_44, if_pos (show (8 : Int32) ≤ nI 8 from Int32.le_refl _), if_pos (show (8 : Int32) ≤ nI 8 from Int32.le_refl _), q_cd (by omega), aB_some]
    unfold f_X6_sure_182 f_X7_sure_120
    rw [q_dv (by omega), aB_some, aB_some, if_neg (nI_ne0 gp (by omega)), if_neg (nI_ne0 gp (by omega)), if_neg (nI_ne0 gp (by omega)), if_neg (nI_ne0 gp (by omega)), ite_S, ite_S]
    exact ⟨_, X, M, rfl, rfl, RF.rf X, NG.rf M⟩
  | succ e ih =>
    intro w n n' s X M h1 h2 h3 hs hX hM
    obtain ⟨n, rfl⟩ : ∃ m, n = m + 1 := ⟨n - 1, by omega⟩
    obtain ⟨n', rfl⟩ : ∃ m, n' = m + 1 := ⟨n' - 1, by omega⟩
    obtain ⟨s', X1, M1, g0, g1, g2, g3, g4⟩ := q_sure1 hV hi what part (some w) (fun v hv => by cases hv; omega) n n' s X M hX hM
    have g0 : s' ≤ s + pO P := g0
    obtain ⟨r, X', M', j1, j2, j3, j4⟩ := ih (w + 1) n n' s' X1 M1 (by omega) (by omega) (by omega) (by rw [Nat.mul_add, Nat.mul_one] at hs; omega) (RX_RF hV g3 hX) (RM_NG g4 hM)
    exact ⟨r, X', M', g1.trans j1, g2.trans j2, g3.tr j3, g4.tr j4⟩
theorem pu_sure_ok : pu_sure Rel := by
  intro K X M p q q2 hR
  obtain ⟨⟨P, hV, hX, hM⟩, -, -⟩ := id hR
  have ho := hV.2.2.2.2.1
  unfold f_X6_sure f_X7_sure
  rcases tree_cases p hV hX hM with ⟨i, hi, rfl, e1, e2⟩ | ⟨e1, e2⟩
  · rw [e1, e2, aB_some, aB_some, aO_some, if_neg (show ¬ (1 : Int32) = 0 by decide)]
    rcases in_cases q 1 (by omega) X M with ⟨a, ha, rfl, o1, i1⟩ | ⟨-, o1, i1⟩
    · rw [show f_X6_outside (nI a) 1 X = some (0, X) from o1, show f_X7_in (nI a) 0 1 M = some (1, M) from i1, aB_some, aB_some, if_pos rfl, if_neg (show ¬ (1 : Int32) = 0 by decide)]
      rcases in_cases q2 1 (by omega) X M with ⟨b, hb, rfl, o2, i2⟩ | ⟨-, o2, i2⟩
      · rw [show f_X6_outside (nI b) 1 X = some (0, X) from o2, show f_X7_in (nI b) 0 1 M = some (1, M) from i2, aB_some, aB_some, if_pos rfl, if_neg (show ¬ (1 : Int32) = 0 by decide)]
        rcases st_cases hV hX hM hi with ⟨s1, s2, -⟩ | ⟨s1, s2, -⟩
        · rw [if_pos s1, s2, aB_some, if_pos rfl]
          exact ⟨_, X, M, rfl, rfl, hR⟩
        · rw [if_neg s1, s2, aB_some, if_neg (show ¬ (1 : Int32) = 0 by decide), show (-1 : Int32) = gG none from rfl]
          obtain ⟨n, hn⟩ := aF_s 20 (by omega)
          rw [hn]
          obtain ⟨s', X1, M1, g0, g1, g2, g3, g4⟩ := q_sure1 hV hi (nI a) (nI b) none hg0 (n + 19) (n + 19) 0 X M hX hM
          have g0 : s' ≤ 0 + 8 * (10 - pO P) := g0
          obtain ⟨r, X', M', j1, j2, j3, j4⟩ := q_sure hV hi (nI a) (nI b) 8 0 (n + 19) (n + 19) s' X1 M1 (by omega) (by omega) (by omega) (by omega) (RX_RF hV g3 hX) (RM_NG g4 hM)
          exact ⟨r, X', M', g1.trans j1, g2.trans j2, Rel_look hR (g3.tr j3).xf (g4.tr j4).mf⟩
      · rw [show f_X6_outside q2 1 X = some (1, X) from o2, show f_X7_in q2 0 1 M = some (0, M) from i2, aB_some, aB_some, if_neg (show ¬ (1 : Int32) = 0 by decide), if_pos rfl]
        exact ⟨_, X, M, rfl, rfl, hR⟩
    · rw [show f_X6_outside q 1 X = some (1, X) from o1, show f_X7_in q 0 1 M = some (0, M) from i1, aB_some, aB_some, if_neg (show ¬ (1 : Int32) = 0 by decide), if_pos rfl]
      exact ⟨_, X, M, rfl, rfl, hR⟩
  · rw [e1, e2, aB_some, aB_some, if_pos rfl, aO_none]
    exact ⟨_, X, M, rfl, rfl, hR⟩

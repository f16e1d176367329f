/-! PURE PART: stand -/
/-- the places of those that stand -/
def spN (st pl : Nat → Nat) : Nat → Nat
  | 0 => 0
  | n + 1 => spN st pl n ||| (if st n = 0 then 0 else 2 ^ pl n)
theorem spN_bit (st pl : Nat → Nat) (q : Nat) : ∀ n, (spN st pl n).testBit q = true ↔ ∃ t, t < n ∧ st t ≠ 0 ∧ pl t = q
  | 0 => by
    constructor
    · intro h
      rw [show spN st pl 0 = 0 from rfl, Nat.zero_testBit] at h
      cases h
    · rintro ⟨t, h1, -⟩
      omega
  | n + 1 => by
    rw [show spN st pl (n + 1) = (spN st pl n ||| (if st n = 0 then 0 else 2 ^ pl n)) from rfl, Nat.testBit_or, Bool.or_eq_true, spN_bit st pl q n]
    constructor
    · rintro (⟨t, h1, h2, h3⟩ | h)
      · exact ⟨t, by omega, h2, h3⟩
      · by_cases h0 : st n = 0
        · rw [if_pos h0, Nat.zero_testBit] at h
          cases h
        · rw [if_neg h0, Nat.testBit_two_pow] at h
          exact ⟨n, by omega, h0, of_decide_eq_true h⟩
    · rintro ⟨t, h1, h2, h3⟩
      by_cases c : t = n
      · subst c
        right
        rw [if_neg h2, h3, Nat.testBit_two_pow_self]
      · exact Or.inl ⟨t, by omega, h2, h3⟩
theorem q_stP4 {N : Nat} {st pl : Nat → Nat} {X : aSt} (hN6 : N ≤ 6) (hN : X.1 1 4 = nI N) (hs : ∀ t, t < N → X.1 (1 + 9 + 2 * t) 8 = nI (st t) ∧ st t ≤ 1 ∧ X.1 (1 + 9 + 2 * t) 3 = nI (pl t) ∧ pl t < 64) : ∀ e t n, t + e = N → e < n → f_X2_standingPlaces_4 n 1 (lN (spN st pl t)) (nI t) X = some (lN (spN st pl N), X) := by
  intro e
  induction e with
  | zero =>
    intro t n h1 h2
    obtain ⟨n, rfl⟩ : ∃ m, n = m + 1 := ⟨n - 1, by omega⟩
    have ht : t = N := by omega
    subst ht
    rw [f_X2_standingPlaces_4, hN, if_pos (Int32.le_refl _)]
  | succ e ih =>
    intro t n h1 h2
    obtain ⟨n, rfl⟩ : ∃ m, n = m + 1 := ⟨n - 1, by omega⟩
    have ht : t < N := by omega
    obtain ⟨x8, l8, x3, l3⟩ := hs t ht
    rw [f_X2_standingPlaces_4, hN, if_neg (nI_ge ht (by omega)), if_neg (q_chk (by omega) (by omega)), if_neg (q_chk (by omega) (by omega)), nI_clamp (by omega), x8, x3, l1_p l3]
    unfold f_X2_standingPlaces_40
    simp only [aLt_eq, nI_1]
    have := ih (t + 1) n (by omega) (by omega)
    by_cases h0 : st t = 0
    · rw [if_pos (show nI (st t) = 0 by rw [h0]; rfl), show (0 : Int64) = lN 0 from rfl, lN_or]
      rw [show spN st pl (t + 1) = spN st pl t ||| 0 by show (spN st pl t ||| if st t = 0 then 0 else 2 ^ pl t) = _; rw [if_pos h0]] at this
      exact this
    · rw [if_neg (nI_ne0 (by omega) (by omega)), lN_or]
      rw [show spN st pl (t + 1) = spN st pl t ||| 2 ^ pl t by show (spN st pl t ||| if st t = 0 then 0 else 2 ^ pl t) = _; rw [if_neg h0]] at this
      exact this
theorem q_stPl {P : PS} {X : aSt} (hV : PV P) (hX : RX 1 P X) : f_X2_standingPlaces 1 X = some (lN (spN (stP P) (plP P) (pN P)), X) := by
  have hn := hV.1
  exact q_stP4 (st := stP P) (pl := plP P) hn hX.1 (fun t ht => ⟨(TX_of hX ht).2.1 7 (by omega), stP_le hV t ht, (TX_of hX ht).2.1 2 (by omega), Nat.lt_succ_of_le ((TB_of hV ht).1 2 (by omega))⟩) (pN P) 0 aF (by omega) (by have := aF_big; omega)
def nrN (p q : Nat) : Bool := decide (q / 8 ≤ p / 8 + 1) && decide (p / 8 ≤ q / 8 + 1) && decide (q % 8 ≤ p % 8 + 1) && decide (p % 8 ≤ q % 8 + 1)
def stF (p : Nat) : List Nat := (List.range 64).filter (fun q => nrN p q && !(q == p))
theorem sf4_S : ∀ (n : Nat) (a : Int32) (b : Int64) (c : Int32) (S S0 : aSt), f_X6_stepsFrom_4 n a b c S = (f_X6_stepsFrom_4 n a b c S0).map (fun q => (q.1, S))
  | 0, _, _, _, _, _ => rfl
  | n + 1, a, b, c, S, S0 => by
    rw [f_X6_stepsFrom_4, f_X6_stepsFrom_4]
    unfold f_X6_stepsFrom_32
    by_cases h1 : (8 : Int32) ≤ c
    · rw [if_pos h1, if_pos h1]; rfl
    · rw [if_neg h1, if_neg h1, np6_S a c S S0]
      cases f_X6_nextPlace a c S0 with
      | none => rfl
      | some q =>
        obtain ⟨r, S1⟩ := q
        show aB (some (r, S)) _ = (aB (some (r, S1)) _).map _
        rw [aB_some, aB_some]
        by_cases h2 : r = (-1 : Int32)
        · rw [if_pos h2, if_pos h2]
          exact sf4_S n _ _ _ S S1
        · rw [if_neg h2, if_neg h2]
          exact sf4_S n _ _ _ S S1
set_option maxRecDepth 100000 in
theorem sf_t : ∀ p : Fin 64, (f_X6_stepsFrom (nI p.1) z0).map Prod.fst = some (lN (bts (stF p.1))) := by decide +kernel
theorem map_SL {F : aSt → Option (Int64 × aSt)} (hF : ∀ S S0, F S = (F S0).map (fun q => (q.1, S))) {v : Int64} {S0 : aSt} (h : (F S0).map Prod.fst = some v) (S : aSt) : F S = some (v, S) := by
  rw [hF S S0]
  cases hq : F S0 with
  | none => rw [hq] at h; cases h
  | some q =>
    rw [hq] at h
    have h2 : q.1 = v := Option.some.inj h
    show some (q.1, S) = _
    rw [h2]
theorem q_sf {p : Nat} (hp : p < 64) (S : aSt) : f_X6_stepsFrom (nI p) S = some (lN (bts (stF p)), S) := map_SL (F := f_X6_stepsFrom (nI p)) (fun S S0 => sf4_S aF (nI p) 0 0 S S0) (sf_t ⟨p, hp⟩) S
theorem stF_bit {p j : Nat} (hj : j < 64) : (bts (stF p)).testBit j = (nrN p j && !(j == p)) := by
  rw [bts_bit]
  unfold stF
  by_cases h : (nrN p j && !(j == p)) = true
  · rw [h, decide_eq_true]
    exact List.mem_filter.mpr ⟨List.mem_range.mpr hj, h⟩
  · have hn : ¬ j ∈ List.filter (fun q => nrN p q && !(q == p)) (List.range 64) := fun c => h (List.mem_filter.mp c).2
    rw [decide_eq_false hn]
    cases hb : (nrN p j && !(j == p)) with
    | false => rfl
    | true => exact absurd hb h
/-- what lies in the gusts that may come -/
def lyW (P : PS) (i : Nat) (g : Option Nat) : Nat := if wtP P g = 0 then 0 else bts (lyB P (sbP P) i g).1
def lyG (P : PS) (i : Nat) : Nat → Nat → Nat → Nat
  | 0, _, a => a
  | e + 1, w, a => lyG P i e (w + 1) (a ||| lyW P i (some w))
theorem lyG_or {P : PS} {i : Nat} (b : Nat) : ∀ e w a, lyG P i e w (b ||| a) = b ||| lyG P i e w a
  | 0, _, _ => rfl
  | e + 1, w, a => by
    show lyG P i e (w + 1) ((b ||| a) ||| lyW P i (some w)) = b ||| lyG P i e (w + 1) (a ||| lyW P i (some w))
    rw [Nat.or_assoc, lyG_or b e]
theorem q_stand6 {P : PS} (hV : PV P) {i : Nat} (hi : i < pN P) (g : Option Nat) (hg : ∀ w, g = some w → w < 8) (n a : Nat) (X : aSt) (hX : RX 1 P X) : ∃ X1, f_X6_stand_43 (n + 1) (10 + 2 * i) (lN a) (gG g) X = f_X6_stand_43 n (10 + 2 * i) (lN (a ||| lyW P i g)) (nI (gN g)) X1 ∧ RF X X1 := by
  have hwt := wtP_le hV g
  rw [f_X6_stand_43, if_neg (gG_8 hg), q_wt6 g hV hX hg, aB_some]
  unfold f_X6_stand_86 lyW
  simp only [aLt_eq, gG_1]
  by_cases h0 : wtP P g = 0
  · rw [if_pos (show nI (wtP P g) ≤ 0 by rw [h0]; exact Int32.le_refl _), if_pos h0, Nat.or_zero]
    exact ⟨X, rfl, RF.rf X⟩
  · obtain ⟨X1, r1, r2, r3, r4, r5⟩ := q_run g hV hX hi hg
    rw [if_neg (nI_nle (by omega) (by omega)), if_neg h0, r1, aB_some, r5, lN_or]
    exact ⟨X1, rfl, r2⟩
theorem q_stand7 {P : PS} (hV : PV P) {i : Nat} (hi : i < pN P) (g : Option Nat) (hg : ∀ w, g = some w → w < 8) (n a : Nat) (M : aSt) (hM : RM P (M.1 1)) : ∃ M1, f_X7_stand_25 (n + 1) (nI i) (lN a) (gG g) M = f_X7_stand_25 n (nI i) (lN (a ||| lyW P i g)) (nI (gN g)) M1 ∧ NG M M1 := by
  have hwt := wtP_le hV g
  obtain ⟨M1, m1, m2, m3, m4, m5, m6⟩ := q_goesNow g hV hM hi hg
  have hM1 := RM_NG m2 hM
  rw [f_X7_stand_25, if_neg (gG_8 hg), m1, aB_some, q_wt7 g hV hM1 hg, aB_some]
  unfold f_X7_stand_57 lyW
  simp only [aLt_eq, gG_1]
  by_cases h0 : wtP P g = 0
  · rw [if_pos (show nI (wtP P g) ≤ 0 by rw [h0]; exact Int32.le_refl _), if_pos h0, show (0 : Int64) = lN 0 from rfl, lN_or]
    exact ⟨M1, rfl, m2⟩
  · rw [if_neg (nI_nle (by omega) (by omega)), if_neg h0, m6, lN_or]
    exact ⟨M1, rfl, m2⟩
theorem q_st6 {P : PS} (hV : PV P) {i : Nat} (hi : i < pN P) : ∀ (e w n a : Nat) (X : aSt), w + e = 8 → e < n → RX 1 P X → ∃ X', f_X6_stand_43 n (10 + 2 * i) (lN a) (nI w) X = some (lN (lyG P i e w a) ^^^ (-1 : Int64), X') ∧ RF X X' := by
  intro e
  induction e with
  | zero =>
    intro w n a X h1 h2 hX
    obtain ⟨n, rfl⟩ : ∃ m, n = m + 1 := ⟨n - 1, by omega⟩
    have hw : w = 8 := by omega
    subst hw
    rw [f_X6_stand_43, if_pos (show (8 : Int32) ≤ nI 8 from Int32.le_refl _)]
    exact ⟨X, rfl, RF.rf X⟩
  | succ e ih =>
    intro w n a X h1 h2 hX
    obtain ⟨n, rfl⟩ : ∃ m, n = m + 1 := ⟨n - 1, by omega⟩
    obtain ⟨X1, g1, g2⟩ := q_stand6 hV hi (some w) (fun v hv => by cases hv; omega) n a X hX
    obtain ⟨X', j1, j2⟩ := ih (w + 1) n _ X1 (by omega) (by omega) (RX_RF hV g2 hX)
    exact ⟨X', g1.trans j1, g2.tr j2⟩
/-- the places f holds for -/
def sfN (f : Nat → Bool) : Nat → Nat
  | 0 => 0
  | n + 1 => sfN f n ||| (if f n then 2 ^ n else 0)
theorem sfN_bit (f : Nat → Bool) (j : Nat) : ∀ n, (sfN f n).testBit j = (decide (j < n) && f j)
  | 0 => by
    rw [show sfN f 0 = 0 from rfl, Nat.zero_testBit, decide_eq_false (by omega), Bool.false_and]
  | n + 1 => by
    rw [show sfN f (n + 1) = (sfN f n ||| (if f n then 2 ^ n else 0)) from rfl, Nat.testBit_or, sfN_bit f j n]
    by_cases c : j = n
    · subst c
      rw [decide_eq_false (by omega), decide_eq_true (by omega), Bool.false_and, Bool.false_or, Bool.true_and]
      cases f j
      · exact Nat.zero_testBit j
      · exact Nat.testBit_two_pow_self
    · have e : (if f n then 2 ^ n else 0).testBit j = false := by
        split
        · exact Nat.testBit_two_pow_of_ne (fun e => c e.symm)
        · exact Nat.zero_testBit j
      rw [e, Bool.or_false]
      by_cases d : j < n
      · rw [decide_eq_true d, decide_eq_true (by omega)]
      · rw [decide_eq_false d, decide_eq_false (by omega)]
theorem nr_t : ∀ a : Fin 8, ∀ b : Fin 8, decide ((1 : Int32) < ab (nI a.1 - nI b.1)) = !(decide (a.1 ≤ b.1 + 1) && decide (b.1 ≤ a.1 + 1)) := by decide +kernel
theorem nr_I {a b : Nat} (ha : a < 8) (hb : b < 8) : (1 : Int32) < ab (nI a - nI b) ↔ ¬ (a ≤ b + 1 ∧ b ≤ a + 1) := by
  have h : decide ((1 : Int32) < ab (nI a - nI b)) = !(decide (a ≤ b + 1) && decide (b ≤ a + 1)) := nr_t ⟨a, ha⟩ ⟨b, hb⟩
  constructor
  · intro c d
    rw [decide_eq_true c, decide_eq_true d.1, decide_eq_true d.2] at h
    cases h
  · intro c
    by_cases d : (1 : Int32) < ab (nI a - nI b)
    · exact d
    · rw [decide_eq_false d] at h
      exact absurd (by simpa using h.symm) c
def sfS (P : PS) (i L : Nat) (p : Nat) : Bool := !(nrN (pT P i 2) p) && (ocG (stA (stP P) none) (plP P) p (pN P) 0 == none) && !(L.testBit p)
theorem q_st82 {P : PS} {M : aSt} {i L : Nat} (hV : PV P) (hM : RM P (M.1 1)) (hi : i < pN P) : ∀ (e p n : Nat), p + e = 64 → e < n → f_X7_stand_82 n (lN L) (lN (sfN (sfS P i L) p)) (nI (pT P i 2)) (nI p) M = some (lN (sfN (sfS P i L) 64), M) := by
  have hn := hV.1
  have b2 : pT P i 2 ≤ 63 := (TB_of hV hi).1 2 (by omega)
  intro e
  induction e with
  | zero =>
    intro p n h1 h2
    obtain ⟨n, rfl⟩ : ∃ m, n = m + 1 := ⟨n - 1, by omega⟩
    have hp : p = 64 := by omega
    subst hp
    rw [f_X7_stand_82, if_pos (show (64 : Int32) ≤ nI 64 from Int32.le_refl _)]
  | succ e ih =>
    intro p n h1 h2
    obtain ⟨n, rfl⟩ : ∃ m, n = m + 1 := ⟨n - 1, by omega⟩
    have hp : p < 64 := by omega
    have on := q_on (p := p) none (VM_of hV hM) hn hp (fun t h => by cases h)
    have on : f_X7_standingOn (nI p) (-1) M = some (o1 (ocG (stA (stP P) none) (plP P) p (pN P) 0), M) := on
    have ih' := ih (p + 1) n (by omega) (by omega)
    rw [show sfN (sfS P i L) (p + 1) = (sfN (sfS P i L) p ||| (if sfS P i L p then 2 ^ p else 0)) from rfl] at ih'
    rw [f_X7_stand_82, if_neg (show ¬ (64 : Int32) ≤ nI p from nI_ge (b := 64) hp (by omega)), show (8 : Int32) = nI 8 from rfl, pk_div (by omega) (by omega) (by omega), pk_div (by omega) (by omega) (by omega), q_size, aB_some]
    rw [show nI p - nI (p / 8) * nI 8 = nI (p % 8) by rw [← pk_rem (a := p) (d := 8) (by omega) (by omega) (by omega), pk_div (by omega) (by omega) (by omega)], show nI (pT P i 2) - nI (pT P i 2 / 8) * nI 8 = nI (pT P i 2 % 8) by rw [← pk_rem (a := pT P i 2) (d := 8) (by omega) (by omega) (by omega), pk_div (by omega) (by omega) (by omega)], q_size, aB_some]
    unfold f_X7_stand_129 f_X7_stand_130 f_X7_stand_168 f_X7_stand_169
    simp only [aLt_eq, nI_1]
    rw [on, aB_some, sar_bit (lN L) hp, lN_bit hp, l1_p hp, lN_or, show (0 : Int64) = lN 0 from rfl, lN_or]
    have far : nrN (pT P i 2) p = false → (if o1 (ocG (stA (stP P) none) (plP P) p (pN P) 0) = -1 then if lg_cmp (if L.testBit p = true then (1 : Int64) else lN 0) (lN 0) = 0 then f_X7_stand_82 n (lN L) (lN (sfN (sfS P i L) p ||| 2 ^ p)) (nI (pT P i 2)) (nI (p + 1)) M else f_X7_stand_82 n (lN L) (lN (sfN (sfS P i L) p ||| 0)) (nI (pT P i 2)) (nI (p + 1)) M else f_X7_stand_82 n (lN L) (lN (sfN (sfS P i L) p ||| 0)) (nI (pT P i 2)) (nI (p + 1)) M) = some (lN (sfN (sfS P i L) 64), M) := fun hf => by
      unfold sfS at ih'
      rw [hf] at ih'
      cases ho : ocG (stA (stP P) none) (plP P) p (pN P) 0 with
      | some t =>
        have ht := (ocG_lt ho).2
        rw [if_neg (show ¬ o1 (some t) = -1 from neg_ne (x := -1) (show t < 2 ^ 31 by omega) (by decide))]
        rw [ho] at ih'
        exact ih'
      | none =>
        rw [if_pos (show o1 none = -1 from rfl)]
        rw [ho] at ih'
        cases hb : L.testBit p with
        | true =>
          rw [if_neg (show ¬ lg_cmp (if true = true then (1 : Int64) else lN 0) (lN 0) = 0 by decide)]
          rw [hb] at ih'
          exact ih'
        | false =>
          rw [if_pos (show lg_cmp (if false = true then (1 : Int64) else lN 0) (lN 0) = 0 by decide)]
          rw [hb] at ih'
          exact ih'
    by_cases c1 : (1 : Int32) < ab (nI (p / 8) - nI (pT P i 2 / 8))
    · have d := (nr_I (by omega) (by omega)).mp c1
      rw [if_pos c1]
      refine far ?_
      unfold nrN
      by_cases k : p / 8 ≤ pT P i 2 / 8 + 1
      · rw [decide_eq_false (show ¬ pT P i 2 / 8 ≤ p / 8 + 1 from fun k2 => d ⟨k, k2⟩)]
        simp
      · rw [decide_eq_false k]
        simp
    · rw [if_neg c1]
      have d1 : p / 8 ≤ pT P i 2 / 8 + 1 ∧ pT P i 2 / 8 ≤ p / 8 + 1 := Classical.byContradiction (fun k => c1 ((nr_I (by omega) (by omega)).mpr k))
      by_cases c2 : (1 : Int32) < ab (nI (p % 8) - nI (pT P i 2 % 8))
      · have d := (nr_I (by omega) (by omega)).mp c2
        rw [if_pos c2]
        refine far ?_
        unfold nrN
        by_cases k : p % 8 ≤ pT P i 2 % 8 + 1
        · rw [decide_eq_false (show ¬ pT P i 2 % 8 ≤ p % 8 + 1 from fun k2 => d ⟨k, k2⟩)]
          simp
        · rw [decide_eq_false k]
          simp
      · rw [if_neg c2]
        have d2 : p % 8 ≤ pT P i 2 % 8 + 1 ∧ pT P i 2 % 8 ≤ p % 8 + 1 := Classical.byContradiction (fun k => c2 ((nr_I (by omega) (by omega)).mpr k))
        have hf : nrN (pT P i 2) p = true := by
          unfold nrN
          rw [decide_eq_true d1.1, decide_eq_true d1.2, decide_eq_true d2.1, decide_eq_true d2.2]
          rfl
        have e0 : sfS P i L p = false := by
          unfold sfS
          rw [hf]
          rfl
        rw [e0] at ih'
        exact ih'
theorem q_st7 {P : PS} (hV : PV P) {i : Nat} (hi : i < pN P) : ∀ (e w n a : Nat) (M : aSt), w + e = 8 → e < n → RM P (M.1 1) → ∃ M', f_X7_stand_25 n (nI i) (lN a) (nI w) M = some (lN (sfN (sfS P i (lyG P i e w a)) 64), M') ∧ NG M M' := by
  have hn := hV.1
  intro e
  induction e with
  | zero =>
    intro w n a M h1 h2 hM
    obtain ⟨n, rfl⟩ : ∃ m, n = m + 1 := ⟨n - 1, by omega⟩
    have hw : w = 8 := by omega
    subst hw
    have s2 : M.1 1 (122 + i) = nI (pT P i 2) := (TM_of hM hi).1 2 (by omega)
    rw [f_X7_stand_25, if_pos (show (8 : Int32) ≤ nI 8 from Int32.le_refl _), show (122 : Int32) + nI i = nI (122 + i) from nI_add 122 i, if_neg (q_chk (by omega) (by omega)), aLt_eq, nI_clamp (by omega), s2]
    exact ⟨M, q_st82 hV hM hi 64 0 aF (by omega) (by have := aF_big; omega), NG.rf M⟩
  | succ e ih =>
    intro w n a M h1 h2 hM
    obtain ⟨n, rfl⟩ : ∃ m, n = m + 1 := ⟨n - 1, by omega⟩
    obtain ⟨M1, g1, g2⟩ := q_stand7 hV hi (some w) (fun v hv => by cases hv; omega) n a M hM
    obtain ⟨M', j1, j2⟩ := ih (w + 1) n _ M1 (by omega) (by omega) (RM_NG g2 hM)
    exact ⟨M', g1.trans j1, g2.tr j2⟩
theorem ocG_none {A : Nat → Bool} {pl : Nat → Nat} {p : Nat} : ∀ e t, ocG A pl p e t = none ↔ ∀ u, t ≤ u → u < t + e → ¬ (A u = true ∧ pl u = p)
  | 0, t => by
    constructor
    · intro _ u h1 h2
      omega
    · intro _
      rfl
  | e + 1, t => by
    have h0 : ocG A pl p (e + 1) t = if A t = true ∧ pl t = p then some t else ocG A pl p e (t + 1) := by
      rw [ocG]
    rw [h0]
    by_cases c : A t = true ∧ pl t = p
    · rw [if_pos c]
      constructor
      · intro h; cases h
      · intro h; exact absurd c (h t (by omega) (by omega))
    · rw [if_neg c, ocG_none e (t + 1)]
      constructor
      · intro h u h1 h2
        by_cases d : u = t
        · rw [d]; exact c
        · exact h u (by omega) (by omega)
      · intro h u h1 h2
        exact h u (by omega) (by omega)
theorem st_fin {P : PS} {i L : Nat} (hV : PV P) (hi : i < pN P) (h7 : pT P i 7 = 1) : lN (spN (stP P) (plP P) (pN P) ||| bts (stF (pT P i 2)) ||| L) ^^^ (-1 : Int64) = lN (sfN (sfS P i L) 64) := by
  apply wb_inj
  apply BitVec.eq_of_getLsbD_eq
  intro j hj
  rw [Int64.toBitVec_xor, BitVec.getLsbD_xor, lN_bit hj, lN_bit hj, sfN_bit, decide_eq_true hj, Bool.true_and]
  have e1 : (-1 : Int64).toBitVec.getLsbD j = true := by
    show (BitVec.allOnes 64).getLsbD j = true
    rw [BitVec.getLsbD_allOnes]
    exact decide_eq_true hj
  rw [e1, Bool.xor_true, Nat.testBit_or, Nat.testBit_or, stF_bit hj]
  unfold sfS
  cases L.testBit j with
  | true => simp
  | false =>
    rw [Bool.or_false, Bool.not_false, Bool.and_true]
    have key : (ocG (stA (stP P) none) (plP P) j (pN P) 0 == none) = !((spN (stP P) (plP P) (pN P)).testBit j) := by
      cases hs : (spN (stP P) (plP P) (pN P)).testBit j with
      | true =>
        obtain ⟨t, t1, t2, t3⟩ := (spN_bit _ _ _ _).mp hs
        have l7 := stP_le hV t t1
        cases ho : ocG (stA (stP P) none) (plP P) j (pN P) 0 with
        | some u => rfl
        | none =>
          refine absurd ⟨?_, t3⟩ ((ocG_none _ _).mp ho t (by omega) (by omega))
          unfold stA
          rw [decide_eq_true (show stP P t = 1 by omega)]
          rfl
      | false =>
        have ho : ocG (stA (stP P) none) (plP P) j (pN P) 0 = none := (ocG_none _ _).mpr (fun u h1 h2 c => by
          have c1 := c.1
          unfold stA at c1
          have c2 : stP P u = 1 := by simpa using c1
          have := (spN_bit (stP P) (plP P) j (pN P)).mpr ⟨u, by omega, by omega, c.2⟩
          rw [hs] at this
          cases this)
        rw [ho]
        rfl
    rw [key]
    by_cases c : j = pT P i 2
    · have hs : (spN (stP P) (plP P) (pN P)).testBit j = true := (spN_bit _ _ _ _).mpr ⟨i, hi, by show pT P i 7 ≠ 0; omega, c.symm⟩
      rw [hs]
      simp
    · have hb : (j == pT P i 2) = false := by simpa using c
      rw [hb]
      cases (spN (stP P) (plP P) (pN P)).testBit j <;> cases nrN (pT P i 2) j <;> rfl
theorem pu_stand_ok : pu_stand Rel := by
  intro K X M p hR
  obtain ⟨⟨P, hV, hX, hM⟩, -, -⟩ := id hR
  unfold f_X6_stand f_X7_stand
  rcases tree_cases p hV hX hM with ⟨i, hi, rfl, e1, e2⟩ | ⟨e1, e2⟩
  · rw [e1, e2, aB_some, aB_some, aO_some, if_neg (show ¬ (1 : Int32) = 0 by decide)]
    rcases st_cases hV hX hM hi with ⟨s1, s2, -⟩ | ⟨s1, s2, s3⟩
    · rw [if_pos s1, s2, aB_some, if_pos rfl]
      exact ⟨_, X, M, rfl, rfl, hR⟩
    · have b2 : pT P i 2 ≤ 63 := (TB_of hV hi).1 2 (by omega)
      have x3 : X.1 (10 + 2 * i) 3 = nI (pT P i 2) := (TX_of hX hi).2.1 2 (by omega)
      rw [if_neg s1, s2, aB_some, if_neg (show ¬ (1 : Int32) = 0 by decide), show (-1 : Int32) = gG none from rfl, q_stPl hV hX, aB_some, x3, q_sf (by omega), aB_some, aLt_eq, lN_or]
      obtain ⟨n, hn⟩ := aF_s 20 (by omega)
      rw [hn]
      obtain ⟨X1, g1, g2⟩ := q_stand6 hV hi none hg0 (n + 19) (spN (stP P) (plP P) (pN P) ||| bts (stF (pT P i 2))) X hX
      obtain ⟨X', j1, j2⟩ := q_st6 hV hi 8 0 (n + 19) _ X1 (by omega) (by omega) (RX_RF hV g2 hX)
      obtain ⟨M1, k1, k2⟩ := q_stand7 hV hi none hg0 (n + 19) 0 M hM
      obtain ⟨M', l1, l2⟩ := q_st7 hV hi 8 0 (n + 19) _ M1 (by omega) (by omega) (RM_NG k2 hM)
      refine ⟨_, X', M', g1.trans j1, (k1.trans l1).trans ?_, Rel_look hR (g2.tr j2).xf (k2.tr l2).mf⟩
      rw [Nat.zero_or, lyG_or, st_fin hV hi s3]
  · rw [e1, e2, aB_some, aB_some, if_pos rfl, aO_none]
    exact ⟨_, X, M, rfl, rfl, hR⟩

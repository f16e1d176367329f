/-! PURE PART: PLACES; who stands on one; where a TREE lies -/
def oI (o : Option Nat) : Int32 := match o with
  | none => -5
  | some t => nI t
def o1 (o : Option Nat) : Int32 := match o with
  | none => -1
  | some t => nI t
def npR (w : Nat) : Nat := [0, 0, 1, 2, 2, 2, 1, 0].getD w 0
def npC (w : Nat) : Nat := [1, 2, 2, 2, 1, 0, 0, 0].getD w 0
def np (p w : Nat) : Option Nat := if 1 ≤ p / 8 + npR w ∧ p / 8 + npR w ≤ 8 ∧ 1 ≤ p % 8 + npC w ∧ p % 8 + npC w ≤ 8 then some (8 * (p / 8 + npR w - 1) + (p % 8 + npC w - 1)) else none
def ouB (x n : Int32) : Int32 := if x < 0 then 1 else if x ≤ n then 0 else 1
def inB (x a b : Int32) : Int32 := if x < a then 0 else if b < x then 0 else 1
theorem out_S (x n : Int32) (S : aSt) : f_X6_outside x n S = some (ouB x n, S) := by
  unfold f_X6_outside ouB
  split
  · rfl
  · split <;> rfl
theorem in_S (x a b : Int32) (S : aSt) : f_X7_in x a b S = some (inB x a b, S) := by
  unfold f_X7_in inB
  split
  · rfl
  · split <;> rfl
theorem np6_S (a b : Int32) (S S0 : aSt) : f_X6_nextPlace a b S = (f_X6_nextPlace a b S0).map (fun q => (q.1, S)) := by
  simp only [f_X6_nextPlace, aLt_eq, out_S, aB_some, ite_S]
  by_cases c : (b &&& 7) < 0 ∨ 8 ≤ (b &&& 7).toNatClampNeg
  · rw [if_pos c, if_pos c]; rfl
  · rw [if_neg c, if_neg c, if_neg c, if_neg c]; rfl
theorem np7_S (a b : Int32) (S S0 : aSt) : f_X7_next a b S = (f_X7_next a b S0).map (fun q => (q.1, S)) := by
  simp only [f_X7_next, f_X7_next_15, f_X7_next_34, f_X7_next_35, f_X7_next_64, aLt_eq, in_S, aB_some, ite_S, Option.map_some]
set_option maxRecDepth 20000 in
theorem np6_t : ∀ p : Fin 64, ∀ w : Fin 8, (f_X6_nextPlace (nI p.1) (nI w.1) z0).map Prod.fst = some (o1 (np p.1 w.1)) := by decide +kernel
set_option maxRecDepth 20000 in
theorem np7_t : ∀ p : Fin 64, ∀ w : Fin 8, (f_X7_next (nI p.1) (nI w.1) z0).map Prod.fst = some (o1 (np p.1 w.1)) := by decide +kernel
theorem np6 {p w : Nat} (hp : p < 64) (hw : w < 8) (S : aSt) : f_X6_nextPlace (nI p) (nI w) S = some (o1 (np p w), S) := map_S (F := f_X6_nextPlace (nI p) (nI w)) (fun S S0 => np6_S _ _ S S0) (np6_t ⟨p, hp⟩ ⟨w, hw⟩) S
theorem np7 {p w : Nat} (hp : p < 64) (hw : w < 8) (S : aSt) : f_X7_next (nI p) (nI w) S = some (o1 (np p w), S) := map_S (F := f_X7_next (nI p) (nI w)) (fun S S0 => np7_S _ _ S S0) (np7_t ⟨p, hp⟩ ⟨w, hw⟩) S
theorem np6_m {p : Nat} (hp : p < 64) (S : aSt) : f_X6_nextPlace (nI p) (-5) S = some (o1 (np p 3), S) := by
  rw [← np6 hp (show 3 < 8 by omega) S]
  unfold f_X6_nextPlace
  rw [show ((-5 : Int32) &&& 7) = (nI 3 &&& 7) by decide]
set_option maxRecDepth 20000 in
theorem np_t : ∀ p : Fin 64, ∀ w : Fin 8, (np p.1 w.1).all (fun q => decide (q < 64 ∧ if 2 ≤ w.1 ∧ w.1 ≤ 5 then p.1 < q else q < p.1)) = true := by decide +kernel
theorem np_in {p w q : Nat} (hp : p < 64) (hw : w < 8) (h : np p w = some q) : q < 64 ∧ if 2 ≤ w ∧ w ≤ 5 then p < q else q < p := by
  have := np_t ⟨p, hp⟩ ⟨w, hw⟩
  rw [show np (⟨p, hp⟩ : Fin 64).1 (⟨w, hw⟩ : Fin 8).1 = some q from h] at this
  simpa using this
theorem l1_t : ∀ p : Fin 64, (1 : Int64) <<< ((nI p.1).toInt64 &&& 63) = lN (2 ^ p.1) := by decide +kernel
theorem l1_p {p : Nat} (hp : p < 64) : (1 : Int64) <<< ((nI p).toInt64 &&& 63) = lN (2 ^ p) := l1_t ⟨p, hp⟩
theorem i1_t : ∀ p : Fin 31, (1 : Int32) <<< (nI p.1 &&& 31) = nI (2 ^ p.1) := by decide +kernel
theorem i1_p {p : Nat} (hp : p < 31) : (1 : Int32) <<< (nI p &&& 31) = nI (2 ^ p) := i1_t ⟨p, hp⟩
theorem q_bit {p : Nat} (hp : p < 31) (S : aSt) : f_X6_bitOf (nI p) S = some (nI (2 ^ p), S) := by
  unfold f_X6_bitOf
  rw [if_pos (nI_pos' (by omega)), i1_p hp]
theorem lN_or (a b : Nat) : lN a ||| lN b = lN (a ||| b) := by
  apply Int64.toBitVec_inj.1
  show BitVec.ofNat 64 a ||| BitVec.ofNat 64 b = BitVec.ofNat 64 (a ||| b)
  apply BitVec.eq_of_getLsbD_eq
  intro i hi
  simp [hi]
theorem tb_t : ∀ b : Fin 64, ∀ t : Fin 6, decide (nI (b.1 &&& 2 ^ t.1) = 0) = !(b.1.testBit t.1) := by decide +kernel
theorem tb_I {b t : Nat} (hb : b < 64) (ht : t < 6) : nI b &&& nI (2 ^ t) = 0 ↔ b.testBit t = false := by
  have h : decide (nI (b &&& 2 ^ t) = 0) = !(b.testBit t) := tb_t ⟨b, hb⟩ ⟨t, ht⟩
  rw [nx_and]
  constructor
  · intro e
    rw [decide_eq_true e] at h
    simpa using h.symm
  · intro e
    rw [e] at h
    exact of_decide_eq_true h
def ocG (A : Nat → Bool) (pl : Nat → Nat) (p : Nat) : Nat → Nat → Option Nat
  | 0, _ => none
  | e + 1, t => if A t = true ∧ pl t = p then some t else ocG A pl p e (t + 1)
theorem ocG_lt {A : Nat → Bool} {pl : Nat → Nat} {p : Nat} : ∀ {e t x : Nat}, ocG A pl p e t = some x → t ≤ x ∧ x < t + e
  | 0, _, _, h => by cases h
  | e + 1, t, x, h => by
    unfold ocG at h
    split at h
    · cases h; omega
    · have := ocG_lt h; omega
theorem ocG_congr {A A' : Nat → Bool} {pl : Nat → Nat} {p : Nat} (h : ∀ t, (A t = true ∧ pl t = p) ↔ (A' t = true ∧ pl t = p)) : ∀ e t, ocG A pl p e t = ocG A' pl p e t
  | 0, _ => rfl
  | e + 1, t => by
    unfold ocG
    rw [ocG_congr h e (t + 1)]
    by_cases c : A t = true ∧ pl t = p
    · rw [if_pos c, if_pos ((h t).mp c)]
    · rw [if_neg c, if_neg (fun d => c ((h t).mpr d))]
/-- the class's TREES' PLACES -/
def VX (N : Nat) (pl : Nat → Nat) (X : aSt) : Prop := X.1 1 4 = nI N ∧ ∀ t, t < N → X.1 (1 + 9 + 2 * t) 3 = nI (pl t) ∧ pl t < 64
/-- the reference's -/
def VM (N : Nat) (st pl : Nat → Nat) (M : aSt) : Prop := M.1 1 0 = nI N ∧ ∀ t, t < N → M.1 1 (152 + t) = nI (st t) ∧ st t ≤ 1 ∧ M.1 1 (122 + t) = nI (pl t) ∧ pl t < 64
theorem q_which2 {N b p : Nat} {pl : Nat → Nat} {X : aSt} (hV : VX N pl X) (hN6 : N ≤ 6) (hb : b < 64) (hp : p < 64) : ∀ e t n, t + e = N → e < n → f_X2_whichOn_2 n 1 (nI p) (nI b) (nI t) X = some (oI (ocG b.testBit pl p e t), X) := by
  intro e
  induction e with
  | zero =>
    intro t n h1 h2
    obtain ⟨n, rfl⟩ : ∃ m, n = m + 1 := ⟨n - 1, by omega⟩
    rw [f_X2_whichOn_2, hV.1, show t = N by omega, if_pos (Int32.le_refl _)]
    rfl
  | succ e ih =>
    intro t n h1 h2
    obtain ⟨n, rfl⟩ : ∃ m, n = m + 1 := ⟨n - 1, by omega⟩
    have ht : t < N := by omega
    obtain ⟨x3, l3⟩ := hV.2 t ht
    rw [f_X2_whichOn_2, hV.1, if_neg (nI_ge ht (by omega)), q_bit (by omega), aB_some]
    unfold f_X2_whichOn_34 ocG
    rw [aLt_eq, nI_1]
    dsimp only
    rw [ih (t + 1) n (by omega) (by omega)]
    cases hc : b.testBit t with
    | false =>
      rw [if_pos ((tb_I hb (by omega)).mpr hc), if_neg (fun h => by cases h.1)]
    | true =>
      rw [if_neg (fun h => by rw [(tb_I hb (by omega)).mp h] at hc; cases hc), if_neg (q_chk (by omega) (by omega)), nI_clamp (by omega), x3]
      by_cases hq : pl t = p
      · rw [if_pos (congrArg nI hq), if_pos ⟨rfl, hq⟩]; rfl
      · rw [if_neg (fun e => hq ((nI_eq (by omega) (by omega)).mp e)), if_neg (fun h => hq h.2)]
theorem q_which {N b p : Nat} {pl : Nat → Nat} {X : aSt} (hV : VX N pl X) (hN6 : N ≤ 6) (hb : b < 64) (hp : p < 64) : f_X2_whichOn 1 (nI p) (nI b) X = some (oI (ocG b.testBit pl p N 0), X) := q_which2 hV hN6 hb hp N 0 aF (by omega) (by have := aF_big; omega)
theorem q_stnd {t s : Nat} {M : aSt} (ht : t < 6) (h : M.1 1 (152 + t) = nI s) (hs : s ≤ 1) : f_X7_isStanding (nI t) M = some (bI (decide (s = 1)), M) := by
  unfold f_X7_isStanding
  rw [show (152 : Int32) + nI t = nI (152 + t) from nI_add 152 t, if_neg (q_chk (by omega) (by omega)), nI_clamp (by omega), h]
  rcases (show s = 0 ∨ s = 1 by omega) with rfl | rfl <;> rfl
def stA (st : Nat → Nat) (bt : Option Nat) (t : Nat) : Bool := decide (st t = 1) && !(decide (bt = some t))
theorem q_on2 {N p : Nat} {st pl : Nat → Nat} {M : aSt} (bt : Option Nat) (hV : VM N st pl M) (hN6 : N ≤ 6) (hp : p < 64) (hbt : ∀ t, bt = some t → t < 6) : ∀ e t n, t + e = N → e < n → f_X7_standingOn_2 n (nI p) (o1 bt) (nI t) M = some (o1 (ocG (stA st bt) pl p e t), M) := by
  intro e
  induction e with
  | zero =>
    intro t n h1 h2
    obtain ⟨n, rfl⟩ : ∃ m, n = m + 1 := ⟨n - 1, by omega⟩
    rw [f_X7_standingOn_2, hV.1, show t = N by omega, if_pos (Int32.le_refl _)]
    rfl
  | succ e ih =>
    intro t n h1 h2
    obtain ⟨n, rfl⟩ : ∃ m, n = m + 1 := ⟨n - 1, by omega⟩
    have ht : t < N := by omega
    obtain ⟨x3, l3, x4, l4⟩ := hV.2 t ht
    have hne : nI t = o1 bt ↔ bt = some t := by
      cases bt with
      | none => exact ⟨fun e => absurd e (neg_ne (by omega) (by decide)), fun e => by cases e⟩
      | some u =>
        have := hbt u rfl
        constructor
        · intro e
          rw [(nI_eq (by omega) (by omega)).mp e]
        · intro e
          rw [Option.some.inj e]; rfl
    rw [f_X7_standingOn_2, hV.1, if_neg (nI_ge ht (by omega)), q_stnd (by omega) x3 l3, aB_some, show (122 : Int32) + nI t = nI (122 + t) from nI_add 122 t, nI_clamp (by omega), x4]
    unfold f_X7_standingOn_40 ocG
    rw [aLt_eq, nI_1]
    dsimp only
    rw [ih (t + 1) n (by omega) (by omega), show stA st bt t = (decide (st t = 1) && !decide (bt = some t)) from rfl]
    by_cases c : bt = some t
    · rw [if_pos (hne.mpr c), decide_eq_true c, if_neg (fun h => by have := h.1; simp at this)]
    · rw [if_neg (fun h => c (hne.mp h)), decide_eq_false c]
      by_cases d : st t = 1
      · rw [decide_eq_true d, if_neg (show ¬ bI true = 0 by decide), if_neg (q_chk2 (by omega) (by omega))]
        by_cases hq : pl t = p
        · rw [if_pos (congrArg nI hq), if_pos ⟨rfl, hq⟩]; rfl
        · rw [if_neg (fun e => hq ((nI_eq (by omega) (by omega)).mp e)), if_neg (fun h => hq h.2)]
      · rw [decide_eq_false d, if_pos (show bI false = 0 from rfl), if_neg (fun h => by have := h.1; simp at this)]
theorem q_on {N p : Nat} {st pl : Nat → Nat} {M : aSt} (bt : Option Nat) (hV : VM N st pl M) (hN6 : N ≤ 6) (hp : p < 64) (hbt : ∀ t, bt = some t → t < 6) : f_X7_standingOn (nI p) (o1 bt) M = some (o1 (ocG (stA st bt) pl p N 0), M) := q_on2 bt hV hN6 hp hbt N 0 aF (by omega) (by have := aF_big; omega)

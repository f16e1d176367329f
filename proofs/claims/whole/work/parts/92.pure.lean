/-! PURE PART: how a WOOD is read: one reader for both -/
abbrev PR : Type := Bool × Nat × List Nat
def chO (tp : Nat → Nat) (en p : Nat) : Option Nat := if p < en then some (tp p) else none
theorem chO_lt {tp : Nat → Nat} {en p c : Nat} (h : chO tp en p = some c) : p < en ∧ c = tp p := by
  unfold chO at h
  by_cases k : p < en
  · rw [if_pos k] at h
    exact ⟨k, (Option.some.inj h).symm⟩
  · rw [if_neg k] at h
    cases h
theorem chO_end {tp : Nat → Nat} {en p : Nat} (h : en ≤ p) : chO tp en p = none := if_neg (by omega)
def pAll (tp : Nat → Nat) (en : Nat) : List Nat → Nat → Bool × Nat
  | [], p => (true, p)
  | c :: r, p => if chO tp en p = some c then pAll tp en r (p + 1) else (false, p)
theorem pAll_in {tp : Nat → Nat} {en : Nat} : ∀ (l : List Nat) (p : Nat), p ≤ en → p ≤ (pAll tp en l p).2 ∧ (pAll tp en l p).2 ≤ en ∧ ((pAll tp en l p).1 = true → (pAll tp en l p).2 = p + l.length)
  | [], p, h => ⟨Nat.le_refl _, h, fun _ => rfl⟩
  | c :: r, p, h => by
    unfold pAll
    by_cases k : chO tp en p = some c
    · rw [if_pos k]
      have h1 := (chO_lt k).1
      obtain ⟨a, b, d⟩ := pAll_in (tp := tp) (en := en) r (p + 1) (by omega)
      exact ⟨by omega, b, fun e => by rw [d e]; show p + 1 + r.length = p + (r.length + 1); omega⟩
    · rw [if_neg k]
      exact ⟨Nat.le_refl _, h, fun e => by cases e⟩
theorem pAll_app {tp : Nat → Nat} {en : Nat} (b : List Nat) : ∀ (a : List Nat) (p : Nat), pAll tp en (a ++ b) p = if (pAll tp en a p).1 = true then pAll tp en b (pAll tp en a p).2 else pAll tp en a p
  | [], p => by
    exact (if_pos (show (pAll tp en [] p).1 = true from rfl)).symm
  | c :: r, p => by
    show (if chO tp en p = some c then pAll tp en (r ++ b) (p + 1) else (false, p)) = if (if chO tp en p = some c then pAll tp en r (p + 1) else (false, p)).1 = true then pAll tp en b (if chO tp en p = some c then pAll tp en r (p + 1) else (false, p)).2 else (if chO tp en p = some c then pAll tp en r (p + 1) else (false, p))
    by_cases k : chO tp en p = some c
    · simp only [if_pos k]
      exact pAll_app b r (p + 1)
    · simp only [if_neg k]
      rfl
def pIx : List Nat → Nat → Nat → Option Nat
  | [], _, _ => none
  | c :: r, k, t => if t = c then some k else pIx r (k + 1) t
theorem pIx_lt : ∀ {l : List Nat} {k t x : Nat}, pIx l k t = some x → k ≤ x ∧ x < k + l.length
  | [], _, _, _, h => by cases h
  | c :: r, k, t, x, h => by
    unfold pIx at h
    by_cases e : t = c
    · rw [if_pos e] at h
      cases h
      exact ⟨Nat.le_refl _, by show k < k + (r.length + 1); omega⟩
    · rw [if_neg e] at h
      have := pIx_lt h
      exact ⟨by omega, by show x < k + (r.length + 1); omega⟩
def pOne (tp : Nat → Nat) (en : Nat) (l : List Nat) (p : Nat) : Option Nat := (chO tp en p).bind (pIx l 0)
/-- where one stands behind looking for one of some signs -/
def nxO (o : Option Nat) (p : Nat) : Nat := match o with
  | none => p
  | some _ => p + 1
theorem pOne_in {tp : Nat → Nat} {en : Nat} {l : List Nat} {p k : Nat} (h : pOne tp en l p = some k) : p < en ∧ k < l.length := by
  unfold pOne at h
  cases hc : chO tp en p with
  | none => rw [hc] at h; cases h
  | some t =>
    rw [hc] at h
    have := pIx_lt (show pIx l 0 t = some k from h)
    exact ⟨(chO_lt hc).1, by omega⟩
def dG : List Nat := [48, 49, 50, 51, 52, 53, 54, 55, 56, 57]
def lT : List Nat := [116, 107, 104, 108, 111, 119]
def rL : List Nat := [60, 61, 62]
def pNum (tp : Nat → Nat) (en p : Nat) : Option Nat × Nat := match pOne tp en dG p with
  | none => (none, p)
  | some d => if d = 0 then (some 0, p + 1) else match pOne tp en dG (p + 1) with
    | none => (some d, p + 1)
    | some e => (some (10 * d + e), p + 2)
theorem pNum_in {tp : Nat → Nat} {en p : Nat} (hp : p ≤ en) : p ≤ (pNum tp en p).2 ∧ (pNum tp en p).2 ≤ en ∧ ∀ n, (pNum tp en p).1 = some n → n < 100 ∧ p < (pNum tp en p).2 := by
  unfold pNum
  cases h1 : pOne tp en dG p with
  | none => exact ⟨Nat.le_refl _, hp, fun n e => by cases e⟩
  | some d =>
    obtain ⟨a1, a2⟩ := pOne_in h1
    have a2 : d < 10 := a2
    dsimp only
    by_cases h0 : d = 0
    · rw [if_pos h0]
      exact ⟨by show p ≤ p + 1; omega, a1, fun n e => ⟨by cases e; omega, by show p < p + 1; omega⟩⟩
    · rw [if_neg h0]
      cases h2 : pOne tp en dG (p + 1) with
      | none => exact ⟨by show p ≤ p + 1; omega, a1, fun n e => ⟨by cases e; omega, by show p < p + 1; omega⟩⟩
      | some x =>
        obtain ⟨b1, b2⟩ := pOne_in h2
        have b2 : x < 10 := b2
        exact ⟨by show p ≤ p + 2; omega, by show p + 2 ≤ en; omega, fun n e => ⟨by cases e; omega, by show p < p + 2; omega⟩⟩
def pTest (tp : Nat → Nat) (en p : Nat) : PR := match pOne tp en lT p with
  | none => (false, p, [])
  | some a => match pOne tp en rL (p + 1) with
    | none => (false, p + 1, [])
    | some b => match (pNum tp en (p + 2)).1 with
      | none => (false, (pNum tp en (p + 2)).2, [])
      | some n => (true, (pNum tp en (p + 2)).2, [3 + (a + 6 * b + 18 * n)])
/-- what is good about a reader: where it stops, how many signs, how high they wait -/
def Gd (en h : Nat) (f : Nat → PR) : Prop := ∀ p, p ≤ en → p ≤ (f p).2.1 ∧ (f p).2.1 ≤ en ∧ (f p).2.2.length + p ≤ (f p).2.1 ∧ ((f p).1 = true → ∀ k, k + h ≤ 16 → sgH (f p).2.2 k = some (k + 1))
theorem sgH_app (b : List Nat) : ∀ (a : List Nat) (k : Nat), sgH (a ++ b) k = (sgH a k).bind (sgH b)
  | [], k => rfl
  | c :: r, k => by
    show (if c = 0 then (if k = 0 then none else sgH (r ++ b) k) else if c = 1 ∨ c = 2 then (if k < 2 then none else sgH (r ++ b) (k - 1)) else if 16 ≤ k ∨ 18 * 100 + 3 ≤ c then none else sgH (r ++ b) (k + 1)) = (if c = 0 then (if k = 0 then none else sgH r k) else if c = 1 ∨ c = 2 then (if k < 2 then none else sgH r (k - 1)) else if 16 ≤ k ∨ 18 * 100 + 3 ≤ c then none else sgH r (k + 1)).bind (sgH b)
    rw [sgH_app b r k, sgH_app b r (k - 1), sgH_app b r (k + 1)]
    split
    · split <;> rfl
    · split
      · split <;> rfl
      · split <;> rfl
theorem Gd_test {tp : Nat → Nat} {en : Nat} : Gd en 1 (pTest tp en) := by
  intro p hp
  unfold pTest
  cases h1 : pOne tp en lT p with
  | none => exact ⟨Nat.le_refl _, hp, by show 0 + p ≤ p; omega, fun e => by cases e⟩
  | some a =>
    obtain ⟨a1, a2⟩ := pOne_in h1
    have a2 : a < 6 := a2
    dsimp only
    cases h2 : pOne tp en rL (p + 1) with
    | none => exact ⟨by show p ≤ p + 1; omega, a1, by show 0 + p ≤ p + 1; omega, fun e => by cases e⟩
    | some b =>
      obtain ⟨b1, b2⟩ := pOne_in h2
      have b2 : b < 3 := b2
      dsimp only
      obtain ⟨n1, n2, n3⟩ := pNum_in (tp := tp) (en := en) (p := p + 2) (by omega)
      cases h3 : (pNum tp en (p + 2)).1 with
      | none => exact ⟨by show p ≤ (pNum tp en (p + 2)).2; omega, n2, by show 0 + p ≤ (pNum tp en (p + 2)).2; omega, fun e => by cases e⟩
      | some n =>
        obtain ⟨m1, m2⟩ := n3 n h3
        refine ⟨by show p ≤ (pNum tp en (p + 2)).2; omega, n2, by show 1 + p ≤ (pNum tp en (p + 2)).2; omega, fun _ k hk => ?_⟩
        show (if 3 + (a + 6 * b + 18 * n) = 0 then _ else if 3 + (a + 6 * b + 18 * n) = 1 ∨ 3 + (a + 6 * b + 18 * n) = 2 then _ else if 16 ≤ k ∨ 18 * 100 + 3 ≤ 3 + (a + 6 * b + 18 * n) then none else sgH [] (k + 1)) = _
        rw [if_neg (by omega), if_neg (by omega), if_neg (by omega)]
        rfl
def pLp (tp : Nat → Nat) (en sep cd : Nat) (f : Nat → PR) : Nat → Nat → PR
  | 0, p => (true, p, [])
  | n + 1, p => if chO tp en p = some sep then (if (f (p + 1)).1 = true then ((pLp tp en sep cd f n (f (p + 1)).2.1).1, (pLp tp en sep cd f n (f (p + 1)).2.1).2.1, (f (p + 1)).2.2 ++ cd :: (pLp tp en sep cd f n (f (p + 1)).2.1).2.2) else f (p + 1)) else (true, p, [])
def pCh (tp : Nat → Nat) (en sep cd : Nat) (f : Nat → PR) (p : Nat) : PR := if (f p).1 = true then ((pLp tp en sep cd f 100 (f p).2.1).1, (pLp tp en sep cd f 100 (f p).2.1).2.1, (f p).2.2 ++ (pLp tp en sep cd f 100 (f p).2.1).2.2) else f p
theorem Gd_lp {tp : Nat → Nat} {en sep cd h : Nat} {f : Nat → PR} (hc : cd = 1 ∨ cd = 2) (hf : Gd en h f) : ∀ n p, p ≤ en → p ≤ (pLp tp en sep cd f n p).2.1 ∧ (pLp tp en sep cd f n p).2.1 ≤ en ∧ (pLp tp en sep cd f n p).2.2.length + p ≤ (pLp tp en sep cd f n p).2.1 ∧ ((pLp tp en sep cd f n p).1 = true → ∀ k, k + (h + 1) ≤ 16 → sgH (pLp tp en sep cd f n p).2.2 (k + 1) = some (k + 1))
  | 0, p, hp => ⟨Nat.le_refl _, hp, by show 0 + p ≤ p; omega, fun _ k _ => rfl⟩
  | n + 1, p, hp => by
    unfold pLp
    by_cases c : chO tp en p = some sep
    · have hl := (chO_lt c).1
      obtain ⟨f1, f2, f3, f4⟩ := hf (p + 1) (by omega)
      rw [if_pos c]
      by_cases k : (f (p + 1)).1 = true
      · rw [if_pos k]
        obtain ⟨g1, g2, g3, g4⟩ := Gd_lp (tp := tp) (sep := sep) hc hf n (f (p + 1)).2.1 f2
        refine ⟨by show p ≤ (pLp tp en sep cd f n (f (p + 1)).2.1).2.1; omega, g2, ?_, fun e q hq => ?_⟩
        · show ((f (p + 1)).2.2 ++ cd :: (pLp tp en sep cd f n (f (p + 1)).2.1).2.2).length + p ≤ (pLp tp en sep cd f n (f (p + 1)).2.1).2.1
          rw [List.length_append, List.length_cons]
          omega
        · show sgH ((f (p + 1)).2.2 ++ cd :: (pLp tp en sep cd f n (f (p + 1)).2.1).2.2) (q + 1) = some (q + 1)
          rw [sgH_app, f4 k (q + 1) (by omega)]
          show (if cd = 0 then _ else if cd = 1 ∨ cd = 2 then (if q + 1 + 1 < 2 then none else sgH (pLp tp en sep cd f n (f (p + 1)).2.1).2.2 (q + 1 + 1 - 1)) else _) = _
          rw [if_neg (by omega), if_pos hc, if_neg (by omega)]
          exact g4 e q hq
      · rw [if_neg k]
        exact ⟨by omega, f2, by omega, fun e => absurd e k⟩
    · rw [if_neg c]
      exact ⟨Nat.le_refl _, hp, by show 0 + p ≤ p; omega, fun _ k _ => rfl⟩
theorem Gd_ch {tp : Nat → Nat} {en sep cd h : Nat} {f : Nat → PR} (hc : cd = 1 ∨ cd = 2) (hf : Gd en h f) : Gd en (h + 1) (pCh tp en sep cd f) := by
  intro p hp
  unfold pCh
  obtain ⟨f1, f2, f3, f4⟩ := hf p hp
  by_cases k : (f p).1 = true
  · rw [if_pos k]
    obtain ⟨g1, g2, g3, g4⟩ := Gd_lp (tp := tp) (sep := sep) hc hf 100 (f p).2.1 f2
    refine ⟨by show p ≤ (pLp tp en sep cd f 100 (f p).2.1).2.1; omega, g2, ?_, fun e q hq => ?_⟩
    · show ((f p).2.2 ++ (pLp tp en sep cd f 100 (f p).2.1).2.2).length + p ≤ (pLp tp en sep cd f 100 (f p).2.1).2.1
      rw [List.length_append]
      omega
    · show sgH ((f p).2.2 ++ (pLp tp en sep cd f 100 (f p).2.1).2.2) q = some (q + 1)
      rw [sgH_app, f4 k q (by omega)]
      exact g4 e q hq
  · rw [if_neg k]
    exact ⟨f1, f2, f3, fun e => absurd e k⟩
def pEf (tp : Nat → Nat) (en : Nat) (f : Nat → PR) : Nat → PR := pCh tp en 124 2 (pCh tp en 38 1 f)
def pFs (tp : Nat → Nat) (en : Nat) (f : Nat → PR) (p : Nat) : PR := if chO tp en p = some 33 then (if (f (p + 1)).1 = true then (true, (f (p + 1)).2.1, (f (p + 1)).2.2 ++ [0]) else f (p + 1)) else if chO tp en p = some 40 then (if (pEf tp en f (p + 1)).1 = true then (if chO tp en (pEf tp en f (p + 1)).2.1 = some 41 then (true, (pEf tp en f (p + 1)).2.1 + 1, (pEf tp en f (p + 1)).2.2) else (false, (pEf tp en f (p + 1)).2.1, (pEf tp en f (p + 1)).2.2)) else pEf tp en f (p + 1)) else pTest tp en p
def pF0 (tp : Nat → Nat) (en p : Nat) : PR := if chO tp en p = some 33 then (false, p, []) else if chO tp en p = some 40 then (false, p, []) else pTest tp en p
def pF (tp : Nat → Nat) (en : Nat) : Nat → (Nat → PR)
  | 0 => pF0 tp en
  | d + 1 => pFs tp en (pF tp en d)
theorem Gd_F {tp : Nat → Nat} {en : Nat} : ∀ d, Gd en (2 * d + 1) (pF tp en d)
  | 0 => by
    intro p hp
    show p ≤ (pF0 tp en p).2.1 ∧ (pF0 tp en p).2.1 ≤ en ∧ (pF0 tp en p).2.2.length + p ≤ (pF0 tp en p).2.1 ∧ ((pF0 tp en p).1 = true → ∀ k, k + 1 ≤ 16 → sgH (pF0 tp en p).2.2 k = some (k + 1))
    unfold pF0
    by_cases c : chO tp en p = some 33
    · rw [if_pos c]
      exact ⟨Nat.le_refl _, hp, by show 0 + p ≤ p; omega, fun e => by cases e⟩
    · rw [if_neg c]
      by_cases c2 : chO tp en p = some 40
      · rw [if_pos c2]
        exact ⟨Nat.le_refl _, hp, by show 0 + p ≤ p; omega, fun e => by cases e⟩
      · rw [if_neg c2]
        exact Gd_test p hp
  | d + 1 => by
    have hf := Gd_F (tp := tp) (en := en) d
    have he : Gd en (2 * d + 1 + 1 + 1) (pEf tp en (pF tp en d)) := Gd_ch (Or.inr rfl) (Gd_ch (Or.inl rfl) hf)
    intro p hp
    show p ≤ (pFs tp en (pF tp en d) p).2.1 ∧ (pFs tp en (pF tp en d) p).2.1 ≤ en ∧ (pFs tp en (pF tp en d) p).2.2.length + p ≤ (pFs tp en (pF tp en d) p).2.1 ∧ ((pFs tp en (pF tp en d) p).1 = true → ∀ k, k + (2 * (d + 1) + 1) ≤ 16 → sgH (pFs tp en (pF tp en d) p).2.2 k = some (k + 1))
    unfold pFs
    by_cases c : chO tp en p = some 33
    · have hl := (chO_lt c).1
      rw [if_pos c]
      obtain ⟨f1, f2, f3, f4⟩ := hf (p + 1) (by omega)
      by_cases k : (pF tp en d (p + 1)).1 = true
      · rw [if_pos k]
        refine ⟨by show p ≤ (pF tp en d (p + 1)).2.1; omega, f2, ?_, fun _ q hq => ?_⟩
        · show ((pF tp en d (p + 1)).2.2 ++ [0]).length + p ≤ (pF tp en d (p + 1)).2.1
          rw [List.length_append]
          show (pF tp en d (p + 1)).2.2.length + 1 + p ≤ _
          omega
        · show sgH ((pF tp en d (p + 1)).2.2 ++ [0]) q = some (q + 1)
          rw [sgH_app, f4 k q (by omega)]
          show (if q + 1 = 0 then none else sgH [] (q + 1)) = _
          rw [if_neg (by omega)]
          rfl
      · rw [if_neg k]
        exact ⟨by omega, f2, by omega, fun e => absurd e k⟩
    · rw [if_neg c]
      by_cases c2 : chO tp en p = some 40
      · have hl := (chO_lt c2).1
        rw [if_pos c2]
        obtain ⟨f1, f2, f3, f4⟩ := he (p + 1) (by omega)
        by_cases k : (pEf tp en (pF tp en d) (p + 1)).1 = true
        · rw [if_pos k]
          by_cases c3 : chO tp en (pEf tp en (pF tp en d) (p + 1)).2.1 = some 41
          · have hl3 := (chO_lt c3).1
            rw [if_pos c3]
            refine ⟨by show p ≤ (pEf tp en (pF tp en d) (p + 1)).2.1 + 1; omega, hl3, by show (pEf tp en (pF tp en d) (p + 1)).2.2.length + p ≤ (pEf tp en (pF tp en d) (p + 1)).2.1 + 1; omega, fun _ q hq => f4 k q (by omega)⟩
          · rw [if_neg c3]
            exact ⟨by show p ≤ (pEf tp en (pF tp en d) (p + 1)).2.1; omega, f2, by show (pEf tp en (pF tp en d) (p + 1)).2.2.length + p ≤ (pEf tp en (pF tp en d) (p + 1)).2.1; omega, fun e => by cases e⟩
        · rw [if_neg k]
          exact ⟨by omega, f2, by omega, fun e => absurd e k⟩
      · rw [if_neg c2]
        obtain ⟨f1, f2, f3, f4⟩ := Gd_test (tp := tp) p hp
        exact ⟨f1, f2, f3, fun e q hq => f4 e q (by omega)⟩
/-- E -/
def pE (tp : Nat → Nat) (en : Nat) : Nat → PR := pEf tp en (pF tp en 5)
theorem Gd_E {tp : Nat → Nat} {en : Nat} : Gd en 13 (pE tp en) := Gd_ch (Or.inr rfl) (Gd_ch (Or.inl rfl) (Gd_F 5))

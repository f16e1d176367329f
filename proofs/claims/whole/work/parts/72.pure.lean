/-! PURE PART: how a TREE goes: the numbers; the class's push -/
def al (a b : Nat) : Int32 := nI 2 - nI (if 4 < (a + 8 - b) % 8 then 8 - (a + 8 - b) % 8 else (a + 8 - b) % 8)
def si (a b : Nat) : Int32 := if (a + 8 - b) % 8 = 0 ∨ (a + 8 - b) % 8 = 4 then 0 else if (a + 8 - b) % 8 < 4 then 1 else -1
theorem lt8 {a : Nat} (h : a < 8) : a = 0 ∨ a = 1 ∨ a = 2 ∨ a = 3 ∨ a = 4 ∨ a = 5 ∨ a = 6 ∨ a = 7 := by omega
def z0 : aSt := (fun _ _ => 0, fun _ _ => 0)
theorem ite_S {α β : Type} {c : Prop} [Decidable c] (a b : α) (S : β) : (if c then some (a, S) else some (b, S)) = some (if c then a else b, S) := by split <;> rfl
theorem map_S {F : aSt → Option (Int32 × aSt)} (hF : ∀ S S0, F S = (F S0).map (fun q => (q.1, S))) {v : Int32} {S0 : aSt} (h : (F S0).map Prod.fst = some v) (S : aSt) : F S = some (v, S) := by
  rw [hF S S0]
  cases e : F S0 with
  | none => rw [e] at h; cases h
  | some q =>
    rw [e] at h
    have h : q.1 = v := Option.some.inj h
    show some (q.1, S) = _
    rw [h]
theorem al6_t : ∀ a : Fin 8, ∀ b : Fin 8, (f_X6_alongOf (nI a.1) (nI b.1) z0).map Prod.fst = some (al a.1 b.1) := by decide +kernel
theorem si6_t : ∀ a : Fin 8, ∀ b : Fin 8, (f_X6_sideOf (nI a.1) (nI b.1) z0).map Prod.fst = some (si a.1 b.1) := by decide +kernel
theorem al7_t : ∀ a : Fin 8, ∀ b : Fin 8, (f_X7_along (nI a.1) (nI b.1) z0).map Prod.fst = some (al a.1 b.1) := by decide +kernel
theorem si7_t : ∀ a : Fin 8, ∀ b : Fin 8, (f_X7_side (nI a.1) (nI b.1) z0).map Prod.fst = some (si a.1 b.1) := by decide +kernel
theorem q6_al {a b : Nat} (ha : a < 8) (hb : b < 8) (S : aSt) : f_X6_alongOf (nI a) (nI b) S = some (al a b, S) := map_S (F := f_X6_alongOf (nI a) (nI b)) (fun S S0 => by simp only [f_X6_alongOf, f_X6_stepsBehind, aB_some, Option.map_some]) (al6_t ⟨a, ha⟩ ⟨b, hb⟩) S
theorem q6_si {a b : Nat} (ha : a < 8) (hb : b < 8) (S : aSt) : f_X6_sideOf (nI a) (nI b) S = some (si a b, S) := map_S (F := f_X6_sideOf (nI a) (nI b)) (fun S S0 => by simp only [f_X6_sideOf, f_X6_stepsBehind, aB_some, ite_S, Option.map_some]) (si6_t ⟨a, ha⟩ ⟨b, hb⟩) S
theorem q7_al {a b : Nat} (ha : a < 8) (hb : b < 8) (S : aSt) : f_X7_along (nI a) (nI b) S = some (al a b, S) := map_S (F := f_X7_along (nI a) (nI b)) (fun S S0 => by simp only [f_X7_along, f_X7_along_24, aLt_eq, ite_S, Option.map_some]) (al7_t ⟨a, ha⟩ ⟨b, hb⟩) S
theorem q7_si {a b : Nat} (ha : a < 8) (hb : b < 8) (S : aSt) : f_X7_side (nI a) (nI b) S = some (si a b, S) := map_S (F := f_X7_side (nI a) (nI b)) (fun S S0 => by simp only [f_X7_side, aLt_eq, ite_S, Option.map_some]) (si7_t ⟨a, ha⟩ ⟨b, hb⟩) S
def ab (x : Int32) : Int32 := if 0 ≤ x then x else -x
def gF0 (W : PW) (i : Nat) (T : Nat → Nat) (g : Option Nat) : Int32 := match g with
  | none => nI (T 4) * al (T 5) (T 8) + nI W.1 * nI (T 11) + nI W.2.1 * nI (T 13) * al (T 12) (T 8)
  | some w => nI (T 4) * al (T 5) (T 8) + nI W.1 * nI (T 11) + nI W.2.1 * nI (T 13) * al (T 12) (T 8) + nI (totL i T w 2 W.2.2) * al w (T 8)
def gA0 (W : PW) (i : Nat) (T : Nat → Nat) (g : Option Nat) : Int32 := match g with
  | none => nI (T 4) * si (T 5) (T 8) + nI (T 10) - nI (T 9) + nI W.2.1 * nI (T 13) * si (T 12) (T 8)
  | some w => nI (T 4) * si (T 5) (T 8) + nI (T 10) - nI (T 9) + nI W.2.1 * nI (T 13) * si (T 12) (T 8) + nI (totL i T w 2 W.2.2) * si w (T 8)
def gS0 (W : PW) (i : Nat) (T : Nat → Nat) : Nat := (1 + totL i T (T 8) 0 W.2.2) * (T 9 + T 10) - T 6 * (T 9 + T 10) / 10
def gP0 (W : PW) (i : Nat) (T : Nat → Nat) : Nat := 40 - totL i T (T 8) 1 W.2.2
def kF (k v : Nat) (f : Int32) : Int32 := if k = 3 ∨ k = 6 then f - nI v else f
def kA1 (k v : Nat) (a : Int32) : Int32 := if k = 1 ∨ k = 4 then (if nI v < ab a then a else 0) else a
def kA (k v : Nat) (a : Int32) : Int32 := if k = 2 ∨ k = 5 then kA1 k v a + nI v else kA1 k v a
def kS (k v s : Nat) : Nat := if k = 5 then s - v else s
def kP (k v s : Nat) : Nat := if k = 6 then s - v else s
def hw (f a : Int32) (st sp : Nat) : Nat := if 0 ≤ f then (if f ≤ nI sp then (if ab a ≤ nI st then (if nI 2 * ab a ≤ nI st then 0 else 1) else 3) else 4) else 2
def wy (how : Nat) (a : Int32) (notch : Nat) : Int32 := if how = 2 then -5 else if how = 1 then nI ((notch + (if a ≤ 0 then 7 else 1)) % 8) else if how = 3 then nI ((notch + (if a ≤ 0 then 6 else 2)) % 8) else nI notch
def gF (W : PW) (i : Nat) (T : Nat → Nat) (g : Option Nat) : Int32 := kF (T 0) (T 1) (gF0 W i T g)
def gA (W : PW) (i : Nat) (T : Nat → Nat) (g : Option Nat) : Int32 := kA (T 0) (T 1) (gA0 W i T g)
def gS (W : PW) (i : Nat) (T : Nat → Nat) : Nat := kS (T 0) (T 1) (gS0 W i T)
def gP (W : PW) (i : Nat) (T : Nat → Nat) : Nat := kP (T 0) (T 1) (gP0 W i T)
def gH (W : PW) (i : Nat) (T : Nat → Nat) (g : Option Nat) : Nat := hw (gF W i T g) (gA W i T g) (gS W i T) (gP W i T)
def gY (W : PW) (i : Nat) (T : Nat → Nat) (g : Option Nat) : Int32 := wy (gH W i T g) (gA W i T g) (T 8)
def gG (g : Option Nat) : Int32 := match g with
  | none => -1
  | some w => nI w
theorem hw_lt (f a : Int32) (st sp : Nat) : hw f a st sp < 5 := by
  unfold hw
  split
  · split
    · split
      · split <;> omega
      · omega
    · omega
  · omega
theorem ab_0 (x : Int32) : (if 0 ≤ x then x else 0 - x) = ab x := by
  unfold ab
  rw [Int32.zero_sub]
theorem max_I {s v : Nat} (hs : s < 2 ^ 30) (hv : v < 2 ^ 30) : (if 0 < nI s - nI v then nI s - nI v else 0) = nI (s - v) := by
  by_cases h : v < s
  · rw [pk_sub (by omega), if_pos (show (0 : Int32) < nI (s - v) from nI_lt (a := 0) (by omega) (by omega))]
  · rw [show s - v = 0 by omega, if_neg]
    · rfl
    · intro e
      have e := Int32.lt_iff_toInt_lt.mp e
      rw [pk_sub_toInt hs hv] at e
      have : (0 : Int32).toInt = 0 := by decide
      omega
/-- only cell 29's numbers -/
def CF (X X' : aSt) : Prop := (∀ k, k ≠ 29 → X'.1 k = X.1 k) ∧ X'.2 = X.2
theorem CF.tr {A B C : aSt} (h : CF A B) (g : CF B C) : CF A C := ⟨fun k hk => (g.1 k hk).trans (h.1 k hk), g.2.trans h.2⟩
theorem CF.rf (A : aSt) : CF A A := ⟨fun _ _ => rfl, rfl⟩
theorem CF.up (A : aSt) (j : Nat) (v : Int32) : CF A (aUi A 29 j v) := ⟨fun k hk => aUi_row hk, rfl⟩
theorem q_change {k v s p : Nat} {f a : Int32} {S : aSt} (hk : k < 7) (hv : v < 10) (hs : s < 2 ^ 30) (hp : p < 2 ^ 30) (h0 : S.1 29 0 = f) (h1 : S.1 29 1 = a) (h2 : S.1 29 2 = nI s) (h3 : S.1 29 3 = nI p) : ∃ S', f_X1_changeByKind (nI k) (nI v) S = some ((), S') ∧ CF S S' ∧ S'.1 29 0 = kF k v f ∧ S'.1 29 1 = kA k v a ∧ S'.1 29 2 = nI (kS k v s) ∧ S'.1 29 3 = nI (kP k v p) ∧ ∀ j, 4 ≤ j → S'.1 29 j = S.1 29 j := by
  have ms := max_I (s := s) (v := v) hs (by omega)
  have mp := max_I (s := p) (v := v) hp (by omega)
  unfold f_X1_changeByKind f_X1_changeByKind_10 f_X1_changeByKind_26 f_X1_changeByKind_36 f_X1_changeByKind_46 f_X1_changeByKind_65 f_X1_changeByKind_76 f_X1_changeByKind_86
  simp only [ab_0]
  rcases (show k = 0 ∨ k = 1 ∨ k = 2 ∨ k = 3 ∨ k = 4 ∨ k = 5 ∨ k = 6 by omega) with rfl | rfl | rfl | rfl | rfl | rfl | rfl
  · refine ⟨S, rfl, CF.rf S, h0, h1, h2, h3, fun _ _ => rfl⟩
  · by_cases h : nI v < ab a
    · refine ⟨S, ?_, CF.rf S, h0, by rw [h1]; show a = (if nI v < ab a then a else 0); rw [if_pos h], h2, h3, fun _ _ => rfl⟩
      rw [h1, if_pos h]; rfl
    · refine ⟨aUi S 29 1 0, ?_, CF.up S 1 0, by rw [aUi_ne (by omega)]; exact h0, by rw [aUi_at]; show 0 = (if nI v < ab a then a else 0); rw [if_neg h], by rw [aUi_ne (by omega)]; exact h2, by rw [aUi_ne (by omega)]; exact h3, fun j hj => aUi_ne (by omega)⟩
      rw [h1, if_neg h]; rfl
  · refine ⟨aUi S 29 1 (a + nI v), ?_, CF.up S 1 _, by rw [aUi_ne (by omega)]; exact h0, aUi_at, by rw [aUi_ne (by omega)]; exact h2, by rw [aUi_ne (by omega)]; exact h3, fun j hj => aUi_ne (by omega)⟩
    rw [h1]; rfl
  · refine ⟨aUi S 29 0 (f - nI v), ?_, CF.up S 0 _, aUi_at, by rw [aUi_ne (by omega)]; exact h1, by rw [aUi_ne (by omega)]; exact h2, by rw [aUi_ne (by omega)]; exact h3, fun j hj => aUi_ne (by omega)⟩
    rw [h0]; rfl
  · by_cases h : nI v < ab a
    · refine ⟨S, ?_, CF.rf S, h0, by rw [h1]; show a = (if nI v < ab a then a else 0); rw [if_pos h], h2, h3, fun _ _ => rfl⟩
      rw [h1, if_pos h]; rfl
    · refine ⟨aUi S 29 1 0, ?_, CF.up S 1 0, by rw [aUi_ne (by omega)]; exact h0, by rw [aUi_at]; show 0 = (if nI v < ab a then a else 0); rw [if_neg h], by rw [aUi_ne (by omega)]; exact h2, by rw [aUi_ne (by omega)]; exact h3, fun j hj => aUi_ne (by omega)⟩
      rw [h1, if_neg h]; rfl
  · refine ⟨aUi (aUi S 29 1 (a + nI v)) 29 2 (nI (s - v)), ?_, (CF.up S 1 _).tr (CF.up _ 2 _), by rw [aUi_ne (by omega), aUi_ne (by omega)]; exact h0, by rw [aUi_ne (by omega)]; exact aUi_at, aUi_at, by rw [aUi_ne (by omega), aUi_ne (by omega)]; exact h3, fun j hj => by rw [aUi_ne (by omega), aUi_ne (by omega)]⟩
    rw [← ms, h1, ← h2]; rfl
  · refine ⟨aUi (aUi S 29 0 (f - nI v)) 29 3 (nI (p - v)), ?_, (CF.up S 0 _).tr (CF.up _ 3 _), by rw [aUi_ne (by omega)]; exact aUi_at, by rw [aUi_ne (by omega), aUi_ne (by omega)]; exact h1, by rw [aUi_ne (by omega), aUi_ne (by omega)]; exact h2, aUi_at, fun j hj => by rw [aUi_ne (by omega), aUi_ne (by omega)]⟩
    rw [← mp, h0, ← h3]; rfl
theorem q_how {S : aSt} {f a : Int32} {s p : Nat} (h0 : S.1 29 0 = f) (h1 : S.1 29 1 = a) (h2 : S.1 29 2 = nI s) (h3 : S.1 29 3 = nI p) : f_X1_howItGoes S = some (nI (hw f a s p), S) := by
  unfold f_X1_howItGoes hw
  rw [aLt_eq, ab_0, h0, h1, h2, h3]
  by_cases c1 : 0 ≤ f
  · rw [if_pos c1, if_pos c1]
    by_cases c2 : f ≤ nI p
    · rw [if_pos c2, if_pos c2]
      by_cases c3 : ab a ≤ nI s
      · rw [if_pos c3, if_pos c3]
        by_cases c4 : nI 2 * ab a ≤ nI s
        · rw [if_pos c4, if_pos (show (2 : Int32) * ab a ≤ nI s from c4)]; rfl
        · rw [if_neg c4, if_neg (show ¬ (2 : Int32) * ab a ≤ nI s from c4)]; rfl
      · rw [if_neg c3, if_neg c3]; rfl
    · rw [if_neg c2, if_neg c2]; rfl
  · rw [if_neg c1, if_neg c1]; rfl
theorem wy_t1 : ∀ h : Fin 5, ∀ n : Fin 8, (if nI h.1 = (1 : Int32) then (nI n.1 + (-1 : Int32)) &&& (7 : Int32) else if nI h.1 = (2 : Int32) then (-5 : Int32) else if nI h.1 = (3 : Int32) then (nI n.1 + (2 : Int32) * (-1 : Int32)) &&& (7 : Int32) else nI n.1) = (if h.1 = 2 then -5 else if h.1 = 1 then nI ((n.1 + 7) % 8) else if h.1 = 3 then nI ((n.1 + 6) % 8) else nI n.1) := by decide +kernel
theorem wy_t2 : ∀ h : Fin 5, ∀ n : Fin 8, (if nI h.1 = (1 : Int32) then (nI n.1 + (1 : Int32)) &&& (7 : Int32) else if nI h.1 = (2 : Int32) then (-5 : Int32) else if nI h.1 = (3 : Int32) then (nI n.1 + (2 : Int32) * (1 : Int32)) &&& (7 : Int32) else nI n.1) = (if h.1 = 2 then -5 else if h.1 = 1 then nI ((n.1 + 1) % 8) else if h.1 = 3 then nI ((n.1 + 2) % 8) else nI n.1) := by decide +kernel
theorem q_way6 {S : aSt} {a : Int32} {h n : Nat} (hh : h < 5) (hn : n < 8) (h1 : S.1 29 1 = a) (h4 : S.1 29 4 = nI h) : f_X1_wayItGoes (nI n) S = some (wy h a n, S) := by
  unfold f_X1_wayItGoes f_X1_wayItGoes_12 wy
  rw [h1, h4]
  by_cases c : a ≤ 0
  · simp only [c, if_true, ite_S]
    exact congrArg (fun z => some (z, S)) (wy_t1 ⟨h, hh⟩ ⟨n, hn⟩)
  · simp only [c, if_false, ite_S]
    exact congrArg (fun z => some (z, S)) (wy_t2 ⟨h, hh⟩ ⟨n, hn⟩)

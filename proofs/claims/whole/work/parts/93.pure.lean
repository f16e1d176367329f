/-! PURE PART: the class's Reader, its small steps -/
theorem len_t : ∀ i : Fin 13, Int32.ofNat (a_strL.getD i.1 0) >>> ((0 : Int32) &&& 31) = nI (a_strL.getD i.1 0) := by decide +kernel
theorem len_J {i : Nat} (hi : i < 13) (S : aSt) : f_J0_length_8abf5 i S = some (nI (a_strL.getD i 0), S) := by
  unfold f_J0_length_8abf5 f_J0_coder_7d493
  rw [if_neg (show ¬ (1 : Int32) = 0 by decide), aB_some, len_t ⟨i, hi⟩]
def SI {β : Type} (F : aSt → Option (β × aSt)) : Prop := ∀ S S0, F S = (F S0).map (fun q => (q.1, S))
theorem SI_c {β : Type} (v : β) : SI (fun S => some (v, S)) := fun _ _ => rfl
theorem SI_n {β : Type} : SI (fun _ => (none : Option (β × aSt))) := fun _ _ => rfl
theorem SI_i {β : Type} {c : Prop} [Decidable c] {F G : aSt → Option (β × aSt)} (hF : SI F) (hG : SI G) : SI (fun S => if c then F S else G S) := fun S S0 => by
  by_cases h : c
  · simp only [if_pos h]; exact hF S S0
  · simp only [if_neg h]; exact hG S S0
theorem SI_b {α β : Type} {F : aSt → Option (β × aSt)} {K : β → aSt → Option (α × aSt)} (hF : SI F) (hK : ∀ r, SI (K r)) : SI (fun S => aB (F S) K) := fun S S0 => by
  show aB (F S) K = (aB (F S0) K).map _
  rw [hF S S0]
  cases F S0 with
  | none => rfl
  | some q => exact hK q.1 S q.2
theorem lat_S (i : Nat) : SI (f_J0_isLatin1_aae02 i) := SI_i (SI_c _) (SI_i (SI_c _) (SI_c _))
theorem chk_S (a b : Int32) : SI (f_J0_checkIndex_df160 a b) := SI_b (SI_i SI_n (SI_i (SI_c _) SI_n)) (fun _ => SI_c _)
theorem char_S (i : Nat) (k : Int32) : SI (f_J0_charAt_5068e i k) := SI_b (lat_S i) (fun r => SI_i SI_n (SI_b (SI_b (chk_S _ _) (fun _ => SI_i SI_n (SI_i (SI_c _) SI_n))) (fun r2 => SI_i (SI_c _) SI_n)))
set_option maxRecDepth 100000 in
theorem char_t : ∀ i : Fin 13, ∀ k : Fin 10, k.1 < a_strL.getD i.1 0 → (f_J0_charAt_5068e i.1 (nI k.1) z0).map Prod.fst = some ((a_strB.getD i.1 []).getD k.1 0) := by decide +kernel
theorem len_10 : ∀ i : Fin 13, a_strL.getD i.1 0 ≤ 10 := by decide +kernel
theorem char_J {i k : Nat} (hi : i < 13) (hk : k < a_strL.getD i 0) (S : aSt) : f_J0_charAt_5068e i (nI k) S = some ((a_strB.getD i []).getD k 0, S) := map_S (F := f_J0_charAt_5068e i (nI k)) (fun S S0 => char_S i (nI k) S S0) (char_t ⟨i, hi⟩ ⟨k, by have := len_10 ⟨i, hi⟩; simp only at this; omega⟩ hk) S
theorem ixc7_S : ∀ (n i : Nat) (a b c : Int32) (S S0 : aSt), f_J1_indexOfChar_4cfef_7 n i a b c S = (f_J1_indexOfChar_4cfef_7 n i a b c S0).map (fun q => (q.1, S))
  | 0, _, _, _, _, _, _ => rfl
  | n + 1, i, a, b, c, S, S0 => by
    rw [f_J1_indexOfChar_4cfef_7, f_J1_indexOfChar_4cfef_7]
    by_cases h1 : a ≤ c
    · rw [if_pos h1, if_pos h1]; rfl
    · rw [if_neg h1, if_neg h1]
      by_cases h2 : c < 0 ∨ a_strL.getD i 0 ≤ c.toNatClampNeg
      · rw [if_pos h2, if_pos h2]; rfl
      · rw [if_neg h2, if_neg h2]
        by_cases h3 : ((a_strB.getD i []).getD c.toNatClampNeg 0) = b
        · rw [if_pos h3, if_pos h3]; rfl
        · rw [if_neg h3, if_neg h3]
          exact ixc7_S n i a b _ S S0
theorem lenJ_S (i : Nat) : SI (f_J0_length_8abf5 i) := SI_b (SI_i (SI_c _) (SI_c _)) (fun _ => SI_c _)
theorem can_S (c : Int32) : SI (f_J1_canEncode_9a6ad c) := SI_i (SI_c _) (SI_i (SI_c _) (SI_c _))
theorem ixc_S (i : Nat) (a b c : Int32) : SI (f_J1_indexOfChar_4cfef i a b c) := fun S S0 => ixc7_S aF i c a.toInt8.toInt32 b S S0
theorem ix1_S (i : Nat) (a b c : Int32) : SI (f_J1_indexOf_4cfef i a b c) := SI_b (can_S a) (fun _ => SI_i (SI_c _) (SI_i (SI_b (ixc_S i _ _ _) (fun _ => SI_c _)) (SI_c _)))
theorem ix_S (i : Nat) (c : Int32) : SI (f_J0_indexOf_0f7a4 i c) := SI_b (SI_b (lat_S i) (fun _ => SI_i SI_n (SI_b (lenJ_S i) (fun r => SI_b (ix1_S i c 0 r) (fun _ => SI_c _))))) (fun _ => SI_c _)
set_option maxRecDepth 100000 in
theorem ix5_t : ∀ t : Fin 128, (f_J0_indexOf_0f7a4 5 ((nI t.1).toUInt32 % 65536).toInt32 z0).map Prod.fst = some (o1 (pIx dG 0 t.1)) := by decide +kernel
set_option maxRecDepth 100000 in
theorem ix6_t : ∀ t : Fin 128, (f_J0_indexOf_0f7a4 6 ((nI t.1).toUInt32 % 65536).toInt32 z0).map Prod.fst = some (o1 (pIx lT 0 t.1)) := by decide +kernel
set_option maxRecDepth 100000 in
theorem ix7_t : ∀ t : Fin 128, (f_J0_indexOf_0f7a4 7 ((nI t.1).toUInt32 % 65536).toInt32 z0).map Prod.fst = some (o1 (pIx rL 0 t.1)) := by decide +kernel
def ixL (i : Nat) (l : List Nat) : Prop := ∀ t : Nat, t < 128 → ∀ S : aSt, f_J0_indexOf_0f7a4 i ((nI t).toUInt32 % 65536).toInt32 S = some (o1 (pIx l 0 t), S)
theorem ixL5 : ixL 5 dG := fun t ht S => map_S (F := f_J0_indexOf_0f7a4 5 _) (fun S S0 => ix_S 5 _ S S0) (ix5_t ⟨t, ht⟩) S
theorem ixL6 : ixL 6 lT := fun t ht S => map_S (F := f_J0_indexOf_0f7a4 6 _) (fun S S0 => ix_S 6 _ S S0) (ix6_t ⟨t, ht⟩) S
theorem ixL7 : ixL 7 rL := fun t ht S => map_S (F := f_J0_indexOf_0f7a4 7 _) (fun S S0 => ix_S 7 _ S S0) (ix7_t ⟨t, ht⟩) S
/-- the Reader at p, behind the signs L -/
def XS (tp : Nat → Nat) (en p : Nat) (L : List Nat) (X : aSt) : Prop := X.1 22 2 = nI en ∧ X.1 22 3 = nI p ∧ (∀ j, j < en → X.1 28 j = nI (tp j)) ∧ X.1 23 1 = nI L.length ∧ ∀ j (h : j < L.length), X.1 27 j = sgX L[j]
def FX (X X' : aSt) : Prop := (∀ k, k ≠ 22 → k ≠ 23 → k ≠ 27 → X'.1 k = X.1 k) ∧ (∀ j, j ≠ 1 → X'.1 23 j = X.1 23 j) ∧ (∀ j, j ≠ 3 → X'.1 22 j = X.1 22 j) ∧ X'.2 = X.2
theorem FX.tr {A B C : aSt} (h : FX A B) (g : FX B C) : FX A C := ⟨fun k h1 h2 h3 => (g.1 k h1 h2 h3).trans (h.1 k h1 h2 h3), fun j hj => (g.2.1 j hj).trans (h.2.1 j hj), fun j hj => (g.2.2.1 j hj).trans (h.2.2.1 j hj), g.2.2.2.trans h.2.2.2⟩
theorem FX.rf (A : aSt) : FX A A := ⟨fun _ _ _ _ => rfl, fun _ _ => rfl, fun _ _ => rfl, rfl⟩
theorem FX.at (A : aSt) (v : Int32) : FX A (aUi A 22 3 v) := ⟨fun k h1 _ _ => aUi_row h1, fun j _ => by rw [aUi_row (by omega)], fun j hj => aUi_ne hj, rfl⟩
/-- a text that can be read -/
def TP (tp : Nat → Nat) (en : Nat) : Prop := en ≤ 100 ∧ ∀ j, j < en → tp j < 128
theorem XS_at {tp : Nat → Nat} {en p q : Nat} {L : List Nat} {X : aSt} (h : XS tp en p L X) : XS tp en q L (aUi X 22 3 (nI q)) := by
  obtain ⟨a, b, c, d, e⟩ := h
  refine ⟨by rw [aUi_ne (by omega)]; exact a, aUi_at, fun j hj => by rw [aUi_row (by omega)]; exact c j hj, by rw [aUi_row (by omega)]; exact d, fun j hj => by rw [aUi_row (by omega)]; exact e j hj⟩
theorem q_next {tp : Nat → Nat} {en p : Nat} {L : List Nat} {X : aSt} (hT : TP tp en) (hp : p ≤ en) (h : XS tp en p L X) : f_X3_next X = some (o1 (chO tp en p), X) := by
  obtain ⟨a, b, c, d, e⟩ := h
  have h1 := hT.1
  unfold f_X3_next chO
  rw [a, b]
  by_cases k : p < en
  · rw [if_neg (nI_ge k (by omega)), if_neg (show ¬ (100 : Int32) ≤ nI p from nI_ge (b := 100) (by omega) (by omega)), if_neg (q_chk (by omega) (by omega)), nI_clamp (by omega), c p k, if_pos k]
    rfl
  · rw [if_pos (nI_le (by omega) (by omega)), if_neg k]
    rfl
theorem ch_I {tp : Nat → Nat} {en p c : Nat} (hT : TP tp en) (hc : c < 128) : o1 (chO tp en p) = nI c ↔ chO tp en p = some c := by
  unfold chO
  by_cases k : p < en
  · have := hT.2 p k
    rw [if_pos k]
    constructor
    · intro e
      rw [(nI_eq (by omega) (by omega)).mp e]
    · intro e
      rw [Option.some.inj e]
      rfl
  · rw [if_neg k]
    exact ⟨fun e => absurd e.symm (neg_ne (x := -1) (by omega) (by decide)), fun e => by cases e⟩
theorem q_tk1 {tp : Nat → Nat} {en p c : Nat} {L : List Nat} {X : aSt} (hT : TP tp en) (hp : p ≤ en) (hc : c < 128) (h : XS tp en p L X) (k : chO tp en p = some c) : f_X3_takes (nI c) X = some (1, aUi X 22 3 (nI (p + 1))) := by
  unfold f_X3_takes
  rw [q_next hT hp h, aB_some, if_pos ((ch_I hT hc).mpr k), aLt_eq, h.2.1, nI_1]
theorem q_tk0 {tp : Nat → Nat} {en p c : Nat} {L : List Nat} {X : aSt} (hT : TP tp en) (hp : p ≤ en) (hc : c < 128) (h : XS tp en p L X) (k : ¬ chO tp en p = some c) : f_X3_takes (nI c) X = some (0, X) := by
  unfold f_X3_takes
  rw [q_next hT hp h, aB_some, if_neg (fun e => k ((ch_I hT hc).mp e))]
theorem q_tAll2 {tp : Nat → Nat} {en i : Nat} {L : List Nat} (hT : TP tp en) (hi : i < 13) : ∀ (r : List Nat) (k n p : Nat) (X : aSt), k + r.length = a_strL.getD i 0 → (∀ j (h : j < r.length), (a_strB.getD i []).getD (k + j) 0 = nI r[j] ∧ r[j] < 128) → r.length < n → p ≤ en → XS tp en p L X → ∃ X', f_X3_takesAll_2 n i (nI k) X = some (bI (pAll tp en r p).1, X') ∧ XS tp en (pAll tp en r p).2 L X' ∧ FX X X'
  | [], k, n, p, X, h1, h2, h3, hp, h => by
    obtain ⟨n, rfl⟩ : ∃ m, n = m + 1 := ⟨n - 1, by omega⟩
    have h1 : k = a_strL.getD i 0 := h1
    rw [f_X3_takesAll_2, len_J hi, aB_some, h1, if_pos (Int32.le_refl _)]
    exact ⟨X, rfl, h, FX.rf X⟩
  | c :: r, k, n, p, X, h1, h2, h3, hp, h => by
    obtain ⟨n, rfl⟩ : ∃ m, n = m + 1 := ⟨n - 1, by omega⟩
    have h1 : k + (r.length + 1) = a_strL.getD i 0 := h1
    have h3 : r.length + 1 < n + 1 := h3
    have hl := len_10 ⟨i, hi⟩
    simp only at hl
    obtain ⟨hc1, hc2⟩ := h2 0 (by show 0 < r.length + 1; omega)
    have hc1 : (a_strB.getD i []).getD k 0 = nI c := hc1
    have hc2 : c < 128 := hc2
    rw [f_X3_takesAll_2, len_J hi, aB_some, if_neg (nI_ge (by omega) (by omega)), char_J hi (by omega), aB_some, hc1]
    unfold pAll
    by_cases kk : chO tp en p = some c
    · rw [q_tk1 hT hp hc2 h kk, aB_some, if_neg (show ¬ (1 : Int32) = 0 by decide), aLt_eq, nI_1, if_pos kk]
      obtain ⟨X', g1, g2, g3⟩ := q_tAll2 hT hi r (k + 1) n (p + 1) (aUi X 22 3 (nI (p + 1))) (by omega) (fun j hj => by
        have := h2 (j + 1) (by show j + 1 < r.length + 1; omega)
        rw [show k + 1 + j = k + (j + 1) by omega]
        exact this) (by omega) (chO_lt kk).1 (XS_at h)
      exact ⟨X', g1, g2, (FX.at X _).tr g3⟩
    · rw [q_tk0 hT hp hc2 h kk, aB_some, if_pos rfl, if_neg kk]
      exact ⟨X, rfl, h, FX.rf X⟩
/-- the signs of a constant -/
def stJ (i : Nat) (l : List Nat) : Prop := i < 13 ∧ l.length = a_strL.getD i 0 ∧ ∀ j (h : j < l.length), (a_strB.getD i []).getD j 0 = nI l[j] ∧ l[j] < 128
theorem q_tAll {tp : Nat → Nat} {en i p : Nat} {L l : List Nat} {X : aSt} (hT : TP tp en) (hs : stJ i l) (hp : p ≤ en) (h : XS tp en p L X) : ∃ X', f_X3_takesAll i X = some (bI (pAll tp en l p).1, X') ∧ XS tp en (pAll tp en l p).2 L X' ∧ FX X X' := by
  have hl := len_10 ⟨i, hs.1⟩
  simp only at hl
  have h9 := hs.2.1
  exact q_tAll2 hT hs.1 l 0 aF p X (by rw [Nat.zero_add]; exact hs.2.1) (fun j hj => by rw [Nat.zero_add]; exact hs.2.2 j hj) (by have := aF_big; omega) hp h
theorem q_tOne {tp : Nat → Nat} {en i p : Nat} {L l : List Nat} {X : aSt} (hT : TP tp en) (hl : l.length ≤ 10) (hs : ixL i l) (hp : p ≤ en) (h : XS tp en p L X) : ∃ X', f_X3_takesOne i X = some (o1 (pOne tp en l p), X') ∧ XS tp en (nxO (pOne tp en l p) p) L X' ∧ FX X X' := by
  have h1 := hT.1
  unfold f_X3_takesOne f_X3_takesOne_20 f_X3_takesOne_36
  rw [q_next hT hp h, aB_some]
  simp only [aLt_eq, h.2.1]
  unfold pOne
  cases hc : chO tp en p with
  | none =>
    rw [if_pos (show o1 none = -1 from rfl), if_pos trivial, Int32.add_zero]
    exact ⟨_, rfl, XS_at h, FX.at X _⟩
  | some t =>
    have ht : t < 128 := by
      obtain ⟨k1, k2⟩ := chO_lt hc
      rw [k2]; exact hT.2 p k1
    rw [if_neg (show ¬ o1 (some t) = -1 from neg_ne (x := -1) (show t < 2 ^ 31 by omega) (by decide)), show o1 (some t) = nI t from rfl, hs t ht, aB_some]
    rw [show (some t).bind (pIx l 0) = pIx l 0 t from rfl, h.2.1]
    cases hx : pIx l 0 t with
    | none =>
      rw [if_pos (show o1 none = -1 from rfl), Int32.add_zero]
      exact ⟨_, rfl, XS_at h, FX.at X _⟩
    | some x =>
      have hx2 := pIx_lt hx
      rw [if_neg (show ¬ o1 (some x) = -1 from neg_ne (x := -1) (show x < 2 ^ 31 by omega) (by decide)), nI_1]
      exact ⟨_, rfl, XS_at h, FX.at X _⟩
theorem o1_ne {x : Nat} (h : x < 2 ^ 31) : ¬ o1 (some x) = -1 := neg_ne (x := -1) h (by decide)
theorem q_num {tp : Nat → Nat} {en p : Nat} {L : List Nat} {X : aSt} (hT : TP tp en) (hp : p ≤ en) (h : XS tp en p L X) : ∃ X', f_X3_number X = some (o1 (pNum tp en p).1, X') ∧ XS tp en (pNum tp en p).2 L X' ∧ FX X X' := by
  obtain ⟨X1, a1, a2, a3⟩ := q_tOne hT (show dG.length ≤ 10 by decide) ixL5 hp h
  unfold f_X3_number pNum
  rw [a1, aB_some]
  cases h1 : pOne tp en dG p with
  | none =>
    rw [h1] at a2
    rw [if_pos (show o1 none = -1 from rfl)]
    exact ⟨X1, rfl, a2, a3⟩
  | some d =>
    obtain ⟨d1, d2⟩ := pOne_in h1
    have d2 : d < 10 := d2
    rw [h1] at a2
    rw [if_neg (o1_ne (by omega)), show o1 (some d) = nI d from rfl]
    dsimp only
    by_cases h0 : d = 0
    · rw [if_pos (show nI d = 0 by rw [h0]; rfl), if_pos h0, h0]
      exact ⟨X1, rfl, a2, a3⟩
    · rw [if_neg (nI_ne0 (by omega) (by omega)), if_neg h0]
      obtain ⟨X2, b1, b2, b3⟩ := q_tOne hT (show dG.length ≤ 10 by decide) ixL5 (show p + 1 ≤ en from d1) a2
      rw [b1, aB_some]
      cases h2 : pOne tp en dG (p + 1) with
      | none =>
        rw [h2] at b2
        rw [if_pos (show o1 none = -1 from rfl)]
        exact ⟨X2, rfl, b2, a3.tr b3⟩
      | some e =>
        obtain ⟨e1, e2⟩ := pOne_in h2
        have e2 : e < 10 := e2
        rw [h2] at b2
        rw [if_neg (o1_ne (by omega)), show o1 (some e) = nI e from rfl, show (10 : Int32) = nI 10 from rfl, pk_mul, nI_add]
        exact ⟨X2, rfl, b2, a3.tr b3⟩
theorem q_put {tp : Nat → Nat} {en p c : Nat} {L : List Nat} {X : aSt} (hl : L.length < 100) (h : XS tp en p L X) : ∃ X', f_X5_put 23 (sgX c) X = some ((), X') ∧ XS tp en p (L ++ [c]) X' ∧ FX X X' := by
  obtain ⟨a, b, cc, d, e⟩ := h
  unfold f_X5_put
  rw [d, if_neg (show ¬ (100 : Int32) ≤ nI L.length from nI_ge (b := 100) hl (by omega)), if_neg (q_chk hl (by omega)), aLt_eq, aLt_eq, nI_clamp (by omega), show 23 + 4 = 27 from rfl, aUi_row (show 23 ≠ 27 by omega), d, nI_1]
  refine ⟨_, rfl, ⟨?_, ?_, fun j hj => ?_, ?_, fun j hj => ?_⟩, ⟨fun k h1 h2 h3 => ?_, fun j hj => ?_, fun j hj => ?_, rfl⟩⟩
  · rw [aUi_row (by omega), aUi_row (by omega)]; exact a
  · rw [aUi_row (by omega), aUi_row (by omega)]; exact b
  · rw [aUi_row (by omega), aUi_row (by omega)]; exact cc j hj
  · rw [aUi_at, List.length_append]; rfl
  · rw [aUi_row (by omega)]
    rw [List.length_append] at hj
    have hj : j < L.length + 1 := hj
    by_cases k : j = L.length
    · subst k
      rw [aUi_at, List.getElem_append_right (Nat.le_refl _)]
      simp
    · rw [aUi_ne k, List.getElem_append_left (by omega)]
      exact e j (by omega)
  · rw [aUi_row h2, aUi_row h3]
  · rw [aUi_ne hj, aUi_row (by omega)]
  · rw [aUi_row (by omega), aUi_row (by omega)]
/-- a step of the Reader that reads as f does -/
def RXc (tp : Nat → Nat) (en : Nat) (f : Nat → PR) (F : aSt → Option (Int32 × aSt)) : Prop := ∀ (p : Nat) (L : List Nat) (X : aSt), p ≤ en → L.length ≤ p → XS tp en p L X → ∃ X', F X = some (bI (f p).1, X') ∧ XS tp en (f p).2.1 (L ++ (f p).2.2) X' ∧ FX X X'
theorem sgX_test {a b n : Nat} (ha : a < 6) (hb : b < 3) : nI (512 * a + 128 * b + n) = sgX (3 + (a + 6 * b + 18 * n)) := by
  unfold sgX
  rw [if_neg (by omega), if_neg (by omega), if_neg (by omega)]
  congr 1
  omega
theorem q_testX {tp : Nat → Nat} {en : Nat} (hT : TP tp en) : RXc tp en (pTest tp en) f_X3_test := by
  intro p L X hp hL h
  have h100 := hT.1
  obtain ⟨X1, a1, a2, a3⟩ := q_tOne hT (show lT.length ≤ 10 by decide) ixL6 hp h
  unfold f_X3_test pTest
  rw [a1, aB_some]
  cases h1 : pOne tp en lT p with
  | none =>
    rw [h1] at a2
    rw [if_pos (show o1 none = -1 from rfl)]
    refine ⟨X1, rfl, ?_, a3⟩
    rw [List.append_nil]
    exact a2
  | some a =>
    obtain ⟨d1, d2⟩ := pOne_in h1
    have d2 : a < 6 := d2
    rw [h1] at a2
    rw [if_neg (o1_ne (by omega)), show o1 (some a) = nI a from rfl]
    dsimp only
    obtain ⟨X2, b1, b2, b3⟩ := q_tOne hT (show rL.length ≤ 10 by decide) ixL7 (show p + 1 ≤ en from d1) a2
    rw [b1, aB_some]
    cases h2 : pOne tp en rL (p + 1) with
    | none =>
      rw [h2] at b2
      rw [if_pos (show o1 none = -1 from rfl)]
      refine ⟨X2, rfl, ?_, a3.tr b3⟩
      rw [List.append_nil]
      exact b2
    | some b =>
      obtain ⟨e1, e2⟩ := pOne_in h2
      have e2 : b < 3 := e2
      rw [h2] at b2
      rw [if_neg (o1_ne (by omega)), show o1 (some b) = nI b from rfl]
      dsimp only
      obtain ⟨X3, c1, c2, c3⟩ := q_num hT (show p + 2 ≤ en by omega) b2
      obtain ⟨n1, n2, n3⟩ := pNum_in (tp := tp) (en := en) (p := p + 2) (by omega)
      rw [c1, aB_some]
      cases h3 : (pNum tp en (p + 2)).1 with
      | none =>
        rw [if_pos (show o1 none = -1 from rfl)]
        refine ⟨X3, rfl, ?_, (a3.tr b3).tr c3⟩
        rw [List.append_nil]
        exact c2
      | some n =>
        have m1 := (n3 n h3).1
        have m2 := (n3 n h3).2
        rw [if_neg (o1_ne (by omega)), show o1 (some n) = nI n from rfl, show (512 : Int32) = nI 512 from rfl, show (128 : Int32) = nI 128 from rfl, pk_mul, pk_mul, nI_add, nI_add, sgX_test d2 e2]
        obtain ⟨X4, g1, g2, g3⟩ := q_put (c := 3 + (a + 6 * b + 18 * n)) (show L.length < 100 by omega) c2
        rw [g1, aB_some]
        exact ⟨X4, rfl, g2, ((a3.tr b3).tr c3).tr g3⟩

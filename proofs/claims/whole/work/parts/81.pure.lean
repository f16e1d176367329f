/-! PURE PART: blame, knock, limbs -/
def wtP (P : PS) (g : Option Nat) : Nat := match g with
  | none => 8 * (10 - pO P)
  | some _ => pO P
theorem i8_10 {o : Nat} (ho : o ≤ 10) : (8 : Int32) * ((10 : Int32) - nI o) = nI (8 * (10 - o)) := by
  rw [show (10 : Int32) = nI 10 from rfl, pk_sub ho, show (8 : Int32) = nI 8 from rfl, pk_mul]
theorem gG_ne {w : Nat} (hw : w < 8) : ¬ gG (some w) = -1 := neg_ne (x := -1) (show w < 2 ^ 31 by omega) (by decide)
theorem q_wt6 {P : PS} {X : aSt} (g : Option Nat) (hV : PV P) (hX : RX 1 P X) (hg : ∀ w, g = some w → w < 8) : f_X2_weightOf 1 (gG g) X = some (nI (wtP P g), X) := by
  have x1 : X.1 1 1 = nI (pO P) := hX.2.2.2.2.1
  have ho := hV.2.2.2.2.1
  unfold f_X2_weightOf
  rw [x1]
  cases g with
  | none => rw [if_pos (show gG none = -1 from rfl), i8_10 ho]; rfl
  | some w => rw [if_neg (gG_ne (hg w rfl))]; rfl
theorem q_wt7 {P : PS} {M : aSt} (g : Option Nat) (hV : PV P) (hM : RM P (M.1 1)) (hg : ∀ w, g = some w → w < 8) : f_X7_oftenOf (gG g) M = some (nI (wtP P g), M) := by
  have x1 : M.1 1 5 = nI (pO P) := hM.2.2.2.2.1
  have ho := hV.2.2.2.2.1
  unfold f_X7_oftenOf
  rw [x1]
  cases g with
  | none => rw [if_pos (show gG none = -1 from rfl), i8_10 ho]; rfl
  | some w => rw [if_neg (gG_ne (hg w rfl))]; rfl
theorem wtP_le {P : PS} (hV : PV P) (g : Option Nat) : wtP P g ≤ 80 := by
  have ho := hV.2.2.2.2.1
  cases g with
  | none => show 8 * (10 - pO P) ≤ 80; omega
  | some w => show pO P ≤ 80; omega
theorem gG_8 {g : Option Nat} (hg : ∀ w, g = some w → w < 8) : ¬ (8 : Int32) ≤ gG g := by
  cases g with
  | none => decide
  | some w => exact nI_ge (b := 8) (hg w rfl) (by omega)
def gN (g : Option Nat) : Nat := match g with
  | none => 0
  | some w => w + 1
theorem gG_1 (g : Option Nat) : gG g + 1 = nI (gN g) := by
  cases g with
  | none => rfl
  | some w => exact nI_1 w
theorem q_blame1 {P : PS} (hV : PV P) {i way : Nat} (hi : i < pN P) (g : Option Nat) (hg : ∀ w, g = some w → w < 8) (n n' : Nat) (c : Int32) (X M : aSt) (hX : RX 1 P X) (hM : RM P (M.1 1)) : ∃ c' X1 M1, f_X6_blame_40 (n + 1) (nI way) (10 + 2 * i) c (gG g) X = f_X6_blame_40 n (nI way) (10 + 2 * i) c' (nI (gN g)) X1 ∧ f_X7_blame_33 (n' + 1) (nI i) (nI way) c (gG g) M = f_X7_blame_33 n' (nI i) (nI way) c' (nI (gN g)) M1 ∧ RF X X1 ∧ NF M M1 := by
  have hwt := wtP_le hV g
  obtain ⟨M1, m1, m2, m3⟩ := q_gIn g hV hM hi hg
  have hM1 := RM_NG (NG.nf m2) hM
  have hlt := gH_lt (pWd P) i (pT P i) g
  rw [f_X6_blame_40, f_X7_blame_33, if_neg (gG_8 hg), if_neg (gG_8 hg), q_wt6 g hV hX hg, aB_some, m1, aB_some, q_wt7 g hV hM1 hg, aB_some, m3.2.2.2.2.1, m3.2.2.2.2.2]
  unfold f_X6_blame_106 f_X6_blame_103 f_X6_blame_106 f_X7_blame_74 f_X7_blame_75
  simp only [aLt_eq, gG_1]
  by_cases h0 : wtP P g = 0
  · rw [if_pos (show nI (wtP P g) ≤ 0 by rw [h0]; exact Int32.le_refl _), if_pos (show nI (wtP P g) ≤ 0 by rw [h0]; exact Int32.le_refl _), ite_self, Int32.or_zero]
    exact ⟨c, X, M1, rfl, rfl, RF.rf X, m2⟩
  · obtain ⟨X1, r1, r2, r3⟩ := q_dec g hV hX hi hg
    rw [if_neg (nI_nle (by omega) (by omega)), if_neg (nI_nle (by omega) (by omega)), r1, aB_some, r3.2.2.2.2.1, r3.2.2.2.2.2, q_bit (by omega), aB_some, i1_p (by omega)]
    by_cases hc : gY (pWd P) i (pT P i) g = nI way
    · rw [if_pos hc, if_pos hc]
      exact ⟨_, X1, M1, rfl, rfl, r2, m2⟩
    · rw [if_neg hc, if_neg hc]
      exact ⟨_, X1, M1, rfl, rfl, r2, m2⟩
theorem q_blame {P : PS} (hV : PV P) {i way : Nat} (hi : i < pN P) : ∀ (e w n n' : Nat) (c : Int32) (X M : aSt), w + e = 8 → e < n → e < n' → RX 1 P X → RM P (M.1 1) → ∃ r X' M', f_X6_blame_40 n (nI way) (10 + 2 * i) c (nI w) X = some (r, X') ∧ f_X7_blame_33 n' (nI i) (nI way) c (nI w) M = some (r, M') ∧ RF X X' ∧ NF M M' := by
  intro e
  induction e with
  | zero =>
    intro w n n' c X M h1 h2 h3 hX hM
    obtain ⟨n, rfl⟩ : ∃ m, n = m + 1 := ⟨n - 1, by omega⟩
    obtain ⟨n', rfl⟩ : ∃ m, n' = m + 1 := ⟨n' - 1, by omega⟩
    have hw : w = 8 := by omega
    subst hw
    rw [f_X6_blame_40, f_X7_blame_33, if_pos (show (8 : Int32) ≤ nI 8 from Int32.le_refl _), if_pos (show (8 : Int32) ≤ nI 8 from Int32.le_refl _)]
    exact ⟨c, X, M, rfl, rfl, RF.rf X, NF.rf M⟩
  | succ e ih =>
    intro w n n' c X M h1 h2 h3 hX hM
    obtain ⟨n, rfl⟩ : ∃ m, n = m + 1 := ⟨n - 1, by omega⟩
    obtain ⟨n', rfl⟩ : ∃ m, n' = m + 1 := ⟨n' - 1, by omega⟩
    obtain ⟨c', X1, M1, g1, g2, g3, g4⟩ := q_blame1 (way := way) hV hi (some w) (fun v hv => by cases hv; omega) n n' c X M hX hM
    obtain ⟨r, X', M', j1, j2, j3, j4⟩ := ih (w + 1) n n' c' X1 M1 (by omega) (by omega) (by omega) (RX_RF hV g3 hX) (RM_NG (NG.nf g4) hM)
    exact ⟨r, X', M', g1.trans j1, g2.trans j2, g3.tr j3, g4.tr j4⟩
theorem pu_blame_ok : pu_blame Rel := by
  intro K X M p q hR
  obtain ⟨⟨P, hV, hX, hM⟩, -, -⟩ := id hR
  unfold f_X6_blame f_X7_blame f_X7_isWay
  rcases tree_cases p hV hX hM with ⟨i, hi, rfl, e1, e2⟩ | ⟨e1, e2⟩
  · rw [e1, e2, aB_some, aB_some, aO_some, if_neg (show ¬ (1 : Int32) = 0 by decide)]
    rcases in_cases q 7 (by omega) X M with ⟨a, ha, rfl, o1, i1⟩ | ⟨-, o1, i1⟩
    · rw [show (7 : Int32) = nI 7 from rfl, o1, i1, aB_some, aB_some, if_pos (show (1 : Int32) = 0 ∨ (1 : Int32) = 1 from Or.inr rfl), aB_some, if_pos rfl, if_neg (show ¬ (1 : Int32) = 0 by decide)]
      rcases st_cases hV hX hM hi with ⟨s1, s2, -⟩ | ⟨s1, s2, -⟩
      · rw [if_pos s1, s2, aB_some, if_pos rfl]
        exact ⟨_, X, M, rfl, rfl, hR⟩
      · rw [if_neg s1, s2, aB_some, if_neg (show ¬ (1 : Int32) = 0 by decide), show (-1 : Int32) = gG none from rfl]
        obtain ⟨n, hn⟩ := aF_s 20 (by omega)
        rw [hn]
        obtain ⟨c', X1, M1, g1, g2, g3, g4⟩ := q_blame1 (way := a) hV hi none hg0 (n + 19) (n + 19) 0 X M hX hM
        obtain ⟨r, X', M', j1, j2, j3, j4⟩ := q_blame (way := a) hV hi 8 0 (n + 19) (n + 19) c' X1 M1 (by omega) (by omega) (by omega) (RX_RF hV g3 hX) (RM_NG (NG.nf g4) hM)
        exact ⟨r, X', M', g1.trans j1, g2.trans j2, Rel_look hR (g3.tr j3).xf (g4.tr j4).mf⟩
    · rw [show (7 : Int32) = nI 7 from rfl, o1, i1, aB_some, aB_some, if_pos (show (0 : Int32) = 0 ∨ (0 : Int32) = 1 from Or.inl rfl), aB_some, if_neg (show ¬ (1 : Int32) = 0 by decide), if_pos rfl]
      exact ⟨_, X, M, rfl, rfl, hR⟩
  · rw [e1, e2, aB_some, aB_some, if_pos rfl, aO_none]
    exact ⟨_, X, M, rfl, rfl, hR⟩
/-! a TREE tried with another number -/
def uT (T : Nat → Nat) (j v : Nat) : Nat → Nat := fun q => if q = j then v else T q
theorem uT_at (T : Nat → Nat) (j v : Nat) : uT T j v j = v := if_pos rfl
theorem uT_ne {T : Nat → Nat} {j v q : Nat} (h : q ≠ j) : uT T j v q = T q := if_neg h
theorem uT_uT (T : Nat → Nat) (j v w : Nat) : uT (uT T j v) j w = uT T j w := by
  funext q
  unfold uT
  split <;> rfl
theorem uT_self (T : Nat → Nat) (j : Nat) : uT T j (T j) = T := by
  funext q
  unfold uT
  split
  · rename_i h; rw [h]
  · rfl
theorem TB_uT {T : Nat → Nat} {j v : Nat} (h : TB T) (hv : v ≤ bdT j) (h3 : j ≠ 3) : TB (uT T j v) := by
  refine ⟨fun q hq => ?_, ?_⟩
  · by_cases e : q = j
    · rw [e, uT_at]; exact hv
    · rw [uT_ne e]; exact h.1 q hq
  · rw [uT_ne (fun e => h3 e.symm)]; exact h.2
theorem TX_uT {c i j v : Nat} {T : Nat → Nat} {X : aSt} (h : TX c i T X) (hj : j < 8) : TX c i (uT T j v) (aUi X c (j + 1) (nI v)) := by
  obtain ⟨a, b, d⟩ := h
  refine ⟨by rw [aUi_ne (by omega)]; exact a, fun q hq => ?_, fun k hk => ?_⟩
  · by_cases e : q = j
    · rw [e, aUi_at, uT_at]
    · rw [aUi_ne (by omega), uT_ne e]; exact b q hq
  · rw [aUi_row (by omega), uT_ne (by omega)]; exact d k hk
theorem TX_uP {c i k v : Nat} {T : Nat → Nat} {X : aSt} (h : TX c i T X) : TX c i (uT T (8 + k) v) (aUi X (c + 1) k (nI v)) := by
  obtain ⟨a, b, d⟩ := h
  refine ⟨by rw [aUi_row (by omega)]; exact a, fun q hq => ?_, fun q hq => ?_⟩
  · rw [aUi_row (by omega), uT_ne (by omega)]; exact b q hq
  · by_cases e : q = k
    · rw [e, aUi_at, uT_at]
    · rw [aUi_ne e, uT_ne (by omega)]; exact d q hq
theorem TM_uT {i j v : Nat} {T : Nat → Nat} {s : Nat → Int32} (hi : i < 6) (h : TM i T s) (hj : j < 8) : TM i (uT T j v) (upd s (110 + 6 * j + i) (nI v)) := by
  obtain ⟨b, d⟩ := h
  refine ⟨fun q hq => ?_, fun k hk => ?_⟩
  · by_cases e : q = j
    · rw [e, pk_us, uT_at]
    · rw [pk_un (by omega), uT_ne e]; exact b q hq
  · rw [pk_un (by omega), uT_ne (by omega)]; exact d k hk
theorem TM_uP {i k v : Nat} {T : Nat → Nat} {s : Nat → Int32} (hi : i < 6) (h : TM i T s) (hk : k < 6) : TM i (uT T (8 + k) v) (upd s (158 + 6 * i + k) (nI v)) := by
  obtain ⟨b, d⟩ := h
  refine ⟨fun q hq => ?_, fun q hq => ?_⟩
  · rw [pk_un (by omega), uT_ne (by omega)]; exact b q hq
  · by_cases e : q = k
    · rw [e, pk_us, uT_at]
    · rw [pk_un (by omega), uT_ne (by omega)]; exact d q hq
theorem RMW_tr {nW : Nat} {W : PW} {s s' : Nat → Int32} (hn : nW ≤ 5) (h : RMW nW W s) (hs : ∀ q, (q = 4 ∨ 200 ≤ q) → s' q = s q) : RMW nW W s' := by
  rcases h with ⟨h1, h2⟩ | ⟨q, hq, h1, h2, h3, h4, h5⟩
  · exact Or.inl ⟨by rw [hs 4 (by omega)]; exact h1, h2⟩
  · exact Or.inr ⟨q, hq, by rw [hs 4 (by omega)]; exact h1, by rw [hs _ (by omega)]; exact h2, by rw [hs _ (by omega)]; exact h3, by rw [hs _ (by omega)]; exact h4, fun z hz => by rw [hs _ (by omega)]; exact h5 z hz⟩
theorem XF.tr {A B C : aSt} (h : XF A B) (g : XF B C) : XF A C := ⟨fun k hk => (g.1 k hk).trans (h.1 k hk), fun k hk => (g.2 k hk).trans (h.2 k hk)⟩
/-- the reference's numbers of trees may be changed where D says so -/
def ND (D : Nat → Prop) (M M' : aSt) : Prop := (∀ k, k ≠ 0 → k ≠ 1 → k ≠ 3 → k ≠ 4 → k ≠ 5 → M'.1 k = M.1 k) ∧ (∀ q, ¬ D q → M'.1 1 q = M.1 1 q) ∧ (∀ j, (j < 11 ∨ 23 ≤ j) → M'.1 0 j = M.1 0 j)
theorem ND.tr {D : Nat → Prop} {A B C : aSt} (h : ND D A B) (g : ND D B C) : ND D A C := ⟨fun k h1 h2 h3 h4 h5 => (g.1 k h1 h2 h3 h4 h5).trans (h.1 k h1 h2 h3 h4 h5), fun q hq => (g.2.1 q hq).trans (h.2.1 q hq), fun j hj => (g.2.2 j hj).trans (h.2.2 j hj)⟩
theorem ND.rf (D : Nat → Prop) (A : aSt) : ND D A A := ⟨fun _ _ _ _ _ _ => rfl, fun _ _ => rfl, fun _ _ => rfl⟩
theorem ND.nf {D : Nat → Prop} {A B : aSt} (h : NF A B) : ND D A B := ⟨fun k h1 _ h3 h4 _ => h.1 k h1 h3 h4, fun q _ => by rw [h.1 1 (by omega) (by omega) (by omega)], fun j hj => h.2.1 j (by omega)⟩
theorem ND.up {D : Nat → Prop} (A : aSt) {q : Nat} (v : Int32) (h : D q) : ND D A (aUi A 1 q v) := ⟨fun k _ h2 _ _ _ => aUi_row h2, fun r hr => aUi_ne (fun e => hr (e ▸ h)), fun j _ => by rw [aUi_row (by omega)]⟩
theorem ND.mf {D : Nat → Prop} {A B : aSt} (h : ND D A B) (h2 : ∀ q, D q → B.1 1 q = A.1 1 q) : MF A B := ⟨funext fun q => Classical.byCases (fun c : D q => h2 q c) (fun c => h.2.1 q c), h.1 2 (by omega) (by omega) (by omega) (by omega) (by omega), h.1 8 (by omega) (by omega) (by omega) (by omega) (by omega), h.2.2 3 (by omega), h.2.2 27 (by omega)⟩
/-- a tree copied to the trial -/
theorem q_trial {P : PS} {X : aSt} {i : Nat} (hV : PV P) (hX : RX 1 P X) (hi : i < pN P) : ∃ X', f_X4_copyFrom 32 (10 + 2 * i) X = some ((), X') ∧ XF X X' ∧ RX 1 P X' ∧ TX 32 i (pT P i) X' := by
  have hn := hV.1
  have hT := TX_of hX hi
  have l7 : pT P i 7 ≤ 1 := (TB_of hV hi).1 7 (by omega)
  have x8 : X.1 (10 + 2 * i) 8 = nI (pT P i 7) := hT.2.1 7 (by omega)
  obtain ⟨X', e1, e2, e3, e4, e5⟩ := q_copyT (c := 32) (d := 10 + 2 * i) (S := X) (by omega) (by omega) (by omega) (by
    rw [x8]
    rcases (show pT P i 7 = 0 ∨ pT P i 7 = 1 by omega) with h | h <;> rw [h]
    · exact Or.inl rfl
    · exact Or.inr rfl)
  refine ⟨X', e1, ⟨fun k hk => e3 k (by omega) (by omega), fun k _ => by rw [e2]⟩, RX_congr hV (fun k h1 h2 => e3 k (by omega) (by omega)) (by rw [e2]) hX, ?_⟩
  refine ⟨(e4 0 (by omega)).trans hT.1, fun j hj => (e4 (j + 1) (by omega)).trans (hT.2.1 j hj), fun k hk => (e5 k hk).trans (hT.2.2 k hk)⟩
theorem RXW_XF {W : PW} {X X' : aSt} (h : XF X X') (hW : RXW 4 W X) : RXW 4 W X' := RXW_congr (fun k h1 h2 => h.1 k (by omega)) hW
theorem XF.cf {A B : aSt} (h : CF A B) : XF A B := (RF.cf h).xf
theorem XF.up (A : aSt) {k : Nat} (j : Nat) (v : Int32) (h : k = 32 ∨ k = 33) : XF A (aUi A k j v) := ⟨fun q hq => aUi_row (by omega), fun _ _ => rfl⟩

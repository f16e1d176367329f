/-! PURE PART: order, both -/
theorem q_ff {P : PS} {b : Nat} (hV : PV P) (hb : b < 64) : ∀ (e t n : Nat) (X : aSt), t + e = pN P → e < n → RX 1 P X → ∃ X', f_X6_firstFree_2 n (nI b) (nI t) X = some (oI (ffB P b e t), X') ∧ RF X X' := by
  have hn := hV.1
  intro e
  induction e with
  | zero =>
    intro t n X h1 h2 hX
    obtain ⟨n, rfl⟩ : ∃ m, n = m + 1 := ⟨n - 1, by omega⟩
    rw [f_X6_firstFree_2, hX.1, show t = pN P by omega, if_pos (Int32.le_refl _)]
    exact ⟨X, rfl, RF.rf X⟩
  | succ e ih =>
    intro t n X h1 h2 hX
    obtain ⟨n, rfl⟩ : ∃ m, n = m + 1 := ⟨n - 1, by omega⟩
    have ht : t < pN P := by omega
    rw [f_X6_firstFree_2, hX.1, if_neg (nI_ge ht (by omega)), q_bit (by omega), aB_some, if_neg (q_chk (by omega) (by omega)), nI_clamp (by omega)]
    unfold f_X6_firstFree_92 ffB
    simp only [aLt_eq, nI_1]
    by_cases hbt : b.testBit t = true
    · rw [if_neg (show ¬ (nI b &&& nI (2 ^ t) = 0) from fun c => by rw [tb_I hb (by omega), hbt] at c; cases c)]
      obtain ⟨X1, r1, r2, r3⟩ := q_dec none hV hX ht hg0
      have hX1 := RX_RF hV r2 hX
      obtain ⟨X2, j1, j2, j3, j4, j5⟩ := q_layB none hV hX1 ht hb r3
      have hX2 := RX_RF hV j2 hX1
      have r1 : f_X1_decide (1 + 3) (1 + 9 + 2 * t) (-1) X = some ((), X1) := r1
      have j1 : f_X1_lay 1 (1 + 9 + 2 * t) (nI b) X1 = some ((), X2) := j1
      have hlt := gH_lt (pWd P) t (pT P t) none
      rw [r1, aB_some, if_neg (q_chk2 (by omega) (by omega)), j1, aB_some, j3.2.2.2.2.1, j4]
      obtain ⟨X', g1, g2⟩ := ih (t + 1) n X2 (by omega) (by omega) hX2
      by_cases c2 : gH (pWd P) t (pT P t) none = 2
      · rw [if_pos (show nI (gH (pWd P) t (pT P t) none) = 2 by rw [c2]; rfl), if_neg (show ¬ (b.testBit t = true ∧ frB P b t = true) from fun c => by
          have := c.2
          unfold frB at this
          rw [decide_eq_false (fun k => k c2)] at this
          cases this)]
        exact ⟨X', g1, (r2.tr j2).tr g2⟩
      · rw [if_neg (show ¬ nI (gH (pWd P) t (pT P t) none) = 2 from fun e => c2 ((nI_eq (b := 2) (by omega) (by omega)).mp e))]
        by_cases c3 : (lyB P b t none).2 = none
        · rw [if_pos ((hang_I hn).mpr c3), if_pos (show b.testBit t = true ∧ frB P b t = true from ⟨hbt, by unfold frB; rw [decide_eq_true c2, c3]; rfl⟩)]
          exact ⟨X2, rfl, r2.tr j2⟩
        · rw [if_neg (fun k => c3 ((hang_I hn).mp k)), if_neg (show ¬ (b.testBit t = true ∧ frB P b t = true) from fun c => by
            have := c.2
            unfold frB at this
            rw [Bool.and_eq_true] at this
            exact c3 (by simpa using this.2))]
          exact ⟨X', g1, (r2.tr j2).tr g2⟩
    · rw [if_pos ((tb_I hb (by omega)).mpr (by simpa using hbt)), if_neg (fun c => hbt c.1)]
      exact ih (t + 1) n X (by omega) (by omega) hX
def anO (ans : Int32) (turn k : Nat) (r : Option (List Nat)) : Int32 := match r with
  | none => -5
  | some l => if turn ≤ k then (match l[k - turn]? with | some u => nI u | none => ans) else ans
theorem q_order38 {P : PS} (hV : PV P) {k sz : Nat} (hk : k < 5) (hsz : sz ≤ 5) : ∀ (e turn n b : Nat) (ans : Int32) (X : aSt), turn + e = sz → e < n → b < 64 → RX 1 P X → ∃ X', f_X6_order_38 n (nI k) (nI b) (nI sz) ans (nI turn) X = some (anO ans turn k (grB P e b), X') ∧ RF X X' := by
  have hn := hV.1
  intro e
  induction e with
  | zero =>
    intro turn n b ans X h1 h2 hb hX
    obtain ⟨n, rfl⟩ : ∃ m, n = m + 1 := ⟨n - 1, by omega⟩
    rw [f_X6_order_38, show turn = sz by omega, if_pos (Int32.le_refl _)]
    refine ⟨X, ?_, RF.rf X⟩
    show _ = some ((if sz ≤ k then (match ([] : List Nat)[k - sz]? with | some u => nI u | none => ans) else ans), X)
    rw [show (match ([] : List Nat)[k - sz]? with | some u => nI u | none => ans) = ans from rfl, ite_self]
  | succ e ih =>
    intro turn n b ans X h1 h2 hb hX
    obtain ⟨n, rfl⟩ : ∃ m, n = m + 1 := ⟨n - 1, by omega⟩
    obtain ⟨X1, f1, f2⟩ := q_ff hV hb (pN P) 0 aF X (by omega) (by have := aF_big; omega) hX
    have f1 : f_X6_firstFree (nI b) X = some (oI (ffB P b (pN P) 0), X1) := f1
    have hX1 := RX_RF hV f2 hX
    rw [f_X6_order_38, if_neg (nI_ge (by omega) (by omega)), f1, aB_some]
    unfold grB
    cases hf : ffB P b (pN P) 0 with
    | none => exact ⟨X1, rfl, f2⟩
    | some u =>
      obtain ⟨u1, u2, u3, u4, u5⟩ := ffB_some hf
      obtain ⟨x1, x2, x3⟩ := xb_t ⟨b, hb⟩ ⟨u, by omega⟩ u3
      simp only at x1 x2 x3
      unfold f_X6_order_71
      rw [if_neg (show ¬ oI (some u) = -5 from neg_ne (x := -5) (show u < 2 ^ 31 by omega) (by decide)), show oI (some u) = nI u from rfl, q_bit (by omega)]
      simp only [aB_some, aLt_eq, nI_1, x1]
      by_cases ck : turn = k
      · obtain ⟨X', g1, g2⟩ := ih (turn + 1) n (b ^^^ 2 ^ u) (nI u) X1 (by omega) (by omega) x3 hX1
        rw [if_pos (congrArg nI ck)]
        refine ⟨X', g1.trans ?_, f2.tr g2⟩
        cases grB P e (b ^^^ 2 ^ u) with
        | none => rfl
        | some l =>
          show some ((if turn + 1 ≤ k then _ else nI u), X') = some ((if turn ≤ k then (match (u :: l)[k - turn]? with | some u => nI u | none => ans) else ans), X')
          rw [if_neg (by omega), if_pos (by omega), show k - turn = 0 by omega]
          rfl
      · obtain ⟨X', g1, g2⟩ := ih (turn + 1) n (b ^^^ 2 ^ u) ans X1 (by omega) (by omega) x3 hX1
        rw [if_neg (fun c => ck ((nI_eq (by omega) (by omega)).mp c))]
        refine ⟨X', g1.trans ?_, f2.tr g2⟩
        cases grB P e (b ^^^ 2 ^ u) with
        | none => rfl
        | some l =>
          show some ((if turn + 1 ≤ k then (match l[k - (turn + 1)]? with | some u => nI u | none => ans) else ans), X') = some ((if turn ≤ k then (match (u :: l)[k - turn]? with | some u => nI u | none => ans) else ans), X')
          by_cases c : turn + 1 ≤ k
          · rw [if_pos c, if_pos (by omega), show k - turn = (k - (turn + 1)) + 1 by omega]
            rfl
          · rw [if_neg c, if_neg (by omega)]
/-- only what a fall works with, and the row -/
def NR (M M' : aSt) : Prop := (∀ k, k ≠ 0 → k ≠ 1 → k ≠ 3 → k ≠ 4 → k ≠ 6 → M'.1 k = M.1 k) ∧ (∀ j, (j < 11 ∨ 23 ≤ j) → M'.1 0 j = M.1 0 j)
theorem NR.tr {A B C : aSt} (h : NR A B) (g : NR B C) : NR A C := ⟨fun k h1 h2 h3 h4 h5 => (g.1 k h1 h2 h3 h4 h5).trans (h.1 k h1 h2 h3 h4 h5), fun j hj => (g.2 j hj).trans (h.2 j hj)⟩
theorem NR.rf (A : aSt) : NR A A := ⟨fun _ _ _ _ _ _ => rfl, fun _ _ => rfl⟩
theorem NR.ng {A B : aSt} (h : NG A B) : NR A B := ⟨fun k h1 _ h3 h4 _ => h.1 k h1 h3 h4, h.2.1⟩
theorem NR.up (A : aSt) {k : Nat} (j : Nat) (v : Int32) (h : k = 1 ∨ k = 6) : NR A (aUi A k j v) := ⟨fun q h1 h2 h3 h4 h5 => aUi_row (by omega), fun q hq => by rw [aUi_row (by omega)]⟩
theorem q_go7 {P : PS} {b t : Nat} {M : aSt} (hV : PV P) (hb : ∀ t, b.testBit t = true → t < pN P) (hM : RM (stS P b) (M.1 1)) (ht : t < pN P) : ∃ M', f_X7_goesNow (nI t) (-1) M = some ((), M') ∧ NG M M' ∧ M'.1 0 18 = nI (gH (pWd P) t (pT P t) none) ∧ M'.1 0 22 = oI (lyB P b t none).2 := by
  obtain ⟨M1, m1, m2, m3, m4, m5, m6⟩ := q_goesNow (P := stS P b) (i := t) none (PV_stS b hV) hM ht hg0
  rw [sbP_stS hb, lyB_stS] at m4
  refine ⟨M1, m1, m2, ?_, m4⟩
  rw [m3.2.2.2.2.1, (gS_H P b t none).1]
theorem upd_back {s : Nat → Int32} {k : Nat} {v w : Int32} (h : s k = w) : upd (upd s k v) k w = s := by
  funext q
  by_cases c : q = k
  · rw [c, pk_us, h]
  · rw [pk_un c, pk_un c]
/-- one that can go is taken out, the others are tried, it is put back -/
theorem q_rowT {P : PS} {b k many t : Nat} (hV : PV P) (hb : b < 64) (hbN : ∀ t, b.testBit t = true → t < pN P) (hk : k < 6) (C : Int32 → Int32 → aSt → Option (Int32 × aSt)) (n : Nat) (M : aSt) (hM : RM (stS P b) (M.1 1)) (ht : t < pN P) (hbt : b.testBit t = true) (hf : frB P b t = true) (r : Int32) (R : aSt → Prop) (hC : ∀ M1 : aSt, RM (stS P (b ^^^ 2 ^ t)) (M1.1 1) → M1.1 6 k = nI t → (∀ j, j < k → M1.1 6 j = M.1 6 j) → ∃ M2, C (nI (k + 1)) (nI many) M1 = some (r, M2) ∧ NR M1 M2 ∧ M2.1 1 = M1.1 1 ∧ (∀ j, j < k + 1 → M2.1 6 j = M1.1 6 j) ∧ R M2) (hR : ∀ A B : aSt, A.1 6 = B.1 6 → R A → R B) : ∃ M3, f_X7_rowsFrom_9 C (n + 1) (nI k) (nI many) (nI t) M = (if r = 0 then f_X7_rowsFrom_9 C n (nI k) (nI many) (nI (t + 1)) M3 else some (1, M3)) ∧ NR M M3 ∧ M3.1 1 = M.1 1 ∧ M3.1 6 k = nI t ∧ (∀ j, j < k → M3.1 6 j = M.1 6 j) ∧ R M3 := by
  have hn := hV.1
  have m0 : M.1 1 0 = nI (pN P) := hM.1
  have hTM := TM_of hM ht
  have s7 : M.1 1 (152 + t) = nI 1 := by
    have := hTM.1 7 (by omega)
    rw [pT_stS, if_pos rfl, hbt] at this
    exact this
  obtain ⟨M1, g1, g2, g3, g4⟩ := q_go7 hV hbN hM ht
  have hM1 := RM_NG g2 hM
  have e1 : M1.1 1 = M.1 1 := g2.1 1 (by omega) (by omega) (by omega)
  have e6 : M1.1 6 = M.1 6 := g2.1 6 (by omega) (by omega) (by omega)
  have hlt := gH_lt (pWd P) t (pT P t) none
  unfold frB at hf
  rw [Bool.and_eq_true] at hf
  have c2 : gH (pWd P) t (pT P t) none ≠ 2 := of_decide_eq_true hf.1
  have c3 : (lyB P b t none).2 = none := by simpa using hf.2
  obtain ⟨M2, j1, j2, j3, j4, j5⟩ := hC (aUi (aUi M1 6 k (nI t)) 1 (152 + t) 0) (by
    rw [aUi_k, aUi_row (by omega)]
    exact RM_xb hV ht hbt hM1) (by rw [aUi_row (by omega), aUi_at]) (fun j hj => by rw [aUi_row (by omega), aUi_ne (by omega), e6])
  have k1 : M2.1 1 = upd (M1.1 1) (152 + t) 0 := by rw [j3, aUi_k, aUi_row (by omega)]
  refine ⟨aUi M2 1 (152 + t) 1, ?_, ((((NR.ng g2).tr (NR.up M1 (k := 6) k (nI t) (Or.inr rfl))).tr (NR.up _ (k := 1) (152 + t) 0 (Or.inl rfl))).tr j2).tr (NR.up _ (k := 1) (152 + t) 1 (Or.inl rfl)), ?_, ?_, fun j hj => ?_, hR M2 _ (by rw [aUi_row (by omega)]) j5⟩
  · rw [f_X7_rowsFrom_9, m0, if_neg (nI_ge ht (by omega)), q_stnd (by omega) s7 (by omega), aB_some, if_neg (show ¬ bI (decide (1 = 1)) = 0 by decide), g1, aB_some, g3, g4, if_neg (show ¬ nI (gH (pWd P) t (pT P t) none) = 2 from fun e => c2 ((nI_eq (b := 2) (by omega) (by omega)).mp e)), if_pos ((hang_I hn).mpr c3), if_neg (q_chk (by omega) (by omega)), aLt_eq, show (152 : Int32) + nI t = nI (152 + t) from nI_add 152 t, if_neg (q_chk (by omega) (by omega)), aLt_eq, nI_clamp (by omega), nI_clamp (by omega), nI_1, j1, aB_some, if_neg (q_chk2 (by omega) (by omega)), aLt_eq]
    unfold f_X7_rowsFrom_96
    rw [aLt_eq, nI_1]
  · rw [aUi_k, k1, upd_back (by rw [e1]; exact s7), e1]
  · rw [aUi_row (by omega), j4 k (by omega), aUi_row (by omega), aUi_at]
  · rw [aUi_row (by omega), j4 j (by omega), aUi_row (by omega), aUi_ne (by omega), e6]
/-- one that can't go is passed over -/
theorem q_rowS {P : PS} {b t : Nat} (hV : PV P) (hbN : ∀ t, b.testBit t = true → t < pN P) (C : Int32 → Int32 → aSt → Option (Int32 × aSt)) (n : Nat) (k many : Int32) (M : aSt) (hM : RM (stS P b) (M.1 1)) (ht : t < pN P) (hf : ¬ (b.testBit t = true ∧ frB P b t = true)) : ∃ M1, f_X7_rowsFrom_9 C (n + 1) k many (nI t) M = f_X7_rowsFrom_9 C n k many (nI (t + 1)) M1 ∧ NG M M1 := by
  have hn := hV.1
  have m0 : M.1 1 0 = nI (pN P) := hM.1
  have hTM := TM_of hM ht
  have s7 : M.1 1 (152 + t) = nI (b.testBit t).toNat := by
    have := hTM.1 7 (by omega)
    rw [pT_stS, if_pos rfl] at this
    exact this
  rw [f_X7_rowsFrom_9, m0, if_neg (nI_ge ht (by omega)), q_stnd (by omega) s7 (Bool.toNat_le _), aB_some]
  unfold f_X7_rowsFrom_96
  simp only [aLt_eq, nI_1]
  cases hbt : b.testBit t with
  | false =>
    rw [if_pos (show bI (decide (false.toNat = 1)) = 0 by decide)]
    exact ⟨M, rfl, NG.rf M⟩
  | true =>
    obtain ⟨M1, g1, g2, g3, g4⟩ := q_go7 hV hbN hM ht
    have hlt := gH_lt (pWd P) t (pT P t) none
    rw [if_neg (show ¬ bI (decide (true.toNat = 1)) = 0 by decide), g1, aB_some, g3, g4]
    refine ⟨M1, ?_, g2⟩
    by_cases c2 : gH (pWd P) t (pT P t) none = 2
    · rw [if_pos (show nI (gH (pWd P) t (pT P t) none) = 2 by rw [c2]; rfl)]
    · rw [if_neg (show ¬ nI (gH (pWd P) t (pT P t) none) = 2 from fun e => c2 ((nI_eq (b := 2) (by omega) (by omega)).mp e))]
      have c3 : ¬ (lyB P b t none).2 = none := fun c => hf ⟨hbt, by unfold frB; rw [decide_eq_true c2, c]; rfl⟩
      rw [if_neg (fun k => c3 ((hang_I hn).mp k))]
theorem q_rows {P : PS} (hV : PV P) : ∀ (e k d b : Nat) (M : aSt), e < d → k + e ≤ 5 → b < 64 → (∀ t, b.testBit t = true → t < pN P) → cB b 6 = e → RM (stS P b) (M.1 1) → ∃ M', g_X7_rowsFrom d 0 (nI k) (nI (k + e)) M = some (bI (grB P e b).isSome, M') ∧ NR M M' ∧ M'.1 1 = M.1 1 ∧ (∀ j, j < k → M'.1 6 j = M.1 6 j) ∧ ∀ l, grB P e b = some l → ∀ j (h : j < l.length), M'.1 6 (k + j) = nI l[j] := by
  have hn := hV.1
  intro e
  induction e with
  | zero =>
    intro k d b M h1 h2 hb hbN hc hM
    obtain ⟨d, rfl⟩ : ∃ m, d = m + 1 := ⟨d - 1, by omega⟩
    refine ⟨M, ?_, NR.rf M, rfl, fun _ _ => rfl, fun l hl j hj => ?_⟩
    · show f_X7_rowsFrom _ (nI k) (nI (k + 0)) M = _
      unfold f_X7_rowsFrom
      rw [if_pos (by rw [Nat.add_zero])]
      rfl
    · have hl : some [] = some l := hl
      cases hl
      exact absurd hj (by show ¬ j < 0; omega)
  | succ e ihe =>
    intro k d b M h1 h2 hb hbN hc hM
    obtain ⟨d, rfl⟩ : ∃ m, d = m + 1 := ⟨d - 1, by omega⟩
    have st : g_X7_rowsFrom (d + 1) 0 (nI k) (nI (k + (e + 1))) M = f_X7_rowsFrom_9 (fun z0 z1 S => g_X7_rowsFrom d 0 z0 z1 S) aF (nI k) (nI (k + (e + 1))) (nI 0) M := by
      show f_X7_rowsFrom _ (nI k) (nI (k + (e + 1))) M = _
      unfold f_X7_rowsFrom
      rw [if_neg (fun c => absurd ((nI_eq (by omega) (by omega)).mp c) (by omega))]
      rfl
    rw [st]
    clear st
    have xb := fun (t : Nat) (ht : t < pN P) (hbt : b.testBit t = true) => xb_t ⟨b, hb⟩ ⟨t, by omega⟩ hbt
    simp only at xb
    have sub := fun (t s : Nat) (hbt : b.testBit t = true) (hs : (b ^^^ 2 ^ t).testBit s = true) => show b.testBit s = true by
      rw [xb_bit s hbt, Bool.and_eq_true] at hs
      exact hs.1
    cases hg : grB P (e + 1) b with
    | none =>
      have key : ∀ (f t n : Nat) (M : aSt), t + f = pN P → f < n → RM (stS P b) (M.1 1) → ∃ M', f_X7_rowsFrom_9 (fun z0 z1 S => g_X7_rowsFrom d 0 z0 z1 S) n (nI k) (nI (k + (e + 1))) (nI t) M = some (0, M') ∧ NR M M' ∧ M'.1 1 = M.1 1 ∧ ∀ j, j < k → M'.1 6 j = M.1 6 j := by
        intro f
        induction f with
        | zero =>
          intro t n M h3 h4 hM
          obtain ⟨n, rfl⟩ : ∃ m, n = m + 1 := ⟨n - 1, by omega⟩
          have m0 : M.1 1 0 = nI (pN P) := hM.1
          rw [f_X7_rowsFrom_9, m0, show t = pN P by omega, if_pos (Int32.le_refl _)]
          exact ⟨M, rfl, NR.rf M, rfl, fun _ _ => rfl⟩
        | succ f ihf =>
          intro t n M h3 h4 hM
          obtain ⟨n, rfl⟩ : ∃ m, n = m + 1 := ⟨n - 1, by omega⟩
          have ht : t < pN P := by omega
          by_cases c : b.testBit t = true ∧ frB P b t = true
          · obtain ⟨x1, x2, x3⟩ := xb t ht c.1
            have hno := gr_free hn hb hbN hc hg c.1 c.2
            obtain ⟨M3, r1, r2, r3, r4, r5, -⟩ := q_rowT (k := k) (many := k + (e + 1)) hV hb hbN (by omega) (fun z0 z1 S => g_X7_rowsFrom d 0 z0 z1 S) n M hM ht c.1 c.2 0 (fun _ => True) (fun M1 k1 k2 k3 => by
              obtain ⟨M2, q1, q2, q3, q4, q5⟩ := ihe (k + 1) d (b ^^^ 2 ^ t) M1 (by omega) (by omega) x3 (fun s hs => hbN s (sub t s c.1 hs)) (by omega) k1
              rw [hno] at q1
              refine ⟨M2, ?_, q2, q3, q4, trivial⟩
              rw [show k + (e + 1) = k + 1 + e by omega]
              exact q1) (fun _ _ _ _ => trivial)
            rw [r1, if_pos rfl]
            obtain ⟨M', g1, g2, g3, g4⟩ := ihf (t + 1) n M3 (by omega) (by omega) (by rw [r3]; exact hM)
            exact ⟨M', g1, r2.tr g2, g3.trans r3, fun j hj => (g4 j hj).trans (r5 j hj)⟩
          · obtain ⟨M1, r1, r2⟩ := q_rowS hV hbN (fun z0 z1 S => g_X7_rowsFrom d 0 z0 z1 S) n (nI k) (nI (k + (e + 1))) M hM ht c
            rw [r1]
            obtain ⟨M', g1, g2, g3, g4⟩ := ihf (t + 1) n M1 (by omega) (by omega) (RM_NG r2 hM)
            exact ⟨M', g1, (NR.ng r2).tr g2, g3.trans (r2.1 1 (by omega) (by omega) (by omega)), fun j hj => (g4 j hj).trans (by rw [r2.1 6 (by omega) (by omega) (by omega)])⟩
      obtain ⟨M', g1, g2, g3, g4⟩ := key (pN P) 0 aF M (by omega) (by have := aF_big; omega) hM
      exact ⟨M', g1, g2, g3, g4, fun l hl => by cases hl⟩
    | some l =>
      unfold grB at hg
      cases hf : ffB P b (pN P) 0 with
      | none => rw [hf] at hg; cases hg
      | some u =>
        rw [hf] at hg
        dsimp only at hg
        obtain ⟨u1, u2, u3, u4, u5⟩ := ffB_some hf
        have hu : u < pN P := by omega
        obtain ⟨x1, x2, x3⟩ := xb u hu u3
        cases hl : grB P e (b ^^^ 2 ^ u) with
        | none => rw [hl] at hg; cases hg
        | some l' =>
          rw [hl] at hg
          have hg : u :: l' = l := Option.some.inj hg
          have key : ∀ (f t n : Nat) (M : aSt), t + f = u → f < n → RM (stS P b) (M.1 1) → ∃ M', f_X7_rowsFrom_9 (fun z0 z1 S => g_X7_rowsFrom d 0 z0 z1 S) n (nI k) (nI (k + (e + 1))) (nI t) M = some (1, M') ∧ NR M M' ∧ M'.1 1 = M.1 1 ∧ (∀ j, j < k → M'.1 6 j = M.1 6 j) ∧ M'.1 6 k = nI u ∧ ∀ j (h : j < l'.length), M'.1 6 (k + 1 + j) = nI l'[j] := by
            intro f
            induction f with
            | zero =>
              intro t n M h3 h4 hM
              obtain ⟨n, rfl⟩ : ∃ m, n = m + 1 := ⟨n - 1, by omega⟩
              have ht : t = u := by omega
              subst ht
              obtain ⟨M3, r1, r2, r3, r4, r5, r6⟩ := q_rowT (k := k) (many := k + (e + 1)) hV hb hbN (by omega) (fun z0 z1 S => g_X7_rowsFrom d 0 z0 z1 S) n M hM hu u3 u4 1 (fun A => ∀ j (h : j < l'.length), A.1 6 (k + 1 + j) = nI l'[j]) (fun M1 k1 k2 k3 => by
                obtain ⟨M2, q1, q2, q3, q4, q5⟩ := ihe (k + 1) d (b ^^^ 2 ^ t) M1 (by omega) (by omega) x3 (fun s hs => hbN s (sub t s u3 hs)) (by omega) k1
                rw [hl] at q1
                refine ⟨M2, ?_, q2, q3, q4, q5 l' hl⟩
                rw [show k + (e + 1) = k + 1 + e by omega]
                exact q1) (fun A B h hA j hj => by rw [← h]; exact hA j hj)
              rw [r1, if_neg (by decide)]
              exact ⟨M3, rfl, r2, r3, r5, r4, r6⟩
            | succ f ihf =>
              intro t n M h3 h4 hM
              obtain ⟨n, rfl⟩ : ∃ m, n = m + 1 := ⟨n - 1, by omega⟩
              obtain ⟨M1, r1, r2⟩ := q_rowS hV hbN (fun z0 z1 S => g_X7_rowsFrom d 0 z0 z1 S) n (nI k) (nI (k + (e + 1))) M hM (show t < pN P by omega) (u5 t (by omega) (by omega))
              rw [r1]
              obtain ⟨M', g1, g2, g3, g4, g5⟩ := ihf (t + 1) n M1 (by omega) (by omega) (RM_NG r2 hM)
              exact ⟨M', g1, (NR.ng r2).tr g2, g3.trans (r2.1 1 (by omega) (by omega) (by omega)), fun j hj => (g4 j hj).trans (by rw [r2.1 6 (by omega) (by omega) (by omega)]), g5⟩
          obtain ⟨M', g1, g2, g3, g4, g5, g6⟩ := key u 0 aF M (by omega) (by have := aF_big; omega) hM
          refine ⟨M', g1, g2, g3, g4, fun l2 hl2 j hj => ?_⟩
          have hl2 : l = l2 := Option.some.inj hl2
          subst hl2
          subst hg
          cases j with
          | zero => exact g5
          | succ j =>
            have hj : j + 1 < l'.length + 1 := hj
            rw [show k + (j + 1) = k + 1 + j by omega]
            exact g6 j (by omega)
theorem pu_order_ok : pu_order Rel := by
  intro K X M p hR
  obtain ⟨⟨P, hV, hX, hM⟩, -, -⟩ := id hR
  have hn := hV.1
  unfold f_X6_order f_X7_order
  rcases in_cases p 4 (by omega) X M with ⟨k, hk, rfl, o1, i1⟩ | ⟨-, o1, i1⟩
  · rw [show f_X6_outside (nI k) 4 X = some (0, X) from o1, show f_X7_in (nI k) 0 4 M = some (1, M) from i1, aB_some, aB_some, if_pos rfl, if_neg (show ¬ (1 : Int32) = 0 by decide), q_standing hV hX, aB_some, q_bcS hV, aB_some, q_many hV hM, aB_some]
    have hc : cB (sbP P) 6 = sN (stP P) (pN P) := cB_sb6 hn (stP_le hV)
    have h6 := cB_le (sbP P) 6
    by_cases h5 : sN (stP P) (pN P) ≤ 5
    · rw [if_pos (show nI (sN (stP P) (pN P)) ≤ (5 : Int32) from nI_le (b := 5) h5 (by omega)), if_pos (show nI (sN (stP P) (pN P)) ≤ (5 : Int32) from nI_le (b := 5) h5 (by omega))]
      have hbN : ∀ t, (sbP P).testBit t = true → t < pN P := fun t ht => by
        unfold sbP at ht
        rw [sbT_bit] at ht
        exact (of_decide_eq_true ht).1
      obtain ⟨X', g1, g2⟩ := q_order38 hV (k := k) (by omega) h5 (sN (stP P) (pN P)) 0 aF (sbP P) (-5) X (by omega) (by have := aF_big; omega) (sbP_lt hV) hX
      obtain ⟨M', r1, r2, r3, r4, r5⟩ := q_rows hV (sN (stP P) (pN P)) 0 8 (sbP P) M (by omega) (by omega) (sbP_lt hV) hbN hc (RM_stS hV hM)
      rw [Nat.zero_add] at r1
      have r1 : f_X7_rowsFrom_k 0 (nI (sN (stP P) (pN P))) M = some (bI (grB P (sN (stP P) (pN P)) (sbP P)).isSome, M') := r1
      have mf : MF M M' := ⟨r3, r2.1 2 (by omega) (by omega) (by omega) (by omega) (by omega), r2.1 8 (by omega) (by omega) (by omega) (by omega) (by omega), r2.2 3 (by omega), r2.2 27 (by omega)⟩
      have hR' := Rel_look hR g2.xf mf
      rw [r1, aB_some]
      refine ⟨_, X', M', g1, ?_, hR'⟩
      cases hg : grB P (sN (stP P) (pN P)) (sbP P) with
      | none => rfl
      | some l =>
        have hl := grB_len hg
        rw [show (some l).isSome = true from rfl, if_neg (show ¬ bI true = 0 by decide)]
        show _ = some ((if 0 ≤ k then (match l[k - 0]? with | some u => nI u | none => (-5 : Int32)) else (-5 : Int32)), M')
        rw [if_pos (Nat.zero_le k), Nat.sub_zero]
        by_cases c : sN (stP P) (pN P) ≤ k
        · rw [if_pos (nI_le c (by omega)), List.getElem?_eq_none (by omega)]
        · have r6 := r5 l hg k (by omega)
          rw [Nat.zero_add] at r6
          rw [if_neg (nI_ge (by omega) (by omega)), if_neg (q_chk (by omega) (by omega)), nI_clamp (by omega), r6, List.getElem?_eq_getElem (by omega)]
    · rw [if_neg (show ¬ nI (sN (stP P) (pN P)) ≤ (5 : Int32) from nI_ge (a := 5) (by omega) (by omega)), if_neg (show ¬ nI (sN (stP P) (pN P)) ≤ (5 : Int32) from nI_ge (a := 5) (by omega) (by omega))]
      exact ⟨_, X, M, rfl, rfl, hR⟩
  · rw [show f_X6_outside p 4 X = some (1, X) from o1, show f_X7_in p 0 4 M = some (0, M) from i1, aB_some, aB_some, if_neg (show ¬ (1 : Int32) = 0 by decide), if_pos rfl]
    exact ⟨_, X, M, rfl, rfl, hR⟩

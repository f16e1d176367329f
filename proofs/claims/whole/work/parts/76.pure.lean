/-! PURE PART: lay, lays -/
def ocA (A : Nat → Bool) (pl : Nat → Nat) (N : Nat) (p : Nat) : Option Nat := ocG A pl p N 0
def lyL (oc : Nat → Option Nat) (w : Nat) : Nat → Option Nat → List Nat × Option Nat
  | 0, _ => ([], none)
  | _ + 1, none => ([], none)
  | n + 1, some p => match oc p with
    | some t => ([], some t)
    | none => (p :: (lyL oc w n (np p w)).1, (lyL oc w n (np p w)).2)
def bts : List Nat → Nat
  | [] => 0
  | p :: l => 2 ^ p ||| bts l
theorem lyL_none (oc : Nat → Option Nat) (w n : Nat) : lyL oc w n none = ([], none) := by cases n <;> rfl
theorem lyL_hang {oc : Nat → Option Nat} {w n p t : Nat} (h : oc p = some t) : lyL oc w (n + 1) (some p) = ([], some t) := by
  unfold lyL; rw [h]
theorem lyL_on {oc : Nat → Option Nat} {w n p : Nat} (h : oc p = none) : lyL oc w (n + 1) (some p) = (p :: (lyL oc w n (np p w)).1, (lyL oc w n (np p w)).2) := by
  rw [lyL, h]
/-- a run changes Course alone -/
def RF (X X' : aSt) : Prop := (∀ k, k ≠ 29 → X'.1 k = X.1 k) ∧ ∀ k, k ≠ 29 → X'.2 k = X.2 k
theorem RF.tr {A B C : aSt} (h : RF A B) (g : RF B C) : RF A C := ⟨fun k hk => (g.1 k hk).trans (h.1 k hk), fun k hk => (g.2 k hk).trans (h.2 k hk)⟩
theorem RF.rf (A : aSt) : RF A A := ⟨fun _ _ => rfl, fun _ _ => rfl⟩
theorem RF.cf {A B : aSt} (h : CF A B) : RF A B := ⟨h.1, fun k _ => by rw [h.2]⟩
theorem RF.ui (A : aSt) (j : Nat) (v : Int32) : RF A (aUi A 29 j v) := ⟨fun k hk => aUi_row hk, fun _ _ => rfl⟩
theorem RF.ul (A : aSt) (j : Nat) (v : Int64) : RF A (aUl A 29 j v) := ⟨fun _ _ => rfl, fun k hk => aUl_row hk⟩
theorem RF.xf {A B : aSt} (h : RF A B) : XF A B := ⟨fun k hk => h.1 k (by omega), h.2⟩
theorem VX_RF {N : Nat} {pl : Nat → Nat} {X X' : aSt} (hN : N ≤ 6) (h : RF X X') (hV : VX N pl X) : VX N pl X' := ⟨by rw [h.1 1 (by omega)]; exact hV.1, fun t ht => by rw [h.1 _ (by omega)]; exact hV.2 t ht⟩
theorem q_lay62 {N b w len : Nat} {pl : Nat → Nat} (hN : N ≤ 6) (hb : b < 64) (hw : w < 8) (hl : len < 2 ^ 30) : ∀ (e k : Nat) (q : Option Nat) (n acc : Nat) (X : aSt), k + e = len → e < n → (∀ p, q = some p → p < 64) → VX N pl X → X.1 29 5 = nI w → X.1 29 6 = -5 → X.2 29 7 = lN acc → ∃ X', f_X1_lay_62 n 1 (nI b) (nI len) (o1 q) (nI k) X = some ((), X') ∧ RF X X' ∧ (∀ j, j ≠ 6 → X'.1 29 j = X.1 29 j) ∧ X'.1 29 6 = oI (lyL (ocA b.testBit pl N) w e q).2 ∧ X'.2 29 7 = lN (acc ||| bts (lyL (ocA b.testBit pl N) w e q).1) := by
  intro e
  induction e with
  | zero =>
    intro k q n acc X h1 h2 h3 hV h5 h6 h7
    obtain ⟨n, rfl⟩ : ∃ m, n = m + 1 := ⟨n - 1, by omega⟩
    refine ⟨X, ?_, RF.rf X, fun _ _ => rfl, h6, ?_⟩
    · rw [f_X1_lay_62, if_pos (nI_le (by omega) (by omega))]
    · rw [h7]; show lN acc = lN (acc ||| 0); rw [Nat.or_zero]
  | succ e ih =>
    intro k q n acc X h1 h2 h3 hV h5 h6 h7
    obtain ⟨n, rfl⟩ : ∃ m, n = m + 1 := ⟨n - 1, by omega⟩
    rw [f_X1_lay_62, if_neg (nI_ge (by omega) (by omega))]
    cases q with
    | none =>
      refine ⟨X, ?_, RF.rf X, fun _ _ => rfl, h6, ?_⟩
      · rw [if_pos (show o1 none = -1 from rfl)]
      · rw [h7]; show lN acc = lN (acc ||| 0); rw [Nat.or_zero]
    | some p =>
      have hp := h3 p rfl
      rw [show o1 (some p) = nI p from rfl, if_neg (neg_ne (by omega) (by decide)), q_which hV hN hb hp, aB_some, aLt_eq, aUi_at]
      cases hc : ocG b.testBit pl p N 0 with
      | some t =>
        have ht := ocG_lt hc
        rw [show oI (some t) = nI t from rfl, if_neg (neg_ne (by omega) (by decide))]
        refine ⟨_, rfl, RF.ui X 6 _, fun j hj => aUi_ne hj, ?_, ?_⟩
        · rw [aUi_at, lyL_hang (oc := ocA _ pl N) hc]; rfl
        · rw [lyL_hang (oc := ocA _ pl N) hc]; show X.2 29 7 = lN (acc ||| 0); rw [Nat.or_zero]; exact h7
      | none =>
        rw [if_pos (show oI none = -5 from rfl), aLt_eq, show ((aUi X 29 6 (oI none)).2 29 7) = X.2 29 7 from rfl, h7, l1_p hp, lN_or, show ((aUl (aUi X 29 6 (oI none)) 29 7 (lN (acc ||| 2 ^ p))).1 29 5) = (aUi X 29 6 (oI none)).1 29 5 from rfl, aUi_ne (show (5 : Nat) ≠ 6 by omega), h5, np6 hp hw, aB_some, aLt_eq, nI_1]
        obtain ⟨X', e1, e2, e3, e4, e5⟩ := ih (k + 1) (np p w) n (acc ||| 2 ^ p) (aUl (aUi X 29 6 (oI none)) 29 7 (lN (acc ||| 2 ^ p))) (by omega) (by omega) (fun x hx => (np_in hp hw hx).1) (VX_RF hN ((RF.ui X 6 _).tr (RF.ul _ 7 _)) hV) (by show (aUi X 29 6 (oI none)).1 29 5 = _; rw [aUi_ne (by omega)]; exact h5) (by show (aUi X 29 6 (oI none)).1 29 6 = _; rw [aUi_at]; rfl) aUl_at
        refine ⟨X', e1, ((RF.ui X 6 _).tr (RF.ul _ 7 _)).tr e2, fun j hj => ?_, ?_, ?_⟩
        · rw [e3 j hj]; show (aUi X 29 6 (oI none)).1 29 j = _; rw [aUi_ne hj]
        · rw [lyL_on (oc := ocA _ pl N) hc]; exact e4
        · rw [lyL_on (oc := ocA _ pl N) hc, e5]; show lN (acc ||| 2 ^ p ||| _) = lN (acc ||| (2 ^ p ||| _)); rw [Nat.or_assoc]
def lyN (how h : Nat) : Nat := if how = 2 then 0 else if how = 4 then h - 1 else h
def wyN (how : Nat) (a : Int32) (notch : Nat) : Nat := if how = 1 then (notch + (if a ≤ 0 then 7 else 1)) % 8 else if how = 3 then (notch + (if a ≤ 0 then 6 else 2)) % 8 else notch
theorem wyN_lt {how : Nat} {a : Int32} {notch : Nat} (h : notch < 8) : wyN how a notch < 8 := by
  unfold wyN
  split
  · exact Nat.mod_lt _ (by omega)
  · split
    · exact Nat.mod_lt _ (by omega)
    · exact h
theorem wy_N {how : Nat} {a : Int32} {notch : Nat} (h : how ≠ 2) : wy how a notch = nI (wyN how a notch) := by
  unfold wy wyN
  rw [if_neg h]
  split
  · rfl
  · split <;> rfl
theorem q_lay {N b c how n p0 h : Nat} {a : Int32} {pl : Nat → Nat} {X : aSt} (hN : N ≤ 6) (hb : b < 64) (hn : n < 8) (hp : p0 < 64) (hh1 : 1 ≤ h) (hh : h ≤ 7) (hc : c ≠ 29) (hV : VX N pl X) (h3 : X.1 c 3 = nI p0) (h4 : X.1 c 4 = nI h) (g4 : X.1 29 4 = nI how) (ghow : how < 5) (g5 : X.1 29 5 = wy how a n) : ∃ X', f_X1_lay 1 c (nI b) X = some ((), X') ∧ RF X X' ∧ (∀ j, j ≠ 6 → X'.1 29 j = X.1 29 j) ∧ X'.1 29 6 = oI (lyL (ocA b.testBit pl N) (wyN how a n) (lyN how h) (np p0 (wyN how a n))).2 ∧ X'.2 29 7 = lN (bts (lyL (ocA b.testBit pl N) (wyN how a n) (lyN how h) (np p0 (wyN how a n))).1) := by
  have r0 : RF X (aUi (aUl X 29 7 0) 29 6 (-5)) := (RF.ul X 7 0).tr (RF.ui _ 6 _)
  have key : ∀ len q, len ≤ 7 → (∀ p, q = some p → p < 64) → ∀ w, w < 8 → (wy how a n = nI w ∨ len = 0) → ∃ X', f_X1_lay_62 aF 1 (nI b) (nI len) (o1 q) 0 (aUi (aUl X 29 7 0) 29 6 (-5)) = some ((), X') ∧ RF X X' ∧ (∀ j, j ≠ 6 → X'.1 29 j = X.1 29 j) ∧ X'.1 29 6 = oI (lyL (ocA b.testBit pl N) w len q).2 ∧ X'.2 29 7 = lN (bts (lyL (ocA b.testBit pl N) w len q).1) := by
    intro len q h1 h2 w hw hwy
    rcases hwy with hwy | h0
    · obtain ⟨X', e1, e2, e3, e4, e5⟩ := q_lay62 hN hb hw (show len < 2 ^ 30 by omega) len 0 q aF 0 (aUi (aUl X 29 7 0) 29 6 (-5)) (by omega) (by have := aF_big; omega) h2 (VX_RF hN r0 hV) (by rw [aUi_ne (by omega)]; show X.1 29 5 = _; rw [g5, hwy]) aUi_at (by show (aUl X 29 7 0).2 29 7 = lN 0; rw [aUl_at]; rfl)
      exact ⟨X', e1, r0.tr e2, fun j hj => by rw [e3 j hj, aUi_ne hj]; rfl, e4, by rw [e5, Nat.zero_or]⟩
    · subst h0
      obtain ⟨m, hm⟩ := aF_s 1 (by omega)
      refine ⟨_, ?_, r0, fun j hj => by rw [aUi_ne hj]; rfl, aUi_at, by show (aUl X 29 7 0).2 29 7 = lN 0; rw [aUl_at]; rfl⟩
      rw [hm, f_X1_lay_62, if_pos (show nI 0 ≤ 0 from Int32.le_refl 0)]
  have s4 : (aUi (aUl X 29 7 0) 29 6 (-5)).1 29 4 = nI how := by rw [aUi_ne (by omega)]; exact g4
  have s5 : (aUi (aUl X 29 7 0) 29 6 (-5)).1 29 5 = wy how a n := by rw [aUi_ne (by omega)]; exact g5
  have t3 : (aUi (aUl X 29 7 0) 29 6 (-5)).1 c 3 = nI p0 := by rw [aUi_row hc]; exact h3
  have t4 : (aUi (aUl X 29 7 0) 29 6 (-5)).1 c 4 = nI h := by rw [aUi_row hc]; exact h4
  unfold f_X1_lay f_X1_lay_44
  rw [aLt_eq, aLt_eq, s4, s5, t3, t4]
  have hw := wyN_lt (how := how) (a := a) hn
  by_cases c2 : how = 2
  · rw [if_pos (show nI how = (2 : Int32) by rw [c2]; rfl), show wy how a n = -5 by rw [c2]; rfl, np6_m hp, aB_some]
    obtain ⟨X', e1, e2, e3, e4, e5⟩ := key 0 (np p0 3) (by omega) (fun p h => (np_in hp (by omega) h).1) (wyN how a n) hw (Or.inr rfl)
    have z : lyN how h = 0 := by unfold lyN; rw [if_pos c2]
    rw [z]
    exact ⟨X', e1, e2, e3, e4, e5⟩
  · rw [if_neg (show ¬ nI how = (2 : Int32) from fun e => c2 ((nI_eq (b := 2) (by omega) (by omega)).mp e)), wy_N c2, np6 hp hw, aB_some, aB_some]
    by_cases c4 : how = 4
    · rw [if_pos (show nI how = (4 : Int32) by rw [c4]; rfl), show nI h - 1 = nI (h - 1) from pk_sub hh1]
      have z : lyN how h = h - 1 := by unfold lyN; rw [if_neg c2, if_pos c4]
      rw [z]
      exact key (h - 1) (np p0 (wyN how a n)) (by omega) (fun p h => (np_in hp hw h).1) (wyN how a n) hw (Or.inl (wy_N c2))
    · rw [if_neg (show ¬ nI how = (4 : Int32) from fun e => c4 ((nI_eq (b := 4) (by omega) (by omega)).mp e))]
      have z : lyN how h = h := by unfold lyN; rw [if_neg c2, if_neg c4]
      rw [z]
      exact key h (np p0 (wyN how a n)) (by omega) (fun p h => (np_in hp hw h).1) (wyN how a n) hw (Or.inl (wy_N c2))
/-- the reference -/
def NH (M M' : aSt) : Prop := (∀ k, k ≠ 0 → M'.1 k = M.1 k) ∧ (∀ j, j ≠ 21 → j ≠ 22 → M'.1 0 j = M.1 0 j) ∧ ∀ k, k ≠ 0 → M'.2 k = M.2 k
theorem NH.tr {A B C : aSt} (h : NH A B) (g : NH B C) : NH A C := ⟨fun k hk => (g.1 k hk).trans (h.1 k hk), fun j h1 h2 => (g.2.1 j h1 h2).trans (h.2.1 j h1 h2), fun k hk => (g.2.2 k hk).trans (h.2.2 k hk)⟩
theorem NH.rf (A : aSt) : NH A A := ⟨fun _ _ => rfl, fun _ _ _ => rfl, fun _ _ => rfl⟩
theorem NH.up (A : aSt) (x : Int32) (y : Int64) (z : Int32) : NH A (aUi (aUl (aUi A 0 22 x) 0 20 y) 0 21 z) := ⟨fun k hk => by rw [aUi_row hk]; show (aUi A 0 22 x).1 k = _; rw [aUi_row hk], fun j h1 h2 => by rw [aUi_ne h1]; show (aUi A 0 22 x).1 0 j = _; rw [aUi_ne h2], fun k hk => aUl_row hk⟩
theorem VM_NH {N : Nat} {st pl : Nat → Nat} {M M' : aSt} (h : ∀ k, k ≠ 0 → M'.1 k = M.1 k) (hV : VM N st pl M) : VM N st pl M' := by
  unfold VM at hV ⊢
  rw [h 1 (by omega)]
  exact hV
theorem q_lays75 {N i w many : Nat} {st pl : Nat → Nat} (hN : N ≤ 6) (hi : i < 6) (hw : w < 8) (hl : many ≤ 7) : ∀ (e k : Nat) (q : Option Nat) (n acc cnt : Nat) (M : aSt), k + e = many → e < n → (∀ p, q = some p → p < 64) → VM N st pl M → M.1 0 19 = nI w → M.1 0 22 = -5 → M.1 0 21 = nI cnt → M.2 0 20 = lN acc → ∃ M', f_X7_lays_75 n (nI i) (nI many) (o1 q) (nI k) M = some ((), M') ∧ NH M M' ∧ M'.1 0 22 = oI (lyL (ocA (stA st (some i)) pl N) w e (q.bind (fun p => np p w))).2 ∧ M'.1 0 21 = nI (cnt + (lyL (ocA (stA st (some i)) pl N) w e (q.bind (fun p => np p w))).1.length) ∧ M'.2 0 20 = lN (acc ||| bts (lyL (ocA (stA st (some i)) pl N) w e (q.bind (fun p => np p w))).1) := by
  intro e
  induction e with
  | zero =>
    intro k q n acc cnt M h1 h2 h3 hV h5 h6 h7 h8
    obtain ⟨n, rfl⟩ : ∃ m, n = m + 1 := ⟨n - 1, by omega⟩
    refine ⟨M, ?_, NH.rf M, h6, h7, ?_⟩
    · rw [f_X7_lays_75, if_pos (nI_le (by omega) (by omega))]
    · rw [h8]; show lN acc = lN (acc ||| 0); rw [Nat.or_zero]
  | succ e ih =>
    intro k q n acc cnt M h1 h2 h3 hV h5 h6 h7 h8
    obtain ⟨n, rfl⟩ : ∃ m, n = m + 1 := ⟨n - 1, by omega⟩
    rw [f_X7_lays_75, if_neg (nI_ge (by omega) (by omega)), h6, if_pos rfl, h5]
    unfold f_X7_lays_107 f_X7_lays_135 f_X7_lays_156 f_X7_lays_176 f_X7_lays_180
    simp only [aLt_eq]
    have none_case : ∀ q' : Option Nat, q'.bind (fun p => np p w) = none → ∃ M', f_X7_lays_75 n (nI i) (nI many) (-1) (nI k + 1) M = some ((), M') ∧ NH M M' ∧ M'.1 0 22 = oI (lyL (ocA (stA st (some i)) pl N) w (e + 1) (q'.bind (fun p => np p w))).2 ∧ M'.1 0 21 = nI (cnt + (lyL (ocA (stA st (some i)) pl N) w (e + 1) (q'.bind (fun p => np p w))).1.length) ∧ M'.2 0 20 = lN (acc ||| bts (lyL (ocA (stA st (some i)) pl N) w (e + 1) (q'.bind (fun p => np p w))).1) := fun q' hq => by
      obtain ⟨M', e1, e2, e3, e4, e5⟩ := ih (k + 1) none n acc cnt M (by omega) (by omega) (fun p h => by cases h) hV h5 h6 h7 h8
      rw [hq]
      rw [Option.bind_none, lyL_none] at e3 e4 e5
      rw [lyL_none]
      exact ⟨M', by rw [nI_1]; exact e1, e2, e3, e4, e5⟩
    cases q with
    | none =>
      rw [if_pos (show o1 none = -1 from rfl), if_pos trivial]
      exact none_case none rfl
    | some p0 =>
      have hp0 := h3 p0 rfl
      rw [show o1 (some p0) = nI p0 from rfl, if_neg (neg_ne (by omega) (by decide)), np7 hp0 hw, aB_some]
      cases hq : np p0 w with
      | none =>
        rw [if_pos (show o1 none = -1 from rfl)]
        exact none_case (some p0) hq
      | some p =>
        have hp := (np_in hp0 hw hq).1
        have hbd : (some p0 : Option Nat).bind (fun p => np p w) = some p := hq
        rw [hbd, show o1 (some p) = nI p from rfl, if_neg (neg_ne (by omega) (by decide)), show nI i = o1 (some i) from rfl, q_on (some i) hV hN hp (fun t h => by cases h; exact hi), aB_some]
        cases hc : ocG (stA st (some i)) pl p N 0 with
        | some t =>
          have ht := ocG_lt hc
          rw [show o1 (some t) = nI t from rfl, if_neg (neg_ne (by omega) (by decide)), if_neg (neg_ne (by omega) (by decide)), if_neg (neg_ne (by omega) (by decide)), show ((aUi M 0 22 (nI t)).2 0 20) = M.2 0 20 from rfl, h8, show ((aUl (aUi M 0 22 (nI t)) 0 20 (lN acc ||| 0)).1 0 21) = (aUi M 0 22 (nI t)).1 0 21 from rfl, aUi_ne (show (21 : Nat) ≠ 22 by omega), h7]
          refine ⟨aUi (aUl (aUi M 0 22 (nI t)) 0 20 (lN acc ||| 0)) 0 21 (nI cnt + 0), ?_, NH.up M _ _ _, ?_, ?_, ?_⟩
          · obtain ⟨n, rfl⟩ : ∃ m, n = m + 1 := ⟨n - 1, by omega⟩
            rw [f_X7_lays_75]
            by_cases hk : nI many ≤ nI k + 1
            · rw [if_pos hk]
            · rw [if_neg hk, if_neg]
              rw [aUi_ne (by omega)]
              show ¬ (aUi M 0 22 (nI t)).1 0 22 = -5
              rw [aUi_at]
              exact neg_ne (by omega) (by decide)
          · rw [aUi_ne (by omega), lyL_hang (oc := ocA _ pl N) hc]
            show (aUi M 0 22 (nI t)).1 0 22 = _
            rw [aUi_at]; rfl
          · rw [aUi_at, lyL_hang (oc := ocA _ pl N) hc]; exact nI_add cnt 0
          · show (aUl (aUi M 0 22 (nI t)) 0 20 (lN acc ||| 0)).2 0 20 = _
            rw [aUl_at, lyL_hang (oc := ocA _ pl N) hc]; exact lN_or acc 0
        | none =>
          rw [if_pos (show o1 none = -1 from rfl), if_pos (show o1 none = -1 from rfl), if_pos (show o1 none = -1 from rfl), l1_p hp, show ((aUi M 0 22 (-5)).2 0 20) = M.2 0 20 from rfl, h8, lN_or, show ((aUl (aUi M 0 22 (-5)) 0 20 (lN (acc ||| 2 ^ p))).1 0 21) = (aUi M 0 22 (-5)).1 0 21 from rfl, aUi_ne (show (21 : Nat) ≠ 22 by omega), h7, nI_1, nI_1]
          have nh := NH.up M (-5) (lN (acc ||| 2 ^ p)) (nI (cnt + 1))
          obtain ⟨M', e1, e2, e3, e4, e5⟩ := ih (k + 1) (some p) n (acc ||| 2 ^ p) (cnt + 1) (aUi (aUl (aUi M 0 22 (-5)) 0 20 (lN (acc ||| 2 ^ p))) 0 21 (nI (cnt + 1))) (by omega) (by omega) (fun x hx => by cases hx; exact hp) (VM_NH nh.1 hV) (by rw [nh.2.1 19 (by omega) (by omega)]; exact h5) (by rw [aUi_ne (by omega)]; show (aUi M 0 22 (-5)).1 0 22 = -5; exact aUi_at) aUi_at (by show (aUl (aUi M 0 22 (-5)) 0 20 (lN (acc ||| 2 ^ p))).2 0 20 = _; exact aUl_at)
          have hb2 : (some p : Option Nat).bind (fun p => np p w) = np p w := rfl
          rw [hb2] at e3 e4 e5
          refine ⟨M', e1, nh.tr e2, ?_, ?_, ?_⟩
          · rw [lyL_on (oc := ocA _ pl N) hc]; exact e3
          · rw [lyL_on (oc := ocA _ pl N) hc, e4]; congr 1; show cnt + 1 + _ = cnt + (_ + 1); omega
          · rw [lyL_on (oc := ocA _ pl N) hc, e5]; show lN (acc ||| 2 ^ p ||| _) = lN (acc ||| (2 ^ p ||| _)); rw [Nat.or_assoc]
def NG (M M' : aSt) : Prop := (∀ k, k ≠ 0 → k ≠ 3 → k ≠ 4 → M'.1 k = M.1 k) ∧ (∀ j, (j < 11 ∨ 23 ≤ j) → M'.1 0 j = M.1 0 j) ∧ ∀ k, k ≠ 0 → M'.2 k = M.2 k
theorem NG.tr {A B C : aSt} (h : NG A B) (g : NG B C) : NG A C := ⟨fun k h1 h2 h3 => (g.1 k h1 h2 h3).trans (h.1 k h1 h2 h3), fun j hj => (g.2.1 j hj).trans (h.2.1 j hj), fun k hk => (g.2.2 k hk).trans (h.2.2 k hk)⟩
theorem NG.rf (A : aSt) : NG A A := ⟨fun _ _ _ _ => rfl, fun _ _ => rfl, fun _ _ => rfl⟩
theorem NG.nf {A B : aSt} (h : NF A B) : NG A B := ⟨h.1, fun j hj => h.2.1 j (by omega), fun k _ => by rw [h.2.2]⟩
theorem NG.nh {A B : aSt} (h : NH A B) : NG A B := ⟨fun k h1 _ _ => h.1 k h1, fun j hj => h.2.1 j (by omega) (by omega), h.2.2⟩
theorem NG.mf {A B : aSt} (h : NG A B) : MF A B := ⟨h.1 1 (by omega) (by omega) (by omega), h.1 2 (by omega) (by omega) (by omega), h.1 8 (by omega) (by omega) (by omega), h.2.1 3 (by omega), h.2.1 27 (by omega)⟩
theorem NF.mf {A B : aSt} (h : NF A B) : MF A B := (NG.nf h).mf
theorem q_lays {N i how n p0 h : Nat} {a : Int32} {st pl : Nat → Nat} {M : aSt} (hN : N ≤ 6) (hi : i < 6) (hn : n < 8) (hp : p0 < 64) (hh1 : 1 ≤ h) (hh : h ≤ 7) (hV : VM N st pl M) (h3 : M.1 1 (122 + i) = nI p0) (h4 : M.1 1 (128 + i) = nI h) (g4 : M.1 0 18 = nI how) (ghow : how < 5) (g5 : M.1 0 19 = wy how a n) : ∃ M', f_X7_lays (nI i) M = some ((), M') ∧ NH M M' ∧ M'.1 0 22 = oI (lyL (ocA (stA st (some i)) pl N) (wyN how a n) (lyN how h) (np p0 (wyN how a n))).2 ∧ M'.1 0 21 = nI (lyL (ocA (stA st (some i)) pl N) (wyN how a n) (lyN how h) (np p0 (wyN how a n))).1.length ∧ M'.2 0 20 = lN (bts (lyL (ocA (stA st (some i)) pl N) (wyN how a n) (lyN how h) (np p0 (wyN how a n))).1) := by
  generalize hM3 : aUi (aUi (aUl M 0 20 0) 0 21 0) 0 22 (-5) = M3
  have nh : NH M M3 := by
    subst hM3
    exact ⟨fun k hk => by rw [aUi_row hk, aUi_row hk]; rfl, fun j h1 h2 => by rw [aUi_ne h2, aUi_ne h1]; rfl, fun k hk => aUl_row hk⟩
  have e22 : M3.1 0 22 = -5 := by subst hM3; exact aUi_at
  have e21 : M3.1 0 21 = nI 0 := by subst hM3; rw [aUi_ne (by omega)]; exact aUi_at
  have e20 : M3.2 0 20 = lN 0 := by subst hM3; show (aUl M 0 20 0).2 0 20 = lN 0; rw [aUl_at]; rfl
  have s18 : M3.1 0 18 = nI how := by rw [nh.2.1 18 (by omega) (by omega)]; exact g4
  have s19 : M3.1 0 19 = wy how a n := by rw [nh.2.1 19 (by omega) (by omega)]; exact g5
  have t3 : M3.1 1 (122 + i) = nI p0 := by rw [nh.1 1 (by omega)]; exact h3
  have t4 : M3.1 1 (128 + i) = nI h := by rw [nh.1 1 (by omega)]; exact h4
  have key : ∀ len, len ≤ 7 → ∀ w, w < 8 → (wy how a n = nI w ∨ len = 0) → ∃ M', f_X7_lays_75 aF (nI i) (nI len) (nI p0) 0 M3 = some ((), M') ∧ NH M M' ∧ M'.1 0 22 = oI (lyL (ocA (stA st (some i)) pl N) w len (np p0 w)).2 ∧ M'.1 0 21 = nI (lyL (ocA (stA st (some i)) pl N) w len (np p0 w)).1.length ∧ M'.2 0 20 = lN (bts (lyL (ocA (stA st (some i)) pl N) w len (np p0 w)).1) := by
    intro len h1 w hw hwy
    rcases hwy with hwy | h0
    · obtain ⟨M', e1, e2, e3, e4, e5⟩ := q_lays75 hN hi hw h1 len 0 (some p0) aF 0 0 M3 (by omega) (by have := aF_big; omega) (fun p h => by cases h; exact hp) (VM_NH nh.1 hV) (by rw [s19, hwy]) e22 e21 e20
      rw [Nat.zero_add] at e4
      rw [Nat.zero_or] at e5
      exact ⟨M', e1, nh.tr e2, e3, e4, e5⟩
    · subst h0
      obtain ⟨m, hm⟩ := aF_s 1 (by omega)
      refine ⟨M3, ?_, nh, e22, e21, e20⟩
      rw [hm, f_X7_lays_75, if_pos (show nI 0 ≤ 0 from Int32.le_refl 0)]
  unfold f_X7_lays f_X7_lays_61
  rw [aLt_eq, aLt_eq, aLt_eq, hM3, s18, show (122 : Int32) + nI i = nI (122 + i) from nI_add 122 i, show (128 : Int32) + nI i = nI (128 + i) from nI_add 128 i, nI_clamp (show 122 + i < 2 ^ 31 by omega), nI_clamp (show 128 + i < 2 ^ 31 by omega), t3, t4]
  have k1 : ¬ (nI (122 + i) < 0 ∨ 979 ≤ 122 + i) := q_chk2 (by omega) (by omega)
  have k2 : ¬ (nI (128 + i) < 0 ∨ 979 ≤ 128 + i) := q_chk2 (by omega) (by omega)
  simp only [aLt_eq, if_neg k1, if_neg k2]
  have hw := wyN_lt (how := how) (a := a) hn
  by_cases c2 : how = 2
  · rw [if_pos (show nI how = (2 : Int32) by rw [c2]; rfl)]
    have z : lyN how h = 0 := by unfold lyN; rw [if_pos c2]
    rw [z]
    exact key 0 (by omega) (wyN how a n) hw (Or.inr rfl)
  · rw [if_neg (show ¬ nI how = (2 : Int32) from fun e => c2 ((nI_eq (b := 2) (by omega) (by omega)).mp e))]
    by_cases c4 : how = 4
    · rw [if_pos (show nI how = (4 : Int32) by rw [c4]; rfl), show nI h - 1 = nI (h - 1) from pk_sub hh1]
      have z : lyN how h = h - 1 := by unfold lyN; rw [if_neg c2, if_pos c4]
      rw [z]
      exact key (h - 1) (by omega) (wyN how a n) hw (Or.inl (wy_N c2))
    · rw [if_neg (show ¬ nI how = (4 : Int32) from fun e => c4 ((nI_eq (b := 4) (by omega) (by omega)).mp e))]
      have z : lyN how h = h := by unfold lyN; rw [if_neg c2, if_neg c4]
      rw [z]
      exact key h (by omega) (wyN how a n) hw (Or.inl (wy_N c2))

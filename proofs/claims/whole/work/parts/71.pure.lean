/-! PURE PART: the reference's looks, clauses -/
def LG (M M' : aSt) : Prop := (∀ k, k ≠ 0 → k ≠ 4 → M'.1 k = M.1 k) ∧ (∀ j, j ≠ 11 → j ≠ 12 → j ≠ 13 → M'.1 0 j = M.1 0 j) ∧ M'.2 = M.2
theorem LG.tr {A B C : aSt} (h : LG A B) (g : LG B C) : LG A C := ⟨fun k h1 h2 => (g.1 k h1 h2).trans (h.1 k h1 h2), fun j h1 h2 h3 => (g.2.1 j h1 h2 h3).trans (h.2.1 j h1 h2 h3), g.2.2.trans h.2.2⟩
theorem LF.lg {A B : aSt} (h : LF A B) : LG A B := ⟨fun k _ h2 => h.1 k h2, fun j _ _ _ => by rw [h.1 0 (by omega)], h.2⟩
def clZ (k n : Nat) : Int32 := (if k = 0 then (-10 : Int32) else if k = 1 then -200 else -400) - nI n
set_option maxRecDepth 20000 in
theorem clz_f : ∀ n : Fin 100, (clZ 0 n.1 < 0 ∧ ¬ clZ 0 n.1 = -1 ∧ clZ 0 n.1 ≤ -10 ∧ ¬ clZ 0 n.1 ≤ -200 ∧ -200 < clZ 0 n.1 ∧ -400 < clZ 0 n.1 ∧ -10 - clZ 0 n.1 = nI n.1) ∧ (clZ 1 n.1 < 0 ∧ ¬ clZ 1 n.1 = -1 ∧ clZ 1 n.1 ≤ -10 ∧ clZ 1 n.1 ≤ -200 ∧ ¬ -200 < clZ 1 n.1 ∧ ¬ clZ 1 n.1 ≤ -400 ∧ -400 < clZ 1 n.1 ∧ -200 - clZ 1 n.1 = nI n.1) ∧ (clZ 2 n.1 < 0 ∧ ¬ clZ 2 n.1 = -1 ∧ clZ 2 n.1 ≤ -10 ∧ clZ 2 n.1 ≤ -200 ∧ ¬ -200 < clZ 2 n.1 ∧ clZ 2 n.1 ≤ -400 ∧ ¬ -400 < clZ 2 n.1 ∧ -400 - clZ 2 n.1 = nI n.1) := by decide +kernel
theorem i_add0 (x : Int32) : x + 0 = x := Int32.add_zero x
theorem i_sub0 (x : Int32) : x - 0 = x := Int32.sub_zero x
def c3 (k q v : Nat) (b : Bool) : Nat := if k = q ∧ b = true then v else 0
theorem q_lkE {many frm pos n k v : Nat} {b : Bool} {M : aSt} (hm : frm + many ≤ 979) (hk : k < 3) (hv : v < 100) (hx : M.1 1 pos = clZ k v) (hp : pos < frm + many) (hb : M.1 4 0 = bI b) (t : Int32) : ∃ M', LG M M' ∧ f_X7_looks_125 (n + 1) (nI many) (nI frm) t (nI pos) M = f_X7_looks_125 n (nI many) (nI frm) (nI 0) (nI (pos + 1)) M' ∧ M'.1 0 11 = M.1 0 11 + nI (c3 k 0 v b) ∧ M'.1 0 12 = M.1 0 12 - nI (c3 k 1 v b) ∧ M'.1 0 13 = M.1 0 13 + nI (c3 k 2 v b) := by
  obtain ⟨z0, z1, z2⟩ := clz_f ⟨v, hv⟩
  simp only at z0 z1 z2
  rw [f_X7_looks_125, nI_add, if_neg (nI_ge hp (by omega)), if_neg (q_chk (by omega) (by omega)), aLt_eq, nI_clamp (by omega), hx]
  unfold f_X7_looks_400 f_X7_looks_401 f_X7_looks_440 f_X7_looks_441 f_X7_looks_472 f_X7_looks_473 f_X7_looks_477
  refine ⟨aUi (aUi (aUi M 0 11 (M.1 0 11 + nI (c3 k 0 v b))) 0 12 (M.1 0 12 - nI (c3 k 1 v b))) 0 13 (M.1 0 13 + nI (c3 k 2 v b)), ⟨fun q h1 h2 => ?_, fun j h1 h2 h3 => ?_, rfl⟩, ?_, ?_, ?_, ?_⟩
  · rw [aUi_row h1, aUi_row h1, aUi_row h1]
  · rw [aUi_ne h3, aUi_ne h2, aUi_ne h1]
  · have r12 : ∀ y, (aUi M 0 11 y).1 0 12 = M.1 0 12 := fun y => aUi_ne (by omega)
    have r13 : ∀ y z, (aUi (aUi M 0 11 y) 0 12 z).1 0 13 = M.1 0 13 := fun y z => by rw [aUi_ne (by omega), aUi_ne (by omega)]
    have f0 : ∀ q, c3 k q v false = 0 := fun q => by unfold c3; rw [if_neg (by simp)]
    rcases (show k = 0 ∨ k = 1 ∨ k = 2 by omega) with rfl | rfl | rfl
    · obtain ⟨y1, y2, y3, y4, y5, y6, y7⟩ := z0
      rw [if_pos y1, if_neg y2, if_pos y3, aLt_eq, hb]
      cases b with
      | false => simp only [show bI false = 0 from rfl, if_true, aLt_eq, r12, r13, f0, nI_0, i_add0, i_sub0, nI_1]
      | true => simp only [show ¬ bI true = 0 by decide, if_false, y4, y5, y6, if_true, aLt_eq, r12, r13, y7, show c3 0 0 v true = v from rfl, show c3 0 1 v true = 0 from rfl, show c3 0 2 v true = 0 from rfl, nI_0, i_add0, i_sub0, nI_1]
    · obtain ⟨y1, y2, y3, y4, y5, y6, y7, y8⟩ := z1
      rw [if_pos y1, if_neg y2, if_pos y3, aLt_eq, hb]
      cases b with
      | false => simp only [show bI false = 0 from rfl, if_true, aLt_eq, r12, r13, f0, nI_0, i_add0, i_sub0, nI_1]
      | true => simp only [show ¬ bI true = 0 by decide, if_false, y4, y5, y6, y7, if_true, aLt_eq, r12, r13, y8, show c3 1 0 v true = 0 from rfl, show c3 1 1 v true = v from rfl, show c3 1 2 v true = 0 from rfl, nI_0, i_add0, i_sub0, nI_1]
    · obtain ⟨y1, y2, y3, y4, y5, y6, y7, y8⟩ := z2
      rw [if_pos y1, if_neg y2, if_pos y3, aLt_eq, hb]
      cases b with
      | false => simp only [show bI false = 0 from rfl, if_true, aLt_eq, r12, r13, f0, nI_0, i_add0, i_sub0, nI_1]
      | true => simp only [show ¬ bI true = 0 by decide, if_false, y4, y5, y6, y7, if_true, aLt_eq, r12, r13, y8, show c3 2 0 v true = 0 from rfl, show c3 2 1 v true = 0 from rfl, show c3 2 2 v true = v from rfl, nI_0, i_add0, i_sub0, nI_1]
  · rw [aUi_ne (by omega), aUi_ne (by omega), aUi_at]
  · rw [aUi_ne (by omega), aUi_at]
  · rw [aUi_at]
theorem clM_eq (c : Nat × Nat × List Nat) : clM c = c.2.2.map sgM ++ [clZ c.1 c.2.1] := rfl
theorem clip_I {b : Nat} (hb : b < 2 ^ 30) : (if 0 ≤ nI 40 - nI b then nI 40 - nI b else 0) = nI (40 - b) := by
  by_cases h : b ≤ 40
  · rw [pk_sub h, if_pos (nI_pos' (by omega))]
  · rw [if_neg (Int32.not_le.mpr (pk_sneg hb (by omega))), show 40 - b = 0 by omega]
    rfl
theorem i_ss (b c : Nat) : nI 40 - nI b - nI c = nI 40 - nI (b + c) := by
  rw [← nI_add]
  grind
theorem q_lkC {i way many frm : Nat} {T : Nat → Nat} (hi : i < 6) (hB : TB T) (hw : way < 8) (hm : frm + many ≤ 979) : ∀ (l : List (Nat × Nat × List Nat)) (pos n a b c : Nat) (M : aSt), (∀ x ∈ l, clOk x) → (∀ j (hj : j < (l.flatMap clM).length), M.1 1 (pos + j) = (l.flatMap clM)[j]) → pos + (l.flatMap clM).length = frm + many → BY i T way M → M.1 0 11 = nI a → M.1 0 12 = nI 40 - nI b → M.1 0 13 = nI c → b + 99 * l.length < 2 ^ 30 → ∃ M', LG M M' ∧ f_X7_looks_125 (n + (l.flatMap clM).length + 1) (nI many) (nI frm) (nI 0) (nI pos) M = some ((), M') ∧ M'.1 0 11 = nI (a + totL i T way 0 l) ∧ M'.1 0 12 = nI (40 - (b + totL i T way 1 l)) ∧ M'.1 0 13 = nI (c + totL i T way 2 l)
  | [], pos, n, a, b, c, M, hO, hx, hp, hBY, m1, m2, m3, hb => by
    have hp : pos = frm + many := hp
    refine ⟨aUi M 0 12 (nI (40 - b)), ⟨fun k h1 h2 => aUi_row h1, fun j h1 h2 h3 => aUi_ne h2, rfl⟩, ?_, by rw [aUi_ne (by omega)]; exact m1, aUi_at, by rw [aUi_ne (by omega)]; exact m3⟩
    show f_X7_looks_125 (n + 1) _ _ _ _ _ = _
    rw [f_X7_looks_125, nI_add, hp, if_pos (Int32.le_refl _)]
    unfold f_X7_looks_499
    rw [m2]
    have := clip_I (b := b) (by have hb : b + 0 < 2 ^ 30 := hb; omega)
    by_cases h : 0 ≤ nI 40 - nI b
    · rw [if_pos h] at this ⊢
      rw [this, aLt_eq]
    · rw [if_neg h] at this ⊢
      rw [this, aLt_eq]
  | x :: r, pos, n, a, b, c, M, hO, hx, hp, hBY, m1, m2, m3, hb => by
    have hb : b + 99 * (r.length + 1) < 2 ^ 30 := hb
    have ho := hO x List.mem_cons_self
    have hf : ((x :: r).flatMap clM) = x.2.2.map sgM ++ (clZ x.1 x.2.1 :: r.flatMap clM) := by
      rw [List.flatMap_cons, clM_eq, List.append_assoc]; rfl
    have hlen : ((x :: r).flatMap clM).length = x.2.2.length + (1 + (r.flatMap clM).length) := by
      rw [hf, List.length_append, List.length_map, List.length_cons]; omega
    rw [hlen] at hp ⊢
    obtain ⟨M1, l1, l2, l3⟩ := q_lk hi hB hw hm x.2.2 [] pos (n + (r.flatMap clM).length + 1 + 1) 1 M ho.2.2 (by simp) trivial (fun j hj => by
      rw [hx j (by rw [hlen]; omega)]
      simp only [hf]
      rw [List.getElem_append_left (by rw [List.length_map]; exact hj), List.getElem_map]) (by omega) hBY
    have l4 : (ev (ts i T way) x.2.2 []).length = 1 := sgH_len x.2.2 [] ho.2.2
    have l5 : M1.1 4 0 = bI (met i T way x.2.2) := by
      unfold met
      match h : ev (ts i T way) x.2.2 [], l4, l2 with
      | [z], _, l2 => exact l2.1
    obtain ⟨M2, k1, k2, k3, k4, k5⟩ := q_lkE (n := n + (r.flatMap clM).length + 1) (pos := pos + x.2.2.length) (k := x.1) (v := x.2.1) (b := met i T way x.2.2) (M := M1) hm ho.1 ho.2.1 (by
      rw [l1.1 1 (by omega), hx x.2.2.length (by rw [hlen]; omega)]
      simp only [hf]
      rw [List.getElem_append_right (by rw [List.length_map]; omega)]
      simp) (by omega) l5 (nI 1)
    have hc1 : c3 x.1 1 x.2.1 (met i T way x.2.2) ≤ 99 := by
      have := ho.2.1
      unfold c3
      split <;> omega
    obtain ⟨M3, j1, j2, j3, j4, j5⟩ := q_lkC hi hB hw hm r (pos + x.2.2.length + 1) n (a + c3 x.1 0 x.2.1 (met i T way x.2.2)) (b + c3 x.1 1 x.2.1 (met i T way x.2.2)) (c + c3 x.1 2 x.2.1 (met i T way x.2.2)) M2 (fun d hd => hO d (List.mem_cons_of_mem _ hd)) (fun j hj => by
      rw [k1.1 1 (by omega) (by omega), l1.1 1 (by omega), show pos + x.2.2.length + 1 + j = pos + (x.2.2.length + 1 + j) by omega, hx (x.2.2.length + 1 + j) (by rw [hlen]; omega)]
      simp only [hf]
      rw [List.getElem_append_right (by rw [List.length_map]; omega)]
      simp only [List.length_map, show x.2.2.length + 1 + j - x.2.2.length = j + 1 by omega]
      rfl) (by omega) (fun l hl => by rw [k1.1 3 (by omega) (by omega), l1.1 3 (by omega)]; exact hBY l hl) (by rw [k3, l1.1 0 (by omega), m1, nI_add]) (by rw [k4, l1.1 0 (by omega), m2, i_ss]) (by rw [k5, l1.1 0 (by omega), m3, nI_add]) (by omega)
    refine ⟨M3, (l1.lg.tr k1).tr j1, ?_, ?_, ?_, ?_⟩
    · rw [show n + (x.2.2.length + (1 + (r.flatMap clM).length)) + 1 = n + (r.flatMap clM).length + 1 + 1 + x.2.2.length by omega]
      exact l3.trans (k2.trans j2)
    · rw [j3, Nat.add_assoc]; rfl
    · rw [j4, Nat.add_assoc]; rfl
    · rw [j5, Nat.add_assoc]; rfl
/-- a tree's numbers in the reference -/
def TM (i : Nat) (T : Nat → Nat) (s : Nat → Int32) : Prop := (∀ j, j < 8 → s (110 + 6 * j + i) = nI (T j)) ∧ ∀ k, k < 6 → s (158 + 6 * i + k) = nI (T (8 + k))
theorem clM_len : ∀ l : List (Nat × Nat × List Nat), (l.flatMap clM).length = (l.map (fun c => c.2.2.length)).sum + l.length
  | [] => rfl
  | c :: r => by
    rw [List.flatMap_cons, List.length_append, clM_len r, List.map_cons, List.sum_cons, clM_eq, List.length_append, List.length_map, List.length_cons, List.length_cons, List.length_nil]
    omega
/-- what looks may change -/
def LH (M M' : aSt) : Prop := (∀ k, k ≠ 0 → k ≠ 3 → k ≠ 4 → M'.1 k = M.1 k) ∧ (∀ j, j ≠ 11 → j ≠ 12 → j ≠ 13 → M'.1 0 j = M.1 0 j) ∧ M'.2 = M.2
theorem q_looks {i way nW : Nat} {T : Nat → Nat} {M : aSt} {W : PW} (hi : i < 6) (hB : TB T) (hw : way < 8) (hT : TM i T (M.1 1)) (hnW : nW ≤ 5) (hW : RMW nW W (M.1 1)) (hO : wdOk W) : ∃ M', LH M M' ∧ f_X7_looks (nI i) (nI way) M = some ((), M') ∧ M'.1 0 11 = nI (1 + totL i T way 0 W.2.2) ∧ M'.1 0 12 = nI (40 - totL i T way 1 W.2.2) ∧ M'.1 0 13 = nI (totL i T way 2 W.2.2) := by
  have t0 : M.1 1 (110 + i) = nI (T 0) := hT.1 0 (by omega)
  have t3 : M.1 1 (128 + i) = nI (T 3) := hT.1 3 (by omega)
  have t4 : M.1 1 (134 + i) = nI (T 4) := hT.1 4 (by omega)
  have t6 : M.1 1 (146 + i) = nI (T 6) := hT.1 6 (by omega)
  unfold f_X7_looks
  simp (disch := omega) only [li_0, li_1, li_2, li_3, li_4, li_5, li_6, li_7, li_8, li_9, li_10, li_20, li_32, li_36, li_40, li_48, li_57, li_63, li_64, li_80, li_100, li_110, li_116, li_122, li_127, li_128, li_134, li_140, li_146, li_152, li_158, li_194, li_200, li_205, li_210, li_274, li_279, li_512, li_800, li_979, li_1000, nI_add, pk_mul, nI_clamp, chkN, leq_I, lt_I, eq_I, neq1_I, neq5_I, lt0_I, le0_I, Nat.not_lt_zero, oNl, ↓aLt_eq, ↓aB_some, ↓aO_some, ↓aO_none, ↓reduceIte, Nat.reduceAdd, Nat.reduceMul, Nat.reduceEqDiff, Nat.reduceLT, Nat.reduceLeDiff, reduceCtorEq, not_true_eq_false, not_false_eq_true, and_true, true_and, and_false, false_and, or_false, false_or, or_true, true_or, aUi_row, oNe, t0, t3, t4, t6]
  generalize hM9 : aUi (aUi (aUi (aUi (aUi (aUi (aUi (aUi (aUi M 3 0 (nI i)) 3 1 (nI (T 0))) 3 2 (nI (T 3))) 3 3 (nI (T 4))) 3 4 (nI (T 6))) 3 5 (nI way)) 0 11 (nI 1)) 0 12 (nI 40)) 0 13 (nI 0) = M9
  have f1 : ∀ k, k ≠ 0 → k ≠ 3 → M9.1 k = M.1 k := fun k h1 h2 => by
    subst hM9
    simp only [aUi_row h1, aUi_row h2]
  have f2 : ∀ j, j ≠ 11 → j ≠ 12 → j ≠ 13 → M9.1 0 j = M.1 0 j := fun j h1 h2 h3 => by
    subst hM9
    rw [aUi_ne h3, aUi_ne h2, aUi_ne h1]
    simp only [aUi_row (show 0 ≠ 3 by omega)]
  have f3 : M9.2 = M.2 := by subst hM9; rfl
  have f4 : BY i T way M9 := fun l hl => by
    subst hM9
    simp only [aUi_row (show 3 ≠ 0 by omega)]
    rcases (show l = 0 ∨ l = 1 ∨ l = 2 ∨ l = 3 ∨ l = 4 ∨ l = 5 by omega) with rfl | rfl | rfl | rfl | rfl | rfl <;> simp [aUi_rd, vl]
  have f5 : M9.1 0 11 = nI 1 := by subst hM9; simp [aUi_rd]
  have f6 : M9.1 0 12 = nI 40 - nI 0 := by subst hM9; simp [aUi_rd]; rfl
  have f7 : M9.1 0 13 = nI 0 := by subst hM9; simp [aUi_rd]
  obtain ⟨o1, o2, o3, o4, o5⟩ := hO
  have hlen := clM_len W.2.2
  have fin : ∀ frm, frm + (W.2.2.flatMap clM).length ≤ 979 → (∀ j (hj : j < (W.2.2.flatMap clM).length), M.1 1 (frm + j) = (W.2.2.flatMap clM)[j]) → ∃ M', LH M M' ∧ f_X7_looks_125 aF (nI (W.2.2.flatMap clM).length) (nI frm) (nI 0) (nI frm) M9 = some ((), M') ∧ M'.1 0 11 = nI (1 + totL i T way 0 W.2.2) ∧ M'.1 0 12 = nI (40 - totL i T way 1 W.2.2) ∧ M'.1 0 13 = nI (totL i T way 2 W.2.2) := fun frm h1 h2 => by
    obtain ⟨n, hn⟩ : ∃ n, aF = n + (W.2.2.flatMap clM).length + 1 := ⟨aF - (W.2.2.flatMap clM).length - 1, by have := aF_big; omega⟩
    obtain ⟨M', g1, g2, g3, g4, g5⟩ := q_lkC hi hB hw h1 W.2.2 frm n 1 0 0 M9 o5 (fun j hj => by rw [f1 1 (by omega) (by omega)]; exact h2 j hj) rfl f4 f5 f6 f7 (by omega)
    rw [Nat.zero_add] at g4 g5
    exact ⟨M', ⟨fun k k1 k2 k3 => (g1.1 k k1 k3).trans (f1 k k1 k2), fun j j1 j2 j3 => (g1.2.1 j j1 j2 j3).trans (f2 j j1 j2 j3), g1.2.2.trans f3⟩, by rw [hn]; exact g2, g3, g4, g5⟩
  rcases hW with ⟨h1, h2⟩ | ⟨h, hh, h1, h2, h3, h4, h5⟩
  · unfold f_X7_tellsOf
    rw [f1 1 (by omega) (by omega), h1, if_pos rfl, aB_some, f1 1 (by omega) (by omega), h1, show nI 279 + nI 140 * (-1) = nI 139 by decide]
    have := fin 139 (by rw [h2]; decide) (fun j hj => by rw [h2] at hj; exact absurd hj (Nat.not_lt_zero j))
    rw [h2] at this ⊢
    exact this
  · unfold f_X7_tellsOf
    rw [f1 1 (by omega) (by omega), h1, if_neg (show ¬ nI h = -1 from neg_ne (by omega) (by decide)), nI_add, if_neg (q_chk (by omega) (by omega)), nI_clamp (by omega), h4, aB_some, f1 1 (by omega) (by omega), h1, pk_mul, nI_add]
    exact fin (279 + 140 * h) (by omega) h5

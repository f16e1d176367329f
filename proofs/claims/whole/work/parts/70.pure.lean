/-! PURE PART: the reference's looks -/
def SR : List Bool → (Nat → Int32) → Prop
  | [], _ => True
  | a :: s, f => f s.length = bI a ∧ SR s f
theorem SR_upd {f : Nat → Int32} {v : Int32} {k : Nat} : ∀ {s : List Bool}, s.length ≤ k → SR s f → SR s (upd f k v)
  | [], _, _ => trivial
  | a :: s, h, hs => by
    have h : s.length + 1 ≤ k := h
    exact ⟨by rw [pk_un (by omega)]; exact hs.1, SR_upd (by omega) hs.2⟩
theorem nar_z (a : Bool) : vp_nar .boolean (bI a) = bI a := by cases a <;> rfl
theorem nar_z0 : vp_nar .boolean 0 = 0 := rfl
theorem nar_z1 : vp_nar .boolean 1 = 1 := rfl
/-- the six numbers a TEST looks at -/
def BY (i : Nat) (T : Nat → Nat) (way : Nat) (M : aSt) : Prop := ∀ l, l < 6 → M.1 3 l = nI (vl i T way l)
def LF (M M' : aSt) : Prop := (∀ k, k ≠ 4 → M'.1 k = M.1 k) ∧ M'.2 = M.2
theorem LF_upd (M : aSt) (k : Nat) (v : Int32) : LF M (aUi M 4 k v) := ⟨fun q hq => aUi_row hq, rfl⟩
theorem LF.tr {A B C : aSt} (h : LF A B) (g : LF B C) : LF A C := ⟨fun k hk => (g.1 k hk).trans (h.1 k hk), g.2.trans h.2⟩
theorem q_lk1 {i way many frm : Nat} {T : Nat → Nat} (hi : i < 6) (hB : TB T) (hw : way < 8) (hm : frm + many ≤ 979) (x : Nat) (st : List Bool) (pos n h' h : Nat) (r : List Nat) (M : aSt) (e : sgH (x :: r) st.length = some h) (hs : st.length ≤ 16) (hSR : SR st (M.1 4)) (hx : M.1 1 pos = sgM x) (hp : pos < frm + many) (hBY : BY i T way M) : ∃ M', LF M M' ∧ (ev1 (ts i T way) x st).length ≤ 16 ∧ SR (ev1 (ts i T way) x st) (M'.1 4) ∧ sgH r (ev1 (ts i T way) x st).length = some h ∧ f_X7_looks_125 (n + 1) (nI many) (nI frm) (nI st.length) (nI pos) M = f_X7_looks_125 n (nI many) (nI frm) (nI (ev1 (ts i T way) x st).length) (nI (pos + 1)) M' := by
  rw [f_X7_looks_125, nI_add, if_neg (nI_ge hp (by omega)), if_neg (q_chk (by omega) (by omega)), aLt_eq, nI_clamp (by omega), hx]
  unfold f_X7_looks_273 f_X7_looks_328 f_X7_looks_354 f_X7_looks_359 f_X7_looks_235 f_X7_looks_477
  unfold sgH at e
  by_cases h0 : x = 0
  · subst h0
    rw [if_pos rfl] at e
    match st, e, hs, hSR with
    | [], e, _, _ => simp at e
    | a :: s, e, hs, hSR =>
      have hs : s.length + 1 ≤ 16 := hs
      rw [if_neg (by simp)] at e
      rw [show sgM 0 = -1 from rfl, if_pos (by decide), if_pos rfl, show nI (a :: s).length - 1 = nI s.length from nI_pred s.length, if_neg (q_chk (by omega) (by omega)), nI_clamp (by omega), hSR.1]
      refine ⟨aUi M 4 s.length (bI (!a)), LF_upd _ _ _, hs, ?_, e, ?_⟩
      · rw [aUi_k]
        exact ⟨pk_us, SR_upd (Nat.le_refl _) hSR.2⟩
      · cases a
        · rw [if_pos (show bI false = 0 from rfl), if_neg (q_chk2 (by omega) (by omega)), aLt_eq, aLt_eq, nI_1]
          rfl
        · rw [if_neg (show ¬ bI true = 0 by decide), if_neg (q_chk2 (by omega) (by omega)), aLt_eq, aLt_eq, nI_1]
          rfl
  · rw [if_neg h0] at e
    by_cases h1 : x = 1 ∨ x = 2
    · rw [if_pos h1] at e
      match st, e, hs, hSR with
      | [], e, _, _ => simp at e
      | [a], e, _, _ => simp at e
      | a :: b :: s, e, hs, hSR =>
        have hs : s.length + 1 + 1 ≤ 16 := hs
        rw [if_neg (by simp)] at e
        have e : sgH r (s.length + 1) = some h := by simpa using e
        have ea : M.1 4 (s.length + 1) = bI a := hSR.1
        have eb : M.1 4 s.length = bI b := hSR.2.1
        have i1 : nI (a :: b :: s).length + (-1) = nI (s.length + 1) := pk_m1 (s.length + 1)
        have i2 : nI (s.length + 1) - 1 = nI s.length := nI_pred s.length
        have fin : ∀ z : Bool, SR (z :: s) ((aUi M 4 s.length (bI z)).1 4) := fun z => by
          rw [aUi_k]
          exact ⟨pk_us, SR_upd (Nat.le_refl _) hSR.2.2⟩
        rcases h1 with rfl | rfl
        · rw [show sgM 1 = -2 from rfl, if_pos (by decide), if_neg (by decide), if_neg (by decide), aLt_eq, if_pos rfl, i1, i2, if_neg (q_chk (by omega) (by omega)), nI_clamp (by omega), eb]
          refine ⟨aUi M 4 s.length (bI (b && a)), LF_upd _ _ _, by show s.length + 1 ≤ 16; omega, fin _, e, ?_⟩
          cases b
          · rw [if_pos (show bI false = 0 from rfl), if_neg (q_chk2 (by omega) (by omega)), aLt_eq, aLt_eq, nI_1]
            rfl
          · rw [if_neg (show ¬ bI true = 0 by decide), if_neg (q_chk (by omega) (by omega)), nI_clamp (by omega), ea]
            cases a
            · rw [if_pos (show bI false = 0 from rfl), if_neg (q_chk2 (by omega) (by omega)), aLt_eq, aLt_eq, nI_1]
              rfl
            · rw [if_neg (show ¬ bI true = 0 by decide), if_neg (q_chk2 (by omega) (by omega)), aLt_eq, aLt_eq, nI_1]
              rfl
        · rw [show sgM 2 = -3 from rfl, if_pos (by decide), if_neg (by decide), if_neg (by decide), aLt_eq, if_neg (by decide), i1, i2, if_neg (q_chk (by omega) (by omega)), nI_clamp (by omega), eb]
          refine ⟨aUi M 4 s.length (bI (b || a)), LF_upd _ _ _, by show s.length + 1 ≤ 16; omega, fin _, e, ?_⟩
          cases b
          · rw [if_pos (show bI false = 0 from rfl), if_neg (q_chk (by omega) (by omega)), nI_clamp (by omega), ea]
            cases a
            · rw [if_pos (show bI false = 0 from rfl), if_neg (q_chk2 (by omega) (by omega)), aLt_eq, aLt_eq, nI_1]
              rfl
            · rw [if_neg (show ¬ bI true = 0 by decide), if_neg (q_chk2 (by omega) (by omega)), aLt_eq, aLt_eq, nI_1]
              rfl
          · rw [if_neg (show ¬ bI true = 0 by decide), if_neg (q_chk2 (by omega) (by omega)), aLt_eq, aLt_eq, nI_1]
            rfl
    · rw [if_neg h1] at e
      by_cases h2 : 16 ≤ st.length ∨ 18 * 100 + 3 ≤ x
      · rw [if_pos h2] at e; simp at e
      · rw [if_neg h2] at e
        have h3 : ¬ x = 1 := fun e => h1 (Or.inl e)
        have h4 : ¬ x = 2 := fun e => h1 (Or.inr e)
        have g : sgM x = nI ((x - 3) % 6 + 8 * ((x - 3) / 6 % 3) + 32 * ((x - 3) / 18)) := by
          unfold sgM
          rw [if_neg h0, if_neg h3, if_neg h4]
        have b1 : (x - 3) % 6 < 6 := Nat.mod_lt _ (by omega)
        have b2 : (x - 3) / 6 % 3 < 3 := Nat.mod_lt _ (by omega)
        have b3 : (x - 3) / 18 < 100 := by omega
        have k3 : ev1 (ts i T way) x st = ts i T way x :: st := by
          unfold ev1
          rw [if_neg h0, if_neg h3, if_neg h4]
        have k4 : ts i T way x = (if (x - 3) / 6 % 3 = 0 then decide (vl i T way ((x - 3) % 6) < (x - 3) / 18) else if (x - 3) / 6 % 3 = 1 then decide (vl i T way ((x - 3) % 6) = (x - 3) / 18) else decide ((x - 3) / 18 < vl i T way ((x - 3) % 6))) := rfl
        rw [g, k3, k4]
        clear k3 k4 g
        generalize (x - 3) % 6 = a at *
        generalize (x - 3) / 6 % 3 = b at *
        generalize (x - 3) / 18 = c at *
        have e1 : nI (a + 8 * b + 32 * c) - nI (a + 8 * b + 32 * c) / nI 8 * nI 8 = nI a := by
          rw [pk_rem (by omega) (by omega) (by omega)]
          congr 1
          omega
        have e2 : nI (a + 8 * b + 32 * c) / nI 8 = nI (b + 4 * c) := by
          rw [pk_div (by omega) (by omega) (by omega)]
          congr 1
          omega
        have e3 : nI (b + 4 * c) - nI (b + 4 * c) / nI 4 * nI 4 = nI b := by
          rw [pk_rem (by omega) (by omega) (by omega)]
          congr 1
          omega
        have e4 : nI (a + 8 * b + 32 * c) / nI 32 = nI c := by
          rw [pk_div (by omega) (by omega) (by omega)]
          congr 1
          omega
        have hv := vl_lt (i := i) hi hw hB a
        rw [if_neg (nI_pos (by omega)), show (8 : Int32) = nI 8 from rfl, show (4 : Int32) = nI 4 from rfl, show (32 : Int32) = nI 32 from rfl, e1, e2, e3, e4, if_neg (q_chk (by omega) (by omega)), nI_clamp (by omega), hBY a b1, aLt_eq, aLt_eq, aLt_eq]
        have st64 : ¬ (nI st.length < 0 ∨ 64 ≤ (nI st.length).toNatClampNeg) := q_chk (by omega) (by omega)
        refine ⟨aUi M 4 st.length (bI (if b = 0 then decide (vl i T way a < c) else if b = 1 then decide (vl i T way a = c) else decide (c < vl i T way a))), LF_upd _ _ _, by show st.length + 1 ≤ 16; omega, ?_, e, ?_⟩
        · rw [aUi_k]
          exact ⟨pk_us, SR_upd (Nat.le_refl _) hSR⟩
        · have fz : ∀ z : Bool, (if nI st.length < 0 ∨ 64 ≤ (nI st.length).toNatClampNeg then none else aLt (aUi M 4 (nI st.length).toNatClampNeg (vp_nar .boolean (bI z))) (fun S22 => aLt (nI st.length + 1) (fun x23 => aLt (nI pos + 1) (fun x25 => f_X7_looks_125 n (nI many) (nI frm) x23 x25 S22)))) = f_X7_looks_125 n (nI many) (nI frm) (nI (st.length + 1)) (nI (pos + 1)) (aUi M 4 st.length (bI z)) := fun z => by
            rw [if_neg st64, aLt_eq, aLt_eq, aLt_eq, nI_clamp (by omega), nar_z, nI_1, nI_1]
          rcases (show b = 0 ∨ b = 1 ∨ b = 2 by omega) with rfl | rfl | rfl
          · rw [if_pos (show nI 0 = 0 from rfl), if_pos rfl]
            by_cases hc : vl i T way a < c
            · rw [if_neg (nI_ge hc (by omega)), decide_eq_true hc]
              exact fz true
            · rw [if_pos (nI_le (by omega) (by omega)), decide_eq_false hc]
              exact fz false
          · rw [if_neg (show ¬ nI 1 = 0 by decide), if_pos (show nI 1 = 1 from rfl), if_neg (show ¬ 1 = 0 by omega), if_pos rfl]
            by_cases hc : vl i T way a = c
            · rw [if_pos (congrArg nI hc), decide_eq_true hc]
              exact fz true
            · rw [if_neg (fun e => hc ((nI_eq (by omega) (by omega)).mp e)), decide_eq_false hc]
              exact fz false
          · rw [if_neg (show ¬ nI 2 = 0 by decide), if_neg (show ¬ nI 2 = 1 by decide), if_neg (show ¬ 2 = 0 by omega), if_neg (show ¬ 2 = 1 by omega)]
            by_cases hc : c < vl i T way a
            · rw [if_neg (nI_ge hc (by omega)), decide_eq_true hc]
              exact fz true
            · rw [if_pos (nI_le (by omega) (by omega)), decide_eq_false hc]
              exact fz false
theorem q_lk {i way many frm : Nat} {T : Nat → Nat} (hi : i < 6) (hB : TB T) (hw : way < 8) (hm : frm + many ≤ 979) : ∀ (l : List Nat) (st : List Bool) (pos n h : Nat) (M : aSt), sgH l st.length = some h → st.length ≤ 16 → SR st (M.1 4) → (∀ j (hj : j < l.length), M.1 1 (pos + j) = sgM l[j]) → pos + l.length ≤ frm + many → BY i T way M → ∃ M', LF M M' ∧ SR (ev (ts i T way) l st) (M'.1 4) ∧ f_X7_looks_125 (n + l.length) (nI many) (nI frm) (nI st.length) (nI pos) M = f_X7_looks_125 n (nI many) (nI frm) (nI h) (nI (pos + l.length)) M'
  | [], st, pos, n, h, M, e, hs, hSR, hx, hp, hBY => by
    simp only [sgH, Option.some.injEq] at e
    subst e
    exact ⟨M, ⟨fun _ _ => rfl, rfl⟩, hSR, rfl⟩
  | x :: r, st, pos, n, h, M, e, hs, hSR, hx, hp, hBY => by
    have hp : pos + (r.length + 1) ≤ frm + many := hp
    obtain ⟨M1, l1, l2, l3, l4, l5⟩ := q_lk1 hi hB hw hm x st pos (n + r.length) 0 h r M e hs hSR (hx 0 (by show 0 < r.length + 1; omega)) (by omega) hBY
    obtain ⟨M2, k1, k2, k3⟩ := q_lk hi hB hw hm r (ev1 (ts i T way) x st) (pos + 1) n h M1 l4 l2 l3 (fun j hj => by
      have := hx (j + 1) (by show j + 1 < r.length + 1; omega)
      rw [l1.1 1 (by omega), show pos + 1 + j = pos + (j + 1) by omega, this]
      rfl) (by omega) (fun l hl => by rw [l1.1 3 (by omega)]; exact hBY l hl)
    refine ⟨M2, l1.tr k1, k2, ?_⟩
    show f_X7_looks_125 (n + r.length + 1) _ _ _ _ _ = f_X7_looks_125 n _ _ _ (nI (pos + (r.length + 1))) _
    rw [l5, k3, show pos + 1 + r.length = pos + (r.length + 1) by omega]

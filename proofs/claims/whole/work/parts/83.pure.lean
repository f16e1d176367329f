/-! PURE PART: act -/
def AR (n c i k v : Nat) (X M : aSt) : Prop := X.1 30 1 = nI n ∧ M.1 0 27 = nI n ∧ (∀ j, j < n → j < 20 → X.1 31 j = M.1 8 j) ∧ X.1 c 0 = nI i ∧ X.1 c 1 = nI k ∧ X.1 c 2 = nI v ∧ M.1 0 28 = nI k ∧ M.1 0 29 = nI i ∧ M.1 0 30 = nI v
def BX (X X' : aSt) : Prop := (∀ k, k ≠ 30 → k ≠ 31 → X'.1 k = X.1 k) ∧ X'.2 = X.2
def BM (M M' : aSt) : Prop := (∀ k, k ≠ 0 → k ≠ 8 → M'.1 k = M.1 k) ∧ (∀ j, j < 27 → M'.1 0 j = M.1 0 j) ∧ M'.2 = M.2
theorem BX.tr {A B C : aSt} (h : BX A B) (g : BX B C) : BX A C := ⟨fun k h1 h2 => (g.1 k h1 h2).trans (h.1 k h1 h2), g.2.trans h.2⟩
theorem BM.tr {A B C : aSt} (h : BM A B) (g : BM B C) : BM A C := ⟨fun k h1 h2 => (g.1 k h1 h2).trans (h.1 k h1 h2), fun j hj => (g.2.1 j hj).trans (h.2.1 j hj), g.2.2.trans h.2.2⟩
theorem BX.up (A : aSt) {k : Nat} (j : Nat) (v : Int32) (h : k = 30 ∨ k = 31) : BX A (aUi A k j v) := ⟨fun q h1 h2 => aUi_row (by omega), rfl⟩
theorem BM.up (A : aSt) {j : Nat} (v : Int32) (h : 27 ≤ j) : BM A (aUi A 0 j v) := ⟨fun q h1 _ => aUi_row h1, fun q hq => aUi_ne (by omega), rfl⟩
theorem BM.up8 (A : aSt) (j : Nat) (v : Int32) : BM A (aUi A 8 j v) := ⟨fun q _ h1 => aUi_row h1, fun q hq => by rw [aUi_row (by omega)], rfl⟩
theorem q_beg {n c i k v : Nat} (b : Int32) {X M : aSt} (hc : c < 22) (hn : n < 500) (h : AR n c i k v X M) : ∃ X' M', f_X0_begin b X = some ((), X') ∧ f_X7_runs b M = some ((), M') ∧ AR (n + 1) c i k v X' M' ∧ BX X X' ∧ BM M M' := by
  obtain ⟨h1, h2, h3, h4, h5, h6, h7, h8, h9⟩ := h
  unfold f_X0_begin f_X7_runs f_X0_begin_19 f_X7_runs_19
  rw [h1, h2]
  by_cases c20 : 20 ≤ n
  · rw [if_pos (show (20 : Int32) ≤ nI n from nI_le (a := 20) c20 (by omega)), if_pos (show (20 : Int32) ≤ nI n from nI_le (a := 20) c20 (by omega)), aLt_eq, aLt_eq, nI_1]
    refine ⟨_, _, rfl, rfl, ⟨aUi_at, aUi_at, fun j a b => ?_, ?_, ?_, ?_, ?_, ?_, ?_⟩, BX.up X 1 _ (Or.inl rfl), BM.up M _ (by omega)⟩
    · rw [aUi_row (by omega), aUi_row (by omega)]; exact h3 j (by omega) b
    · rw [aUi_row (by omega)]; exact h4
    · rw [aUi_row (by omega)]; exact h5
    · rw [aUi_row (by omega)]; exact h6
    · rw [aUi_ne (by omega)]; exact h7
    · rw [aUi_ne (by omega)]; exact h8
    · rw [aUi_ne (by omega)]; exact h9
  · rw [if_neg (show ¬ (20 : Int32) ≤ nI n from nI_ge (b := 20) (by omega) (by omega)), if_neg (show ¬ (20 : Int32) ≤ nI n from nI_ge (b := 20) (by omega) (by omega)), if_neg (q_chk (by omega) (by omega)), if_neg (q_chk (by omega) (by omega)), aLt_eq, aLt_eq, aLt_eq, aLt_eq, nI_clamp (by omega), aUi_row (by omega), aUi_row (by omega), h1, h2, nI_1]
    refine ⟨_, _, rfl, rfl, ⟨aUi_at, aUi_at, fun j a b => ?_, ?_, ?_, ?_, ?_, ?_, ?_⟩, (BX.up X n _ (Or.inr rfl)).tr (BX.up _ 1 _ (Or.inl rfl)), (BM.up8 M n _).tr (BM.up _ _ (by omega))⟩
    · rw [aUi_row (show 31 ≠ 30 by omega), aUi_row (show 8 ≠ 0 by omega)]
      by_cases e : j = n
      · rw [e, aUi_at, aUi_at]
      · rw [aUi_ne e, aUi_ne e]; exact h3 j (by omega) b
    · rw [aUi_row (by omega), aUi_row (by omega)]; exact h4
    · rw [aUi_row (by omega), aUi_row (by omega)]; exact h5
    · rw [aUi_row (by omega), aUi_row (by omega)]; exact h6
    · rw [aUi_ne (by omega), aUi_row (by omega)]; exact h7
    · rw [aUi_ne (by omega), aUi_row (by omega)]; exact h8
    · rw [aUi_ne (by omega), aUi_row (by omega)]; exact h9
/-- both do the same, up to e bodies more -/
def SM (e n c i k v : Nat) (fx fm : aSt → Option (Int32 × aSt)) : Prop := ∀ X M, AR n c i k v X M → ∃ m r X' M', m ≤ n + e ∧ fx X = some (r, X') ∧ fm M = some (r, M') ∧ AR m c i k v X' M' ∧ BX X X' ∧ BM M M'
theorem SM.beg {e n c i k v : Nat} {b : Int32} {fx fm : aSt → Option (Int32 × aSt)} (hc : c < 22) (hn : n < 500) (h : SM e (n + 1) c i k v fx fm) : SM (e + 1) n c i k v (fun S => aB (f_X0_begin b S) (fun _ S1 => fx S1)) (fun S => aB (f_X7_runs b S) (fun _ S1 => fm S1)) := by
  intro X M hA
  obtain ⟨X1, M1, e1, e2, e3, e4, e5⟩ := q_beg b hc hn hA
  obtain ⟨m, r, X2, M2, g1, g2, g3, g4, g5, g6⟩ := h X1 M1 e3
  refine ⟨m, r, X2, M2, by omega, ?_, ?_, g4, e4.tr g5, e5.tr g6⟩
  · show aB (f_X0_begin b X) _ = _
    rw [e1]; exact g2
  · show aB (f_X7_runs b M) _ = _
    rw [e2]; exact g3
theorem SM.ret {e n c i k v : Nat} {gx gm : Int32 → aSt → Int32} {fx fm : aSt → Option (Int32 × aSt)} (h : SM e n c i k v fx fm) (hg : ∀ m r X M, AR m c i k v X M → gx r X = gm r M) : SM e n c i k v (fun S => aB (fx S) (fun r S1 => some (gx r S1, S1))) (fun S => aB (fm S) (fun r S1 => some (gm r S1, S1))) := by
  intro X M hA
  obtain ⟨m, r, X1, M1, g1, g2, g3, g4, g5, g6⟩ := h X M hA
  refine ⟨m, gx r X1, X1, M1, g1, ?_, ?_, g4, g5, g6⟩
  · show aB (fx X) _ = _
    rw [g2]; rfl
  · show aB (fm M) _ = _
    rw [g3, hg m r X1 M1 g4]; rfl
theorem SM.mono {e e' n c i k v : Nat} {fx fm : aSt → Option (Int32 × aSt)} (h : SM e n c i k v fx fm) (he : e ≤ e') : SM e' n c i k v fx fm := by
  intro X M hA
  obtain ⟨m, r, X1, M1, g1, g⟩ := h X M hA
  exact ⟨m, r, X1, M1, by omega, g⟩
theorem SM.cg {e n c i k v : Nat} {fx fm fx' fm' : aSt → Option (Int32 × aSt)} (h : SM e n c i k v fx fm) (h1 : ∀ X M, AR n c i k v X M → fx' X = fx X) (h2 : ∀ X M, AR n c i k v X M → fm' M = fm M) : SM e n c i k v fx' fm' := by
  intro X M hA
  rw [h1 X M hA, h2 X M hA]
  exact h X M hA
theorem q_pl {n c i k v : Nat} (x : Int32) (hc : c < 22) (hn : n < 500) : SM 1 n c i k v (fun S => aB (f_X0_begin 1 S) (fun _ S1 => some (x + S1.1 c 0, S1))) (f_X7_plainLeans x) := by
  refine SM.cg (SM.beg (e := 0) (b := 1) (fx := fun S => some (x + S.1 c 0, S)) (fm := fun S => some (x + S.1 0 29, S)) hc hn ?_) (fun _ _ _ => rfl) (fun _ _ _ => rfl)
  intro X M hA
  exact ⟨n + 1, x + nI i, X, M, Nat.le_refl _, by show some (x + X.1 c 0, X) = _; rw [hA.2.2.2.1], by show some (x + M.1 0 29, M) = _; rw [hA.2.2.2.2.2.2.2.1], hA, ⟨fun _ _ _ => rfl, rfl⟩, ⟨fun _ _ _ => rfl, fun _ _ => rfl, rfl⟩⟩
theorem gl1 (m c : Nat) (x : Int32) (S : aSt) : g_X0_leans (m + 1) 0 c 0 x S = aB (f_X0_begin 1 S) (fun _ S1 => some (x + S1.1 c 0, S1)) := rfl
theorem gl2 (m c : Nat) (x : Int32) (S : aSt) : g_X0_leans (m + 1) 0 c 2 x S = aB (f_X0_begin 1 S) (fun _ S1 => some (x + S1.1 c 0, S1)) := rfl
theorem q_leans {n c i k v : Nat} (x : Int32) (hc : c < 22) (hk : k < 7) (hn : n < 400) : SM 2 n c i k v (f_X0_leans_k c (nI k) x) (f_X7_leansActs x) := by
  have pl := fun y : Int32 => q_pl (n := n) (i := i) (k := k) (v := v) y hc (by omega)
  have p1 := fun y : Int32 => q_pl (n := n + 1) (i := i) (k := k) (v := v) y hc (by omega)
  have m28 : ∀ X M, AR n c i k v X M → ∀ u : Nat, u < 7 → f_X7_isUnder (M.1 0 28) (nI u) M = some (if und k u then 1 else 0, M) := fun X M hA u hu => by rw [hA.2.2.2.2.2.2.1, q_under hk hu]
  have a : SM 2 n c i k v (fun S => aB (f_X0_begin 11 S) (fun _ S1 => aB (aB (f_X0_begin 1 S1) (fun _ S2 => some (x * 3 + S2.1 c 0, S2))) (fun r S2 => some (r, S2)))) (fun S => aB (f_X7_runs 11 S) (fun _ S1 => aB (f_X7_plainLeans (x * 3) S1) (fun r S2 => some (r, S2)))) := SM.beg (e := 1) hc (by omega) (SM.ret (gx := fun r _ => r) (gm := fun r _ => r) (p1 (x * 3)) (fun _ _ _ _ _ => rfl))
  have b : SM 2 n c i k v (fun S => aB (f_X0_begin 51 S) (fun _ S1 => aB (aB (f_X0_begin 1 S1) (fun _ S2 => some (x + S2.1 c 0, S2))) (fun r S2 => some (r ^^^ S2.1 c 0, S2)))) (fun S => aB (f_X7_runs 51 S) (fun _ S1 => aB (f_X7_plainLeans x S1) (fun r S2 => some (r ^^^ S2.1 0 29, S2)))) := SM.beg (e := 1) hc (by omega) (SM.ret (gx := fun r S => r ^^^ S.1 c 0) (gm := fun r S => r ^^^ S.1 0 29) (p1 x) (fun _ _ _ _ hA => by rw [hA.2.2.2.1, hA.2.2.2.2.2.2.2.1]))
  have d : SM 2 n c i k v (fun S => aB (f_X0_begin 1 S) (fun _ S1 => some (x + S1.1 c 0, S1))) (fun S => aB (f_X7_plainLeans x S) (fun r S1 => some (r, S1))) := by
    refine SM.cg (SM.mono (SM.ret (gx := fun r _ => r) (gm := fun r _ => r) (pl x) (fun _ _ _ _ _ => rfl)) (by omega)) (fun X _ _ => ?_) (fun _ _ _ => rfl)
    show _ = aB (aB (f_X0_begin 1 X) _) _
    cases f_X0_begin 1 X <;> rfl
  have r1 : ∀ X M, AR n c i k v X M → f_X7_leansActs x M = if und k 1 then aB (f_X7_runs 11 M) (fun _ S1 => aB (f_X7_plainLeans (x * 3) S1) (fun r S2 => some (r, S2))) else if k = 5 then aB (f_X7_runs 51 M) (fun _ S1 => aB (f_X7_plainLeans x S1) (fun r S2 => some (r ^^^ S2.1 0 29, S2))) else aB (f_X7_plainLeans x M) (fun r S1 => some (r, S1)) := fun X M hA => by
    unfold f_X7_leansActs
    rw [show (1 : Int32) = nI 1 from rfl, m28 X M hA 1 (by omega), aB_some]
    cases und k 1 with
    | true => rfl
    | false =>
      rw [hA.2.2.2.2.2.2.1]
      by_cases h5 : k = 5
      · rw [if_pos h5, h5]; rfl
      · rw [if_neg h5, if_pos (show (if false = true then (1 : Int32) else 0) = 0 from rfl), if_neg (show ¬ nI k = (5 : Int32) from fun e => h5 ((nI_eq (b := 5) (by omega) (by omega)).mp e))]
        rfl
  rcases (show k = 0 ∨ k = 1 ∨ k = 2 ∨ k = 3 ∨ k = 4 ∨ k = 5 ∨ k = 6 by omega) with rfl | rfl | rfl | rfl | rfl | rfl | rfl
  · exact d.cg (fun _ _ _ => rfl) (fun X M hA => r1 X M hA)
  · exact a.cg (fun _ _ _ => rfl) (fun X M hA => r1 X M hA)
  · exact d.cg (fun _ _ _ => rfl) (fun X M hA => r1 X M hA)
  · exact d.cg (fun _ _ _ => rfl) (fun X M hA => r1 X M hA)
  · exact a.cg (fun _ _ _ => rfl) (fun X M hA => r1 X M hA)
  · exact b.cg (fun _ _ _ => rfl) (fun X M hA => r1 X M hA)
  · exact d.cg (fun _ _ _ => rfl) (fun X M hA => r1 X M hA)
theorem q_ph {n c i k v : Nat} (x : Int32) (hc : c < 22) (hk : k < 7) (hn : n < 300) : SM 3 n c i k v (fun S => aB (f_X0_begin 2 S) (fun _ S1 => aB (f_X0_leans_k c (S1.1 c 1) x S1) (fun r S2 => some (r - S2.1 c 2, S2)))) (f_X7_plainHolds x) := by
  refine SM.cg (SM.beg (e := 2) (b := 2) (fx := fun S1 => aB (f_X0_leans_k c (S1.1 c 1) x S1) (fun r S2 => some (r - S2.1 c 2, S2))) (fm := fun S1 => aB (f_X7_leansActs x S1) (fun r S2 => some (r - S2.1 0 30, S2))) hc (by omega) ?_) (fun _ _ _ => rfl) (fun _ _ _ => rfl)
  refine SM.cg (SM.ret (gx := fun r S => r - S.1 c 2) (gm := fun r S => r - S.1 0 30) (q_leans (n := n + 1) (i := i) (k := k) (v := v) x hc hk (by omega)) (fun _ _ _ _ hA => by rw [hA.2.2.2.2.2.1, hA.2.2.2.2.2.2.2.2])) (fun X M hA => ?_) (fun _ _ _ => rfl)
  rw [hA.2.2.2.2.1]
theorem q_holds {n c i k v : Nat} (x : Int32) (hc : c < 22) (hk : k < 7) (hn : n < 200) : SM 4 n c i k v (f_X0_holds_k c (nI k) x) (f_X7_holdsActs x) := by
  have pl := fun y : Int32 => q_ph (n := n) (i := i) (k := k) (v := v) y hc hk (by omega)
  have p1 := fun y : Int32 => q_ph (n := n + 1) (i := i) (k := k) (v := v) y hc hk (by omega)
  have a := SM.beg (e := 3) (b := 21) hc (show n < 500 by omega) (SM.ret (gx := fun r _ => -r) (gm := fun r _ => -r) (p1 x) (fun _ _ _ _ _ => rfl))
  have b := SM.beg (e := 3) (b := 61) hc (show n < 500 by omega) (SM.ret (gx := fun r S => r + S.1 c 2) (gm := fun r S => r + S.1 0 30) (p1 x) (fun _ _ _ _ hA => by rw [hA.2.2.2.2.2.1, hA.2.2.2.2.2.2.2.2]))
  have d : SM 4 n c i k v (fun S => aB (f_X0_begin 2 S) (fun _ S1 => aB (f_X0_leans_k c (S1.1 c 1) x S1) (fun r S2 => some (r - S2.1 c 2, S2)))) (fun S => aB (f_X7_plainHolds x S) (fun r S1 => some (r, S1))) := by
    refine SM.cg (SM.mono (SM.ret (gx := fun r _ => r) (gm := fun r _ => r) (pl x) (fun _ _ _ _ _ => rfl)) (by omega)) (fun X _ _ => ?_) (fun _ _ _ => rfl)
    generalize aB (f_X0_begin 2 X) (fun _ S1 => aB (f_X0_leans_k c (S1.1 c 1) x S1) (fun r S2 => some (r - S2.1 c 2, S2))) = z
    cases z <;> rfl
  have r1 : ∀ X M, AR n c i k v X M → f_X7_holdsActs x M = if und k 2 then aB (f_X7_runs 21 M) (fun _ S1 => aB (f_X7_plainHolds x S1) (fun r S2 => some (-r, S2))) else if k = 6 then aB (f_X7_runs 61 M) (fun _ S1 => aB (f_X7_plainHolds x S1) (fun r S2 => some (r + S2.1 0 30, S2))) else aB (f_X7_plainHolds x M) (fun r S1 => some (r, S1)) := fun X M hA => by
    unfold f_X7_holdsActs
    rw [show f_X7_isUnder (M.1 0 28) 2 M = some (if und k 2 then 1 else 0, M) by rw [hA.2.2.2.2.2.2.1]; exact q_under (k := 2) hk (by omega) M, aB_some]
    cases und k 2 with
    | true => rfl
    | false =>
      rw [hA.2.2.2.2.2.2.1]
      by_cases h5 : k = 6
      · rw [if_pos h5, h5]; rfl
      · rw [if_neg h5, if_pos (show (if false = true then (1 : Int32) else 0) = 0 from rfl), if_neg (show ¬ nI k = (6 : Int32) from fun e => h5 ((nI_eq (b := 6) (by omega) (by omega)).mp e))]
        rfl
  rcases (show k = 0 ∨ k = 1 ∨ k = 2 ∨ k = 3 ∨ k = 4 ∨ k = 5 ∨ k = 6 by omega) with rfl | rfl | rfl | rfl | rfl | rfl | rfl
  · exact d.cg (fun _ _ _ => rfl) (fun X M hA => r1 X M hA)
  · exact d.cg (fun _ _ _ => rfl) (fun X M hA => r1 X M hA)
  · exact a.cg (fun _ _ _ => rfl) (fun X M hA => r1 X M hA)
  · exact d.cg (fun _ _ _ => rfl) (fun X M hA => r1 X M hA)
  · exact d.cg (fun _ _ _ => rfl) (fun X M hA => r1 X M hA)
  · exact a.cg (fun _ _ _ => rfl) (fun X M hA => r1 X M hA)
  · exact b.cg (fun _ _ _ => rfl) (fun X M hA => r1 X M hA)
theorem q_pt {n c i k v : Nat} (x : Int32) (hc : c < 22) (hk : k < 7) (hn : n < 150) : SM 5 n c i k v (fun S => aB (f_X0_begin 3 S) (fun _ S1 => aB (f_X0_holds_k c (S1.1 c 1) x S1) (fun r S2 => some (r * 2, S2)))) (f_X7_plainTells x) := by
  refine SM.cg (SM.beg (e := 4) (b := 3) (fx := fun S1 => aB (f_X0_holds_k c (S1.1 c 1) x S1) (fun r S2 => some (r * 2, S2))) (fm := fun S1 => aB (f_X7_holdsActs x S1) (fun r S2 => some (r * 2, S2))) hc (by omega) ?_) (fun _ _ _ => rfl) (fun _ _ _ => rfl)
  refine SM.cg (SM.ret (gx := fun r _ => r * 2) (gm := fun r _ => r * 2) (q_holds (n := n + 1) (i := i) (k := k) (v := v) x hc hk (by omega)) (fun _ _ _ _ _ => rfl)) (fun X M hA => ?_) (fun _ _ _ => rfl)
  rw [hA.2.2.2.2.1]
theorem q_tells2 {n c i k v : Nat} (x : Int32) (hc : c < 22) (hk : k < 7) (hn : n < 100) : SM 8 n c i k v (f_X0_tells_k c (nI k) x) (f_X7_tellsActs x) := by
  have pl := fun y : Int32 => q_pt (n := n) (i := i) (k := k) (v := v) y hc hk (by omega)
  have p1 := fun y : Int32 => q_pt (n := n + 1) (i := i) (k := k) (v := v) y hc hk (by omega)
  have a := SM.mono (SM.beg (e := 5) (b := 31) hc (show n < 500 by omega) (SM.ret (gx := fun r _ => r ^^^ 7) (gm := fun r _ => r ^^^ 7) (p1 x) (fun _ _ _ _ _ => rfl))) (show 6 ≤ 8 by omega)
  have b : SM 8 n c i k v (fun S => aB (f_X0_begin 41 S) (fun _ S1 => aB (aB (f_X0_begin 3 S1) (fun _ S2 => aB (f_X0_holds_k c (S2.1 c 1) (x - 1) S2) (fun r S3 => some (r * 2, S3)))) (fun r2 S2 => aB (f_X0_leans_k c (S2.1 c 1) 2 S2) (fun r3 S3 => some (r2 + r3, S3))))) (fun S => aB (f_X7_runs 41 S) (fun _ S1 => aB (f_X7_plainTells (x - 1) S1) (fun r4 S4 => aB (f_X7_leansActs 2 S4) (fun r5 S5 => some (r4 + r5, S5))))) := by
    refine SM.beg (e := 7) (b := 41) hc (by omega) ?_
    intro X M hA
    obtain ⟨m, r, X1, M1, g1, g2, g3, g4, g5, g6⟩ := p1 (x - 1) X M hA
    dsimp only at g2
    obtain ⟨m', r', X2, M2, j1, j2, j3, j4, j5, j6⟩ := q_leans (n := m) (i := i) (k := k) (v := v) 2 hc hk (by omega) X1 M1 g4
    refine ⟨m', r + r', X2, M2, by omega, ?_, ?_, j4, g5.tr j5, g6.tr j6⟩
    · show aB (aB (f_X0_begin 3 X) _) _ = _
      rw [g2, aB_some, g4.2.2.2.2.1, j2]; rfl
    · show aB (f_X7_plainTells (x - 1) M) _ = _
      rw [g3, aB_some, j3]; rfl
  have d : SM 8 n c i k v (fun S => aB (f_X0_begin 3 S) (fun _ S1 => aB (f_X0_holds_k c (S1.1 c 1) x S1) (fun r S2 => some (r * 2, S2)))) (fun S => aB (f_X7_plainTells x S) (fun r S1 => some (r, S1))) := by
    refine SM.cg (SM.mono (SM.ret (gx := fun r _ => r) (gm := fun r _ => r) (pl x) (fun _ _ _ _ _ => rfl)) (by omega)) (fun X _ _ => ?_) (fun _ _ _ => rfl)
    generalize aB (f_X0_begin 3 X) (fun _ S1 => aB (f_X0_holds_k c (S1.1 c 1) x S1) (fun r S2 => some (r * 2, S2))) = z
    cases z <;> rfl
  have r1 : ∀ X M, AR n c i k v X M → f_X7_tellsActs x M = if und k 3 then aB (f_X7_runs 31 M) (fun _ S1 => aB (f_X7_plainTells x S1) (fun r S2 => some (r ^^^ 7, S2))) else if k = 4 then aB (f_X7_runs 41 M) (fun _ S1 => aB (f_X7_plainTells (x - 1) S1) (fun r4 S4 => aB (f_X7_leansActs 2 S4) (fun r5 S5 => some (r4 + r5, S5)))) else aB (f_X7_plainTells x M) (fun r S1 => some (r, S1)) := fun X M hA => by
    unfold f_X7_tellsActs
    rw [show f_X7_isUnder (M.1 0 28) 3 M = some (if und k 3 then 1 else 0, M) by rw [hA.2.2.2.2.2.2.1]; exact q_under (k := 3) hk (by omega) M, aB_some]
    cases und k 3 with
    | true => rfl
    | false =>
      rw [hA.2.2.2.2.2.2.1]
      by_cases h5 : k = 4
      · rw [if_pos h5, h5]; rfl
      · rw [if_neg h5, if_pos (show (if false = true then (1 : Int32) else 0) = 0 from rfl), if_neg (show ¬ nI k = (4 : Int32) from fun e => h5 ((nI_eq (b := 4) (by omega) (by omega)).mp e))]
        rfl
  rcases (show k = 0 ∨ k = 1 ∨ k = 2 ∨ k = 3 ∨ k = 4 ∨ k = 5 ∨ k = 6 by omega) with rfl | rfl | rfl | rfl | rfl | rfl | rfl
  · exact d.cg (fun _ _ _ => rfl) (fun X M hA => r1 X M hA)
  · exact d.cg (fun _ _ _ => rfl) (fun X M hA => r1 X M hA)
  · exact d.cg (fun _ _ _ => rfl) (fun X M hA => r1 X M hA)
  · exact a.cg (fun _ _ _ => rfl) (fun X M hA => r1 X M hA)
  · exact b.cg (fun _ _ _ => rfl) (fun X M hA => r1 X M hA)
  · exact d.cg (fun _ _ _ => rfl) (fun X M hA => r1 X M hA)
  · exact a.cg (fun _ _ _ => rfl) (fun X M hA => r1 X M hA)
theorem aB_eta (z : Option (Int32 × aSt)) : aB z (fun r S => some (r, S)) = z := by cases z <;> rfl
/-- act, its body (run) written out -/
theorem act_run (p q x : Int32) (S : aSt) : f_X6_act p q x S = aLt (aUi S 30 1 0) (fun S1 => aB (f_X2_find 1 p S1) (fun r2 S2 => aO r2 (some (0, S2)) (fun a => if q = 0 then aB (f_X0_leans_k a (S2.1 a 1) x S2) (fun r S3 => some (r, S3)) else if q = 1 then aB (f_X0_holds_k a (S2.1 a 1) x S2) (fun r S3 => some (r, S3)) else if q = 2 then aB (f_X0_tells_k a (S2.1 a 1) x S2) (fun r S3 => some (r, S3)) else some (0, S2)))) := by
  have e : ∀ (a : Nat) (S2 : aSt), aB (f_X0_run a q x S2) (fun r S3 => some (r, S3)) = if q = 0 then aB (f_X0_leans_k a (S2.1 a 1) x S2) (fun r S3 => some (r, S3)) else if q = 1 then aB (f_X0_holds_k a (S2.1 a 1) x S2) (fun r S3 => some (r, S3)) else if q = 2 then aB (f_X0_tells_k a (S2.1 a 1) x S2) (fun r S3 => some (r, S3)) else some (0, S2) := fun a S2 => by
    rw [aB_eta]; rfl
  unfold f_X6_act
  simp only [e]
theorem pu_act_ok : pu_act Rel := by
  intro K X M p q x hR
  obtain ⟨⟨P, hV, hX, hM⟩, -, hK⟩ := id hR
  have hn := hV.1
  have fin : ∀ (m : Nat) (X' M' : aSt), m < 1000 → BX X X' → BM M M' → X'.1 30 1 = nI m → M'.1 0 27 = nI m → (∀ j, j < m → j < 20 → X'.1 31 j = M'.1 8 j) → Rel K X' M' := fun m X' M' hm hb hb' h1 h2 h3 => by
    refine ⟨⟨P, hV, RX_congr hV (fun k _ h => hb.1 k (by omega) (by omega)) (by rw [hb.2]) hX, by rw [hb'.1 1 (by omega) (by omega)]; exact hM⟩, ⟨m, hm, h1, h2, h3⟩, ?_⟩
    rcases hK with ⟨e, h⟩ | ⟨e, h, Q, hVQ, hQ, hMQ⟩
    · exact Or.inl ⟨e, by rw [hb'.2.1 3 (by omega)]; exact h⟩
    · exact Or.inr ⟨e, by rw [hb'.2.1 3 (by omega)]; exact h, Q, hVQ, RX_congr hVQ (fun k h _ => hb.1 k (by omega) (by omega)) (by rw [hb.2]) hQ, by rw [hb'.1 2 (by omega) (by omega)]; exact hMQ⟩
  have fX := BX.up X (k := 30) 1 0 (Or.inl rfl)
  have fM := BM.up M (j := 27) 0 (by omega)
  have hX1 : RX 1 P (aUi X 30 1 0) := RX_congr hV (fun k _ h => fX.1 k (by omega) (by omega)) (by rw [fX.2]) hX
  have hM1 : RM P ((aUi M 0 27 0).1 1) := by rw [fM.1 1 (by omega) (by omega)]; exact hM
  have f0 : Rel K (aUi X 30 1 0) (aUi M 0 27 0) := fin 0 _ _ (by omega) fX fM aUi_at aUi_at (fun j hj => absurd hj (by omega))
  rw [act_run]
  unfold f_X7_act
  rw [aLt_eq, aLt_eq]
  rcases tree_cases p hV hX1 hM1 with ⟨i, hi, rfl, e1, e2⟩ | ⟨e1, e2⟩
  · rw [e1, e2, aB_some, aB_some, aO_some, if_neg (show ¬ (1 : Int32) = 0 by decide)]
    rcases in_cases q 2 (by omega) (aUi X 30 1 0) (aUi M 0 27 0) with ⟨a, ha, rfl, -, i1⟩ | ⟨hq, -, i1⟩
    · have hT := TX_of hX1 hi
      have hTM := TM_of hM1 hi
      have hB := TB_of hV hi
      have b0 : pT P i 0 ≤ 6 := hB.1 0 (by omega)
      have x1 : (aUi X 30 1 0).1 (10 + 2 * i) 1 = nI (pT P i 0) := hT.2.1 0 (by omega)
      have x2 : (aUi X 30 1 0).1 (10 + 2 * i) 2 = nI (pT P i 1) := hT.2.1 1 (by omega)
      have s1 : (aUi M 0 27 0).1 1 (110 + i) = nI (pT P i 0) := hTM.1 0 (by omega)
      have s2 : (aUi M 0 27 0).1 1 (116 + i) = nI (pT P i 1) := hTM.1 1 (by omega)
      rw [show (2 : Int32) = nI 2 from rfl, i1, aB_some, if_neg (show ¬ (1 : Int32) = 0 by decide), show (110 : Int32) + nI i = nI (110 + i) from nI_add 110 i, show (116 : Int32) + nI i = nI (116 + i) from nI_add 116 i, if_neg (q_chk (by omega) (by omega)), aLt_eq, aLt_eq, if_neg (q_chk (by omega) (by omega)), aLt_eq, nI_clamp (by omega), nI_clamp (by omega), s1, aUi_row (show 1 ≠ 0 by omega), aUi_row (show 1 ≠ 0 by omega), s2, x1]
      have hA : AR 0 (10 + 2 * i) i (pT P i 0) (pT P i 1) (aUi X 30 1 0) (aUi (aUi (aUi (aUi M 0 27 0) 0 28 (nI (pT P i 0))) 0 29 (nI i)) 0 30 (nI (pT P i 1))) := ⟨aUi_at, by rw [aUi_ne (by omega), aUi_ne (by omega), aUi_ne (by omega), aUi_at]; rfl, fun j hj => absurd hj (by omega), hT.1, x1, x2, by rw [aUi_ne (by omega), aUi_ne (by omega), aUi_at], by rw [aUi_ne (by omega), aUi_at], aUi_at⟩
      have fM2 : BM M (aUi (aUi (aUi (aUi M 0 27 0) 0 28 (nI (pT P i 0))) 0 29 (nI i)) 0 30 (nI (pT P i 1))) := ((fM.tr (BM.up _ _ (by omega))).tr (BM.up _ _ (by omega))).tr (BM.up _ _ (by omega))
      rcases (show a = 0 ∨ a = 1 ∨ a = 2 by omega) with rfl | rfl | rfl
      · obtain ⟨m, r, X2, M2, g1, g2, g3, g4, g5, g6⟩ := q_leans x (show 10 + 2 * i < 22 by omega) (show pT P i 0 < 7 by omega) (by omega) _ _ hA
        rw [if_pos (show nI 0 = (0 : Int32) from rfl), if_pos (show nI 0 = (0 : Int32) from rfl), g2, g3, aB_some, aB_some]
        exact ⟨r, X2, M2, rfl, rfl, fin m X2 M2 (by omega) (fX.tr g5) (fM2.tr g6) g4.1 g4.2.1 g4.2.2.1⟩
      · obtain ⟨m, r, X2, M2, g1, g2, g3, g4, g5, g6⟩ := q_holds x (show 10 + 2 * i < 22 by omega) (show pT P i 0 < 7 by omega) (by omega) _ _ hA
        rw [if_neg (show ¬ nI 1 = (0 : Int32) by decide), if_neg (show ¬ nI 1 = (0 : Int32) by decide), if_pos (show nI 1 = (1 : Int32) from rfl), if_pos (show nI 1 = (1 : Int32) from rfl), g2, g3, aB_some, aB_some]
        exact ⟨r, X2, M2, rfl, rfl, fin m X2 M2 (by omega) (fX.tr g5) (fM2.tr g6) g4.1 g4.2.1 g4.2.2.1⟩
      · obtain ⟨m, r, X2, M2, g1, g2, g3, g4, g5, g6⟩ := q_tells2 x (show 10 + 2 * i < 22 by omega) (show pT P i 0 < 7 by omega) (by omega) _ _ hA
        rw [if_neg (show ¬ nI 2 = (0 : Int32) by decide), if_neg (show ¬ nI 2 = (0 : Int32) by decide), if_neg (show ¬ nI 2 = (1 : Int32) by decide), if_neg (show ¬ nI 2 = (1 : Int32) by decide), if_pos (show nI 2 = nI 2 from rfl), g2, g3, aB_some, aB_some]
        exact ⟨r, X2, M2, rfl, rfl, fin m X2 M2 (by omega) (fX.tr g5) (fM2.tr g6) g4.1 g4.2.1 g4.2.2.1⟩
    · rw [show (2 : Int32) = nI 2 from rfl, i1, aB_some, if_pos rfl, if_neg (show ¬ q = 0 from ne_out (k := 0) hq (by omega) (by omega)), if_neg (show ¬ q = 1 from ne_out (k := 1) hq (by omega) (by omega)), if_neg (show ¬ q = nI 2 from ne_out (k := 2) hq (by omega) (by omega))]
      exact ⟨_, _, _, rfl, rfl, f0⟩
  · rw [e1, e2, aB_some, aB_some, if_pos rfl, aO_none]
    exact ⟨_, _, _, rfl, rfl, f0⟩

/-! PURE PART: the class's weigh, push, decide -/
theorem TX_CF {c i : Nat} {T : Nat → Nat} {X X' : aSt} (hc : c ≠ 28) (hc2 : c ≠ 29) (h : CF X X') (hT : TX c i T X) : TX c i T X' := by
  unfold TX at hT ⊢
  rw [h.1 c hc2, h.1 (c + 1) (by omega)]
  exact hT
theorem RXW_CF {W : PW} {X X' : aSt} (h : CF X X') (hW : RXW 4 W X) : RXW 4 W X' := RXW_congr (fun k h1 h2 => h.1 k (by omega)) hW
theorem tot_lt {i w q : Nat} {T : Nat → Nat} {W : PW} (hO : wdOk W) : totL i T w q W.2.2 ≤ 990 := by
  have h1 := totL_le (i := i) (T := T) (way := w) (q := q) W.2.2 hO.2.2.2.2
  have h2 := hO.2.2.1
  omega
theorem q_push166 {c i h sp s : Nat} {T : Nat → Nat} {f a : Int32} {S : aSt} (hT : TX c i T S) (hB : TB T) (hc2 : c ≠ 29) (h1 : 1 ≤ h) (hh : h ≤ 991) (hs : s ≤ 18) (hp : sp ≤ 40) (e0 : S.1 29 0 = f) (e1 : S.1 29 1 = a) (e8 : S.1 29 8 = nI h) (e9 : S.1 29 9 = nI sp) : ∃ S', f_X1_push_166 c (nI (T 8)) (nI s) S = some ((), S') ∧ CF S S' ∧ S'.1 29 0 = kF (T 0) (T 1) f ∧ S'.1 29 1 = kA (T 0) (T 1) a ∧ S'.1 29 2 = nI (kS (T 0) (T 1) (h * s - T 6 * s / 10)) ∧ S'.1 29 3 = nI (kP (T 0) (T 1) sp) ∧ S'.1 29 4 = nI (hw (kF (T 0) (T 1) f) (kA (T 0) (T 1) a) (kS (T 0) (T 1) (h * s - T 6 * s / 10)) (kP (T 0) (T 1) sp)) ∧ S'.1 29 5 = wy (hw (kF (T 0) (T 1) f) (kA (T 0) (T 1) a) (kS (T 0) (T 1) (h * s - T 6 * s / 10)) (kP (T 0) (T 1) sp)) (kA (T 0) (T 1) a) (T 8) ∧ S'.1 29 8 = nI h ∧ S'.1 29 9 = nI sp := by
  have b0 : T 0 ≤ 6 := hB.1 0 (by omega)
  have b1 : T 1 ≤ 9 := hB.1 1 (by omega)
  have b6 : T 6 ≤ 9 := hB.1 6 (by omega)
  have b8 : T 8 ≤ 7 := hB.1 8 (by omega)
  have t0 : S.1 c 1 = nI (T 0) := hT.2.1 0 (by omega)
  have t1 : S.1 c 2 = nI (T 1) := hT.2.1 1 (by omega)
  have t6 : S.1 c 7 = nI (T 6) := hT.2.1 6 (by omega)
  have m1 : T 6 * s ≤ 9 * 18 := Nat.mul_le_mul b6 hs
  have m2 : h * s ≤ 991 * 18 := Nat.mul_le_mul hh hs
  have m3 : 1 * s ≤ h * s := Nat.mul_le_mul_right s h1
  have m4 : T 6 * s ≤ 9 * s := Nat.mul_le_mul_right s b6
  have st : nI h * nI s - nI (T 6) * nI s / 10 = nI (h * s - T 6 * s / 10) := by
    rw [pk_mul, pk_mul, show (10 : Int32) = nI 10 from rfl, pk_div (by omega) (by omega) (by omega), pk_sub (by omega)]
  obtain ⟨S3, g1, g2, g3, g4, g5, g6, g7⟩ := q_change (k := T 0) (v := T 1) (s := h * s - T 6 * s / 10) (p := sp) (f := f) (a := a) (S := aUi (aUi S 29 2 (nI (h * s - T 6 * s / 10))) 29 3 (nI sp)) (by omega) (by omega) (by omega) (by omega) (by rw [aUi_ne (by omega), aUi_ne (by omega)]; exact e0) (by rw [aUi_ne (by omega), aUi_ne (by omega)]; exact e1) (by rw [aUi_ne (by omega)]; exact aUi_at) aUi_at
  have g8 := q_how g3 g4 g5 g6
  have hlt := hw_lt (kF (T 0) (T 1) f) (kA (T 0) (T 1) a) (kS (T 0) (T 1) (h * s - T 6 * s / 10)) (kP (T 0) (T 1) sp)
  have g9 := q_way6 (S := aUi S3 29 4 (nI (hw (kF (T 0) (T 1) f) (kA (T 0) (T 1) a) (kS (T 0) (T 1) (h * s - T 6 * s / 10)) (kP (T 0) (T 1) sp)))) (a := kA (T 0) (T 1) a) (n := T 8) hlt (by omega) (by rw [aUi_ne (by omega)]; exact g4) aUi_at
  unfold f_X1_push_166
  rw [aLt_eq, e8, t6, st, aLt_eq, aUi_ne (show (9 : Nat) ≠ 2 by omega), e9, aUi_row hc2, aUi_row hc2, t0, t1, g1, aB_some, g8, aB_some, aLt_eq, g9, aB_some, aLt_eq]
  refine ⟨_, rfl, (((((CF.up S 2 _).tr (CF.up _ 3 _)).tr g2).tr (CF.up _ 4 _)).tr (CF.up _ 5 _)), ?_, ?_, ?_, ?_, ?_, aUi_at, ?_, ?_⟩
  · rw [aUi_ne (by omega), aUi_ne (by omega)]; exact g3
  · rw [aUi_ne (by omega), aUi_ne (by omega)]; exact g4
  · rw [aUi_ne (by omega), aUi_ne (by omega)]; exact g5
  · rw [aUi_ne (by omega), aUi_ne (by omega)]; exact g6
  · rw [aUi_ne (by omega)]; exact aUi_at
  · rw [aUi_ne (by omega), aUi_ne (by omega), g7 8 (by omega), aUi_ne (by omega), aUi_ne (by omega)]; exact e8
  · rw [aUi_ne (by omega), aUi_ne (by omega), g7 9 (by omega), aUi_ne (by omega), aUi_ne (by omega)]; exact e9
/-- what Course holds -/
def GX (W : PW) (i : Nat) (T : Nat → Nat) (g : Option Nat) (X : aSt) : Prop := X.1 29 0 = gF W i T g ∧ X.1 29 1 = gA W i T g ∧ X.1 29 2 = nI (gS W i T) ∧ X.1 29 3 = nI (gP W i T) ∧ X.1 29 4 = nI (gH W i T g) ∧ X.1 29 5 = gY W i T g
def GW (W : PW) (i : Nat) (T : Nat → Nat) (X : aSt) : Prop := X.1 29 8 = nI (1 + totL i T (T 8) 0 W.2.2) ∧ X.1 29 9 = nI (40 - totL i T (T 8) 1 W.2.2)
theorem q_push {c i : Nat} {T : Nat → Nat} {X : aSt} {W : PW} (g : Option Nat) (hT : TX c i T X) (hi : i < 6) (hB : TB T) (hc : c ≠ 28) (hc2 : c ≠ 29) (hW : RXW 4 W X) (hO : wdOk W) (hg : ∀ w, g = some w → w < 8) (hGW : GW W i T X) : ∃ X', f_X1_push 4 c (gG g) X = some ((), X') ∧ CF X X' ∧ GX W i T g X' ∧ GW W i T X' := by
  have b5 : T 5 ≤ 7 := hB.1 5 (by omega)
  have b8 : T 8 ≤ 7 := hB.1 8 (by omega)
  have b9 : T 9 ≤ 9 := hB.1 9 (by omega)
  have b10 : T 10 ≤ 9 := hB.1 10 (by omega)
  have b12 : T 12 ≤ 7 := hB.1 12 (by omega)
  have t4 : X.1 c 5 = nI (T 4) := hT.2.1 4 (by omega)
  have t5 : X.1 c 6 = nI (T 5) := hT.2.1 5 (by omega)
  have p0 : X.1 (c + 1) 0 = nI (T 8) := hT.2.2 0 (by omega)
  have p1 : X.1 (c + 1) 1 = nI (T 9) := hT.2.2 1 (by omega)
  have p2 : X.1 (c + 1) 2 = nI (T 10) := hT.2.2 2 (by omega)
  have p3 : X.1 (c + 1) 3 = nI (T 11) := hT.2.2 3 (by omega)
  have p4 : X.1 (c + 1) 4 = nI (T 12) := hT.2.2 4 (by omega)
  have p5 : X.1 (c + 1) 5 = nI (T 13) := hT.2.2 5 (by omega)
  have w2 : X.1 4 2 = nI W.1 := hW.2.1
  have w3 : X.1 4 3 = nI W.2.1 := hW.2.2.1
  have k0 := tot_lt (i := i) (w := T 8) (q := 0) (T := T) hO
  have k1 := tot_lt (i := i) (w := T 8) (q := 1) (T := T) hO
  have hc3 : c + 1 ≠ 29 := by omega
  unfold f_X1_push
  simp (disch := omega) only [aLt_eq, aB_some, p0, p1, p2, p3, p4, p5, t4, t5, w2, w3, q6_al, q6_si, aUi_row, nI_add]
  generalize hX2 : aUi (aUi X 29 0 _) 29 1 _ = X2
  have f0 : CF X X2 := by subst hX2; exact (CF.up X 0 _).tr (CF.up _ 1 _)
  have f1 : X2.1 29 0 = gF0 W i T none := by subst hX2; rw [aUi_ne (by omega), aUi_at]; rfl
  have f2 : X2.1 29 1 = gA0 W i T none := by subst hX2; rw [aUi_at]; rfl
  have f3 : X2.1 29 8 = nI (1 + totL i T (T 8) 0 W.2.2) := by subst hX2; rw [aUi_ne (by omega), aUi_ne (by omega)]; exact hGW.1
  have f4 : X2.1 29 9 = nI (40 - totL i T (T 8) 1 W.2.2) := by subst hX2; rw [aUi_ne (by omega), aUi_ne (by omega)]; exact hGW.2
  clear hX2
  have hT2 := TX_CF hc hc2 f0 hT
  have hW2 := RXW_CF f0 hW
  cases g with
  | none =>
    obtain ⟨S', g1, g2, g3, g4, g5, g6, g7, g8, g9, g10⟩ := q_push166 (s := T 9 + T 10) hT2 hB hc2 (by omega) (by omega) (by omega) (by omega) f1 f2 f3 f4
    rw [show gG none = -1 from rfl, if_pos rfl]
    exact ⟨S', g1, f0.tr g2, ⟨g3, g4, g5, g6, g7, g8⟩, g9, g10⟩
  | some w =>
    have hw := hg w rfl
    have e2 := q_total (q := 2) hT2 hi hB hw (by omega) hW2 hO
    rw [show gG (some w) = nI w from rfl, if_neg (show ¬ nI w = -1 from neg_ne (by omega) (by decide)), show (2 : Int32) = nI 2 from rfl, e2, aB_some, q6_al (by omega) (by omega), aB_some, q6_si (by omega) (by omega), aB_some, f1, aUi_ne (show (1 : Nat) ≠ 0 by omega), f2]
    generalize hX3 : aUi (aUi X2 29 0 _) 29 1 _ = X3
    have j0 : CF X2 X3 := by subst hX3; exact (CF.up X2 0 _).tr (CF.up _ 1 _)
    have j1 : X3.1 29 0 = gF0 W i T (some w) := by subst hX3; rw [aUi_ne (by omega), aUi_at]; rfl
    have j2 : X3.1 29 1 = gA0 W i T (some w) := by subst hX3; rw [aUi_at]; rfl
    have j3 : X3.1 29 8 = nI (1 + totL i T (T 8) 0 W.2.2) := by subst hX3; rw [aUi_ne (by omega), aUi_ne (by omega)]; exact f3
    have j4 : X3.1 29 9 = nI (40 - totL i T (T 8) 1 W.2.2) := by subst hX3; rw [aUi_ne (by omega), aUi_ne (by omega)]; exact f4
    clear hX3
    obtain ⟨S', g1, g2, g3, g4, g5, g6, g7, g8, g9, g10⟩ := q_push166 (s := T 9 + T 10) (TX_CF hc hc2 j0 hT2) hB hc2 (by omega) (by omega) (by omega) (by omega) j1 j2 j3 j4
    exact ⟨S', g1, (f0.tr j0).tr g2, ⟨g3, g4, g5, g6, g7, g8⟩, g9, g10⟩
theorem q_weigh {c i : Nat} {T : Nat → Nat} {X : aSt} {W : PW} (hT : TX c i T X) (hi : i < 6) (hB : TB T) (hc : c ≠ 28) (hc2 : c ≠ 29) (hW : RXW 4 W X) (hO : wdOk W) : ∃ X', f_X1_weigh 4 c X = some ((), X') ∧ CF X X' ∧ GW W i T X' := by
  have b8 : T 8 ≤ 7 := hB.1 8 (by omega)
  have p0 : X.1 (c + 1) 0 = nI (T 8) := hT.2.2 0 (by omega)
  have k1 := tot_lt (i := i) (w := T 8) (q := 1) (T := T) hO
  have e0 := q_total (q := 0) hT hi hB (show T 8 < 8 by omega) (by omega) hW hO
  have c1 := CF.up X 8 (nI 1 + nI (totL i T (T 8) 0 W.2.2))
  have e1 := q_total (q := 1) (TX_CF hc hc2 c1 hT) hi hB (show T 8 < 8 by omega) (by omega) (RXW_CF c1 hW) hO
  unfold f_X1_weigh
  rw [aLt_eq, p0, show (0 : Int32) = nI 0 from rfl, e0, aB_some, aLt_eq, show (1 : Int32) = nI 1 from rfl, e1, aB_some, aLt_eq, show (40 : Int32) = nI 40 from rfl, show nI 0 = (0 : Int32) from rfl, max_I (by omega) (by omega)]
  refine ⟨_, rfl, c1.tr (CF.up _ 9 _), ?_, aUi_at⟩
  rw [aUi_ne (by omega), aUi_at, nI_add]
theorem q_decide {c i : Nat} {T : Nat → Nat} {X : aSt} {W : PW} (g : Option Nat) (hT : TX c i T X) (hi : i < 6) (hB : TB T) (hc : c ≠ 28) (hc2 : c ≠ 29) (hW : RXW 4 W X) (hO : wdOk W) (hg : ∀ w, g = some w → w < 8) : ∃ X', f_X1_decide 4 c (gG g) X = some ((), X') ∧ CF X X' ∧ GX W i T g X' := by
  obtain ⟨X1, e1, c1, g1⟩ := q_weigh hT hi hB hc hc2 hW hO
  obtain ⟨X2, e2, c2, g2, -⟩ := q_push g (TX_CF hc hc2 c1 hT) hi hB hc hc2 (RXW_CF c1 hW) hO hg g1
  unfold f_X1_decide
  rw [e1, aB_some, e2, aB_some]
  exact ⟨X2, rfl, c1.tr c2, g2⟩

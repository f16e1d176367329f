/-! natives, switches, the shapes of the two systems -/
theorem a_lookOut {z dflt : Int} : ∀ {ps : List (Int × Int)}, (∀ q ∈ ps, ¬ q.1 = z) → Op.lookupswitch.offset ps dflt z = dflt
  | [], _ => rfl
  | (a, o) :: r, h => by
    rw [Op.lookupswitch.offset_cons, if_neg (h (a, o) List.mem_cons_self)]
    exact a_lookOut (fun q hq => h q (List.mem_cons_of_mem _ hq))
def aCp (S : aSt) (k0 k1 n : Nat) : aSt := aRow S k1 (va_cpy (S.1 k0) (S.1 k1) 0 0 n)
def aB {α β : Type} (o1 : Option (β × aSt)) (k : β → aSt → Option (α × aSt)) : Option (α × aSt) := o1.bind (fun q => k q.1 q.2)
def aO {γ : Type} (r : Option Nat) (A : γ) (B : Nat → γ) : γ := match r with
  | none => A
  | some a => B a
theorem aB_some {α β : Type} (r : β) (S : aSt) (k : β → aSt → Option (α × aSt)) : aB (some (r, S)) k = k r S := rfl
theorem aMet_of {α : Type} {G : aG} {y : MethodName} {ws : List Cond} {d : Nat} {mk : α → Option Value} {o : Option (α × aSt)} {As : List Value} {S : aSt} {q : α × aSt} (e : o = some q) (h : aMet G y ws d mk o As S) : aMet G y ws d mk (some q) As S := e ▸ h
theorem aMet_none {α : Type} {G : aG} {y : MethodName} {ws : List Cond} {d : Nat} {mk : α → Option Value} {As : List Value} {S : aSt} : aMet G y ws d mk none As S := by
  intro post hp
  obtain ⟨r, S', h, -⟩ := hp
  cases h
def aF : Nat := 10000
section ANAT
variable {α β : Type} {G : aG} {y : MethodName} {cc : ByteArray} {nL : Nat} {ret : Option FieldType} {ws : List Cond} {d : Nat} {mk : α → Option Value} {o : Option (α × aSt)} {pc : Nat} {L : List (Option Value)} {st stk : List Value} {S : aSt} {idx : Nat}
theorem x_b {o1 : Option (β × aSt)} {k : β → aSt → Option (α × aSt)} (h : ∀ (r : β) (S1 : aSt), o1 = some (r, S1) → aX G y cc nL ret ws d mk (k r S1) pc L stk S) : aX G y cc nL ret ws d mk (aB o1 k) pc L stk S := x_bind h
theorem a_cat13 (hd1 : 1 ≤ d) (hcat : (st.map (fun v => v.category)).sum ≤ 8) : ((st.map (a_v G.2.2.2.1)).map (fun v => v.category)).sum + 13 ≤ (a_room d).locals := by
  rw [a_cat_map]
  show _ ≤ 40 * d
  omega
theorem x_max {x y1 : Int32} (hd : decode cc pc = .ok (.invokestatic idx, 3)) (h1 : Cond.methodLink y.cls idx Lib.Math.max.name ∈ ws) (h2 : Cond.static Lib.Math.max.name ∈ ws) (h3 : Cond.initialized "java/lang/Math" ∈ ws) (h4 : Cond.code Lib.Math.max.name Lib.Math.max.code 2 (some .int) ∈ ws) (hcat : (st.map (fun v => v.category)).sum ≤ 8) (hd1 : 1 ≤ d)
    (kk : aX G y cc nL ret ws d mk o (pc + 3) L (.int (if x < y1 then y1 else x) :: st) S) : aX G y cc nL ret ws d mk o pc L (.int y1 :: .int x :: st) S := by
  intro post hp p e s m args below meth c H locs ls hs hP hS hL
  exact va_mmax hs.1 hs.2.1 (hs.2.2.2.1.trans hL.1.symm) hs.2.2.2.2.1 (hs.2.2.2.2.2.1 _ h1) (hs.2.2.2.2.2.1 _ h2) (hs.2.2.2.2.2.1 _ h3) (hs.2.2.2.2.2.1 _ h4) hd1 (a_cat13 hd1 hcat) (Nat.le_refl 0) (Nat.le_refl 0) hd (kk post hp p e s m args below meth c H locs ls hs hP hS hL)
theorem x_min {x y1 : Int32} (hd : decode cc pc = .ok (.invokestatic idx, 3)) (h1 : Cond.methodLink y.cls idx Lib.Math.min.name ∈ ws) (h2 : Cond.static Lib.Math.min.name ∈ ws) (h3 : Cond.initialized "java/lang/Math" ∈ ws) (h4 : Cond.code Lib.Math.min.name Lib.Math.min.code 2 (some .int) ∈ ws) (hcat : (st.map (fun v => v.category)).sum ≤ 8) (hd1 : 1 ≤ d)
    (kk : aX G y cc nL ret ws d mk o (pc + 3) L (.int (if y1 < x then y1 else x) :: st) S) : aX G y cc nL ret ws d mk o pc L (.int y1 :: .int x :: st) S := by
  intro post hp p e s m args below meth c H locs ls hs hP hS hL
  exact va_mmin hs.1 hs.2.1 (hs.2.2.2.1.trans hL.1.symm) hs.2.2.2.2.1 (hs.2.2.2.2.2.1 _ h1) (hs.2.2.2.2.2.1 _ h2) (hs.2.2.2.2.2.1 _ h3) (hs.2.2.2.2.2.1 _ h4) hd1 (a_cat13 hd1 hcat) (Nat.le_refl 0) (Nat.le_refl 0) hd (kk post hp p e s m args below meth c H locs ls hs hP hS hL)
theorem x_abs {x : Int32} (hd : decode cc pc = .ok (.invokestatic idx, 3)) (h1 : Cond.methodLink y.cls idx Lib.Math.abs.name ∈ ws) (h2 : Cond.static Lib.Math.abs.name ∈ ws) (h3 : Cond.initialized "java/lang/Math" ∈ ws) (h4 : Cond.code Lib.Math.abs.name Lib.Math.abs.code 1 (some .int) ∈ ws) (hcat : (st.map (fun v => v.category)).sum ≤ 8) (hd1 : 1 ≤ d)
    (kk : aX G y cc nL ret ws d mk o (pc + 3) L (.int (if 0 ≤ x then x else 0 - x) :: st) S) : aX G y cc nL ret ws d mk o pc L (.int x :: st) S := by
  intro post hp p e s m args below meth c H locs ls hs hP hS hL
  exact va_mabs hs.1 hs.2.1 (hs.2.2.2.1.trans hL.1.symm) hs.2.2.2.2.1 (hs.2.2.2.2.2.1 _ h1) (hs.2.2.2.2.2.1 _ h2) (hs.2.2.2.2.2.1 _ h3) (hs.2.2.2.2.2.1 _ h4) hd1 (a_cat13 hd1 hcat) (Nat.le_refl 0) (Nat.le_refl 0) hd (kk post hp p e s m args below meth c H locs ls hs hP hS hL)
theorem x_cpyc {k0 k1 t n0 n1 n : Nat} {tt : FieldType} {z0 z1 z : Int32} (hd : decode cc pc = .ok (.invokestatic idx, 3)) (h1 : Cond.methodLink y.cls idx arraycopyName ∈ ws) (h2 : Cond.native arraycopyName ∈ ws) (h3 : Cond.static arraycopyName ∈ ws) (h4 : Cond.initialized "java/lang/System" ∈ ws) (hs0 : G.2.2.2.2[k0]? = some (.inl (t, n0, none))) (hs1 : G.2.2.2.2[k1]? = some (.inl (t, n1, none))) (ht : (a_tys G.2.2.1)[t]? = some (G.2.2.1 t, tt)) (hprim : refKind tt = false) (hz0 : z0 = 0) (hz1 : z1 = 0) (hzp : ¬ z < 0) (hz : z.toNatClampNeg = n) (hn0 : n ≤ n0) (hn1 : n ≤ n1) (hfit : ∀ i, i < n → fits tt (.int (S.1 k0 i)) = true) (hcat : (st.map (fun v => v.category)).sum ≤ 8) (hd1 : 1 ≤ d)
    (kk : aX G y cc nL ret ws d mk o (pc + 3) L st (aCp S k0 k1 n)) : aX G y cc nL ret ws d mk o pc L (.int z :: .int z1 :: .ref k1 :: .int z0 :: .ref k0 :: st) S := by
  subst hz hz0 hz1
  intro post hp p e s m args below meth c H locs ls hs hP hS hL
  have h0 : (0 : Int32).toNatClampNeg = 0 := by decide
  refine va_copyi (ty := tt) hs.1 hs.2.1 (hs.2.2.2.1.trans hL.1.symm) hs.2.2.2.2.1 (hs.2.2.2.2.2.1 _ h1) (hs.2.2.2.2.2.1 _ h2) (hs.2.2.2.2.2.1 _ h3) (hs.2.2.2.2.2.1 _ h4) hs.2.2.2.2.2.2.2.1 hP (a_W_D hs.2.2.2.2.2.2.2.2.1 S) hS k0 k1 t t (a_W_get hs0) (a_W_get hs1) ht ht hprim (by decide) (by decide) hzp (by rw [h0]; omega) (by rw [h0]; omega) (fun i hi => by rw [h0, Nat.zero_add]; exact hfit i hi) hd1 ?_ hd (fun H1 locs1 hP1 _ hS1 => kk post hp p e s m args below meth c H1 locs1 ls hs ?_ hS1 hL)
  · show ((st.map (a_v G.2.2.2.1)).map (fun v => v.category)).sum + (nativeFrameWords "java/lang/System" "arraycopy" 5 + 11) ≤ 40 * d
    have : nativeFrameWords "java/lang/System" "arraycopy" 5 = 7 := by decide
    rw [this, a_cat_map]
    omega
  · have hset := a_W_set (ty := G.2.2.1) (ρ := G.2.2.2.1) (S := S) (S' := aCp S k0 k1 z.toNatClampNeg) (e := .inl (G.2.2.1 t, n1, .inl (va_cpy (S.1 k0) (S.1 k1) (0 : Int32).toNatClampNeg (0 : Int32).toNatClampNeg z.toNatClampNeg))) hs1 (by simp [a_cell, aCp, aRow_k, h0]) (fun q hq => aRow_row hq) (fun q hq => rfl)
    rw [hset] at hP1
    exact hP1
end ANAT
def aTrS (t : Nat) : List aS := [none, none, none, none, none, none, none, none, none, some (some (some (t + 1)))]
def aTr (G : aG) (t : Nat) : Prop := G.2.2.2.2[t]? = some (.inr (4, aTrS t)) ∧ G.2.2.2.2[t + 1]? = some (.inl (0, 6, none))
def aWdS (w : Nat) : List aS := [none, none, none, none, some (some (some (w + 1))), some (some (some (w + 2))), some (some (some (w + 3))), some (some (some (w + 4)))]
def aWd (G : aG) (w : Nat) : Prop := G.2.2.2.2[w]? = some (.inr (5, aWdS w)) ∧ G.2.2.2.2[w + 1]? = some (.inl (0, 10, none)) ∧ G.2.2.2.2[w + 2]? = some (.inl (0, 10, none)) ∧ G.2.2.2.2[w + 3]? = some (.inl (0, 10, none)) ∧ G.2.2.2.2[w + 4]? = some (.inl (0, 100, none))
def aGrS (g : Nat) : List aS := [some none, none, none, none, none, none, some (some (some (g + 1))), some (some (some (g + 2))), some (some (some (g + 3))), some (some (some (g + 8)))]
def aGr (G : aG) (g : Nat) : Prop := G.2.2.2.2[g]? = some (.inr (2, aGrS g)) ∧ G.2.2.2.2[g + 1]? = some (.inl (1, 100, none)) ∧ G.2.2.2.2[g + 2]? = some (.inl (0, 6, none)) ∧ aWd G (g + 3) ∧ G.2.2.2.2[g + 8]? = some (.inl (3, 6, some (fun j => some (g + 9 + 2 * j)))) ∧ ∀ j, j < 6 → aTr G (g + 9 + 2 * j)
def aRd (G : aG) : Prop := G.2.2.2.2[22]? = some (.inr (3, [some (some (some 23)), some (some (some 28)), none, none])) ∧ aWd G 23 ∧ G.2.2.2.2[28]? = some (.inl (1, 100, none))
def aCo (G : aG) : Prop := G.2.2.2.2[29]? = some (.inr (1, [none, none, none, none, none, none, none, some none, none, none]))
def aBo (G : aG) : Prop := G.2.2.2.2[30]? = some (.inr (0, [some (some (some 31)), none])) ∧ G.2.2.2.2[31]? = some (.inl (0, 20, none))
def aFt (G : aG) (K : Option Nat) : Prop := G.2.2.2.2[0]? = some (.inr (6, [some (some (some 1)), some (some (some 22)), some (some (some 29)), some (some (some 30)), some (some (some 32)), some (some K)])) ∧ aGr G 1 ∧ aRd G ∧ aCo G ∧ aBo G ∧ aTr G 32 ∧ ∀ k, K = some k → aGr G k
def aMoS : List aS := [none, some (some (some 1)), some (some (some 2)), none, none, none, none, none, none, some (some (some 3)), some (some (some 4)), none, none, none, none, none, none, none, none, none, some none, none, none, some (some (some 5)), some (some (some 6)), some (some (some 7)), some (some (some 8)), none, none, none, none]
def aMo (G : aG) : Prop := G.2.2.2.2[0]? = some (.inr (7, aMoS)) ∧ G.2.2.2.2[1]? = some (.inl (0, 979, none)) ∧ G.2.2.2.2[2]? = some (.inl (0, 979, none)) ∧ G.2.2.2.2[3]? = some (.inl (0, 6, none)) ∧ G.2.2.2.2[4]? = some (.inl (2, 64, none)) ∧ G.2.2.2.2[5]? = some (.inl (0, 36, none)) ∧ G.2.2.2.2[6]? = some (.inl (0, 6, none)) ∧ G.2.2.2.2[7]? = some (.inl (0, 6, none)) ∧ G.2.2.2.2[8]? = some (.inl (0, 20, none))
theorem a_lt {i : Int32} {n : Nat} (h : ¬ (i < 0 ∨ n ≤ i.toNatClampNeg)) : i.toNatClampNeg < n := Nat.not_le.mp (fun q => h (Or.inr q))

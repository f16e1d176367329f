/-! ROWS OF THE ABSTRACT MACHINE: fields, arrays, calls -/
theorem a_fs_at {ρ : Nat → Nat} {ss : List aS} {k j : Nat} {S : aSt} {s : aS} (h : ss[j]? = some s) : (ss.mapIdx (fun j s => a_val ρ s (S.1 k j) (S.2 k j)))[j]? = some (a_val ρ s (S.1 k j) (S.2 k j)) := by
  simp [List.getElem?_mapIdx, h]
theorem a_fs_set {ρ : Nat → Nat} {ss : List aS} {k j : Nat} {S S' : aSt} {s : aS} {v : Value} (h : ss[j]? = some s) (hv : v = a_val ρ s (S'.1 k j) (S'.2 k j)) (h1 : ∀ i, i ≠ j → S'.1 k i = S.1 k i) (h2 : ∀ i, i ≠ j → S'.2 k i = S.2 k i) : (ss.mapIdx (fun j s => a_val ρ s (S.1 k j) (S.2 k j))).set j v = ss.mapIdx (fun j s => a_val ρ s (S'.1 k j) (S'.2 k j)) := by
  subst hv
  apply List.ext_getElem?
  intro q
  rw [List.getElem?_set]
  by_cases hq : j = q
  · subst hq
    have hl : j < (ss.mapIdx (fun j s => a_val ρ s (S.1 k j) (S.2 k j))).length := by
      have := (List.getElem?_eq_some_iff.mp h).1
      simpa using this
    rw [if_pos rfl, if_pos hl, a_fs_at h]
  · rw [if_neg hq]
    simp only [List.getElem?_mapIdx]
    cases hc : ss[q]? with
    | none => rfl
    | some c' =>
      show some (a_val ρ c' (S.1 k q) (S.2 k q)) = some (a_val ρ c' (S'.1 k q) (S'.2 k q))
      rw [h1 q (fun e => hq e.symm), h2 q (fun e => hq e.symm)]
theorem aUi_row {S : aSt} {k j : Nat} {x : Int32} {q : Nat} (h : q ≠ k) : (aUi S k j x).1 q = S.1 q := by simp [aUi, va_up, h]
theorem aUi_at {S : aSt} {k j : Nat} {x : Int32} : (aUi S k j x).1 k j = x := by simp [aUi, va_up, upd]
theorem aUi_ne {S : aSt} {k j i : Nat} {x : Int32} (h : i ≠ j) : (aUi S k j x).1 k i = S.1 k i := by simp [aUi, va_up, upd, h]
theorem aUi_k {S : aSt} {k j : Nat} {x : Int32} : (aUi S k j x).1 k = upd (S.1 k) j x := by simp [aUi, va_up]
theorem aUl_row {S : aSt} {k j : Nat} {x : Int64} {q : Nat} (h : q ≠ k) : (aUl S k j x).2 q = S.2 q := by simp [aUl, va_up, h]
theorem aUl_at {S : aSt} {k j : Nat} {x : Int64} : (aUl S k j x).2 k j = x := by simp [aUl, va_up, vp_updL]
theorem aUl_ne {S : aSt} {k j i : Nat} {x : Int64} (h : i ≠ j) : (aUl S k j x).2 k i = S.2 k i := by simp [aUl, va_up, vp_updL, h]
theorem aRow_row {S : aSt} {k : Nat} {f : Nat → Int32} {q : Nat} (h : q ≠ k) : (aRow S k f).1 q = S.1 q := by simp [aRow, va_up, h]
theorem aRow_k {S : aSt} {k : Nat} {f : Nat → Int32} : (aRow S k f).1 k = f := by simp [aRow, va_up]
section AROWS2
variable {α : Type} {G : aG} {y : MethodName} {cc : ByteArray} {nL : Nat} {ret : Option FieldType} {ws : List Cond} {d : Nat} {mk : α → Option Value} {o A B : Option (α × aSt)} {pc : Nat} {L : List (Option Value)} {st : List Value} {S : aSt}
theorem x_getI {idx k j ci : Nat} {C : String} {T : u_T} {N : Nat} {ss : List aS} (hd : decode cc pc = .ok (.getfield idx, 3)) (hsh : G.2.2.2.2[k]? = some (.inr (ci, ss))) (hc : vwCl[ci]? = some (C, T, N)) (hj : ss[j]? = some none) (hN : j < N) (hin : ∀ w ∈ u_ws C T N, w ∈ ws) (hw : Cond.fieldLink y.cls idx (T j).1 (T j).2.1 (T j).2.2.1 ∈ ws) (kk : aX G y cc nL ret ws d mk o (pc + 3) L (.int (S.1 k j) :: st) S) : aX G y cc nL ret ws d mk o pc L (.ref k :: st) S := by
  intro post hp p e s m args below meth c H locs ls hs hP hS hL
  exact va_get hs.1 hs.2.1 hs.2.2.2.2.2.1 hin hs.2.2.2.2.1 hs.2.2.2.2.2.2.2.1 hP k (a_W_get hsh) hc j hN (hs.2.2.2.2.2.1 _ hw) (fun _ h => h) (a_fs_at hj) hd (kk post hp p e s m args below meth c H locs ls hs hP hS hL)
theorem x_getJ {idx k j ci : Nat} {C : String} {T : u_T} {N : Nat} {ss : List aS} (hd : decode cc pc = .ok (.getfield idx, 3)) (hsh : G.2.2.2.2[k]? = some (.inr (ci, ss))) (hc : vwCl[ci]? = some (C, T, N)) (hj : ss[j]? = some (some none)) (hN : j < N) (hin : ∀ w ∈ u_ws C T N, w ∈ ws) (hw : Cond.fieldLink y.cls idx (T j).1 (T j).2.1 (T j).2.2.1 ∈ ws) (kk : aX G y cc nL ret ws d mk o (pc + 3) L (.long (S.2 k j) :: st) S) : aX G y cc nL ret ws d mk o pc L (.ref k :: st) S := by
  intro post hp p e s m args below meth c H locs ls hs hP hS hL
  exact va_get hs.1 hs.2.1 hs.2.2.2.2.2.1 hin hs.2.2.2.2.1 hs.2.2.2.2.2.2.2.1 hP k (a_W_get hsh) hc j hN (hs.2.2.2.2.2.1 _ hw) (fun _ h => h) (a_fs_at hj) hd (kk post hp p e s m args below meth c H locs ls hs hP hS hL)
theorem x_getR {idx k j ci : Nat} {C : String} {T : u_T} {N : Nat} {ss : List aS} {r : Nat} (hd : decode cc pc = .ok (.getfield idx, 3)) (hsh : G.2.2.2.2[k]? = some (.inr (ci, ss))) (hc : vwCl[ci]? = some (C, T, N)) (hj : ss[j]? = some (some (some (some r)))) (hN : j < N) (hin : ∀ w ∈ u_ws C T N, w ∈ ws) (hw : Cond.fieldLink y.cls idx (T j).1 (T j).2.1 (T j).2.2.1 ∈ ws) (kk : aX G y cc nL ret ws d mk o (pc + 3) L (.ref r :: st) S) : aX G y cc nL ret ws d mk o pc L (.ref k :: st) S := by
  intro post hp p e s m args below meth c H locs ls hs hP hS hL
  exact va_get hs.1 hs.2.1 hs.2.2.2.2.2.1 hin hs.2.2.2.2.1 hs.2.2.2.2.2.2.2.1 hP k (a_W_get hsh) hc j hN (hs.2.2.2.2.2.1 _ hw) (fun _ h => h) (a_fs_at hj) hd (kk post hp p e s m args below meth c H locs ls hs hP hS hL)
theorem x_getN {idx k j ci : Nat} {C : String} {T : u_T} {N : Nat} {ss : List aS} (hd : decode cc pc = .ok (.getfield idx, 3)) (hsh : G.2.2.2.2[k]? = some (.inr (ci, ss))) (hc : vwCl[ci]? = some (C, T, N)) (hj : ss[j]? = some (some (some none))) (hN : j < N) (hin : ∀ w ∈ u_ws C T N, w ∈ ws) (hw : Cond.fieldLink y.cls idx (T j).1 (T j).2.1 (T j).2.2.1 ∈ ws) (kk : aX G y cc nL ret ws d mk o (pc + 3) L (.null :: st) S) : aX G y cc nL ret ws d mk o pc L (.ref k :: st) S := by
  intro post hp p e s m args below meth c H locs ls hs hP hS hL
  exact va_get hs.1 hs.2.1 hs.2.2.2.2.2.1 hin hs.2.2.2.2.1 hs.2.2.2.2.2.2.2.1 hP k (a_W_get hsh) hc j hN (hs.2.2.2.2.2.1 _ hw) (fun _ h => h) (a_fs_at hj) hd (kk post hp p e s m args below meth c H locs ls hs hP hS hL)
theorem x_putI {idx k j ci : Nat} {C : String} {T : u_T} {N : Nat} {ss : List aS} {x : Int32} (hd : decode cc pc = .ok (.putfield idx, 3)) (hsh : G.2.2.2.2[k]? = some (.inr (ci, ss))) (hc : vwCl[ci]? = some (C, T, N)) (hj : ss[j]? = some none) (hN : j < N) (hin : ∀ w ∈ u_ws C T N, w ∈ ws) (hw : Cond.fieldLink y.cls idx (T j).1 (T j).2.1 (T j).2.2.1 ∈ ws) (ty0 : Nat → FieldType) (hty : ∀ k, k < N → parseFieldDescriptor (T k).2.2.1 = some (ty0 k)) (hnm : ∀ a, a < N → ∀ b, b < N → a ≠ b → (T a).2.1 ≠ (T b).2.1) (hfin : (T j).2.2.2 = false) (hd2 : parseFieldDescriptor (T j).2.2.1 = some .int) (kk : aX G y cc nL ret ws d mk o (pc + 3) L st (aUi S k j x)) : aX G y cc nL ret ws d mk o pc L (.int x :: .ref k :: st) S := by
  intro post hp p e s m args below meth c H locs ls hs hP hS hL
  exact va_put (v := .int x) (ty := .int) hs.1 hs.2.1 hs.2.2.2.2.2.1 hin ty0 hty hnm hs.2.2.2.2.1 hs.2.2.2.2.2.2.2.1 hP (a_W_D hs.2.2.2.2.2.2.2.2.1 S) hS k (a_W_get hsh) hc j hN (hs.2.2.2.2.2.1 _ hw) (fun _ h => h) hfin hd2 rfl rfl (by rw [List.length_mapIdx]; exact (List.getElem?_eq_some_iff.mp hj).1) hd (fun H1 locs1 hP1 _ hS1 => kk post hp p e s m args below meth c H1 locs1 ls hs (by
      have hset := a_W_set (ty := G.2.2.1) (ρ := G.2.2.2.1) (S := S) (S' := aUi S k j x) (e := .inr (ci, (ss.mapIdx (fun j s => a_val G.2.2.2.1 s (S.1 k j) (S.2 k j))).set j (.int x))) hsh (congrArg (fun z => Sum.inr (ci, z)) (a_fs_set hj (by simp [a_val, aUi_at]) (fun i hi => by exact aUi_ne hi) (fun i hi => by rfl))) (fun q hq => by exact aUi_row hq) (fun q hq => by rfl)
      rw [hset] at hP1
      exact hP1) hS1 hL)
theorem x_putZc {idx k j ci : Nat} {C : String} {T : u_T} {N : Nat} {ss : List aS} {x : Int32} (hd : decode cc pc = .ok (.putfield idx, 3)) (hsh : G.2.2.2.2[k]? = some (.inr (ci, ss))) (hc : vwCl[ci]? = some (C, T, N)) (hj : ss[j]? = some none) (hN : j < N) (hin : ∀ w ∈ u_ws C T N, w ∈ ws) (hw : Cond.fieldLink y.cls idx (T j).1 (T j).2.1 (T j).2.2.1 ∈ ws) (ty0 : Nat → FieldType) (hty : ∀ k, k < N → parseFieldDescriptor (T k).2.2.1 = some (ty0 k)) (hnm : ∀ a, a < N → ∀ b, b < N → a ≠ b → (T a).2.1 ≠ (T b).2.1) (hfin : (T j).2.2.2 = false) (hd2 : parseFieldDescriptor (T j).2.2.1 = some .boolean) (hb : x = 0 ∨ x = 1) (kk : aX G y cc nL ret ws d mk o (pc + 3) L st (aUi S k j x)) : aX G y cc nL ret ws d mk o pc L (.int x :: .ref k :: st) S := by
  intro post hp p e s m args below meth c H locs ls hs hP hS hL
  exact va_put (v := .int x) (ty := .boolean) hs.1 hs.2.1 hs.2.2.2.2.2.1 hin ty0 hty hnm hs.2.2.2.2.1 hs.2.2.2.2.2.2.2.1 hP (a_W_D hs.2.2.2.2.2.2.2.2.1 S) hS k (a_W_get hsh) hc j hN (hs.2.2.2.2.2.1 _ hw) (fun _ h => h) hfin hd2 (a_z01 hb) (by rcases hb with h | h <;> subst h <;> rfl) (by rw [List.length_mapIdx]; exact (List.getElem?_eq_some_iff.mp hj).1) hd (fun H1 locs1 hP1 _ hS1 => kk post hp p e s m args below meth c H1 locs1 ls hs (by
      have hset := a_W_set (ty := G.2.2.1) (ρ := G.2.2.2.1) (S := S) (S' := aUi S k j x) (e := .inr (ci, (ss.mapIdx (fun j s => a_val G.2.2.2.1 s (S.1 k j) (S.2 k j))).set j (.int x))) hsh (congrArg (fun z => Sum.inr (ci, z)) (a_fs_set hj (by simp [a_val, aUi_at]) (fun i hi => by exact aUi_ne hi) (fun i hi => by rfl))) (fun q hq => by exact aUi_row hq) (fun q hq => by rfl)
      rw [hset] at hP1
      exact hP1) hS1 hL)
theorem x_putZ {idx k j ci : Nat} {C : String} {T : u_T} {N : Nat} {ss : List aS} {x : Int32} (hd : decode cc pc = .ok (.putfield idx, 3)) (hsh : G.2.2.2.2[k]? = some (.inr (ci, ss))) (hc : vwCl[ci]? = some (C, T, N)) (hj : ss[j]? = some none) (hN : j < N) (hin : ∀ w ∈ u_ws C T N, w ∈ ws) (hw : Cond.fieldLink y.cls idx (T j).1 (T j).2.1 (T j).2.2.1 ∈ ws) (ty0 : Nat → FieldType) (hty : ∀ k, k < N → parseFieldDescriptor (T k).2.2.1 = some (ty0 k)) (hnm : ∀ a, a < N → ∀ b, b < N → a ≠ b → (T a).2.1 ≠ (T b).2.1) (hfin : (T j).2.2.2 = false) (hd2 : parseFieldDescriptor (T j).2.2.1 = some .boolean) (kk : aX G y cc nL ret ws d mk o (pc + 3) L st (aUi S k j x)) : aX G y cc nL ret ws d mk (if x = 0 ∨ x = 1 then o else none) pc L (.int x :: .ref k :: st) S := by
  by_cases hb : x = 0 ∨ x = 1
  · rw [if_pos hb]
    exact x_putZc hd hsh hc hj hN hin hw ty0 hty hnm hfin hd2 hb kk
  · rw [if_neg hb]
    exact x_none
theorem x_putJ {idx k j ci : Nat} {C : String} {T : u_T} {N : Nat} {ss : List aS} {x : Int64} (hd : decode cc pc = .ok (.putfield idx, 3)) (hsh : G.2.2.2.2[k]? = some (.inr (ci, ss))) (hc : vwCl[ci]? = some (C, T, N)) (hj : ss[j]? = some (some none)) (hN : j < N) (hin : ∀ w ∈ u_ws C T N, w ∈ ws) (hw : Cond.fieldLink y.cls idx (T j).1 (T j).2.1 (T j).2.2.1 ∈ ws) (ty0 : Nat → FieldType) (hty : ∀ k, k < N → parseFieldDescriptor (T k).2.2.1 = some (ty0 k)) (hnm : ∀ a, a < N → ∀ b, b < N → a ≠ b → (T a).2.1 ≠ (T b).2.1) (hfin : (T j).2.2.2 = false) (hd2 : parseFieldDescriptor (T j).2.2.1 = some .long) (kk : aX G y cc nL ret ws d mk o (pc + 3) L st (aUl S k j x)) : aX G y cc nL ret ws d mk o pc L (.long x :: .ref k :: st) S := by
  intro post hp p e s m args below meth c H locs ls hs hP hS hL
  exact va_put (v := .long x) (ty := .long) hs.1 hs.2.1 hs.2.2.2.2.2.1 hin ty0 hty hnm hs.2.2.2.2.1 hs.2.2.2.2.2.2.2.1 hP (a_W_D hs.2.2.2.2.2.2.2.2.1 S) hS k (a_W_get hsh) hc j hN (hs.2.2.2.2.2.1 _ hw) (fun _ h => h) hfin hd2 rfl rfl (by rw [List.length_mapIdx]; exact (List.getElem?_eq_some_iff.mp hj).1) hd (fun H1 locs1 hP1 _ hS1 => kk post hp p e s m args below meth c H1 locs1 ls hs (by
      have hset := a_W_set (ty := G.2.2.1) (ρ := G.2.2.2.1) (S := S) (S' := aUl S k j x) (e := .inr (ci, (ss.mapIdx (fun j s => a_val G.2.2.2.1 s (S.1 k j) (S.2 k j))).set j (.long x))) hsh (congrArg (fun z => Sum.inr (ci, z)) (a_fs_set hj (by simp [a_val, aUl_at]) (fun i hi => by rfl) (fun i hi => by exact aUl_ne hi))) (fun q hq => by rfl) (fun q hq => by exact aUl_row hq)
      rw [hset] at hP1
      exact hP1) hS1 hL)
theorem x_ialdc {k n j : Nat} {i : Int32} (hd : decode cc pc = .ok (.iaload, 1)) (hsh : G.2.2.2.2[k]? = some (.inl (0, n, none))) (hi : vp_in i n) (hj : i.toNatClampNeg = j) (kk : aX G y cc nL ret ws d mk o (pc + 1) L (.int (S.1 k j) :: st) S) : aX G y cc nL ret ws d mk o pc L (.int i :: .ref k :: st) S := by
  subst hj
  intro post hp p e s m args below meth c H locs ls hs hP hS hL
  exact va_iald hs.1 hs.2.1 hs.2.2.2.2.2.2.2.1 hP k 0 (a_W_get hsh) rfl hi hd (kk post hp p e s m args below meth c H locs ls hs hP hS hL)
theorem x_iald {k n : Nat} {i : Int32} (hd : decode cc pc = .ok (.iaload, 1)) (hsh : G.2.2.2.2[k]? = some (.inl (0, n, none))) (kk : aX G y cc nL ret ws d mk o (pc + 1) L (.int (S.1 k i.toNatClampNeg) :: st) S) : aX G y cc nL ret ws d mk (if i < 0 ∨ n ≤ i.toNatClampNeg then none else o) pc L (.int i :: .ref k :: st) S := by
  by_cases hi : i < 0 ∨ n ≤ i.toNatClampNeg
  · rw [if_pos hi]
    exact x_none
  · rw [if_neg hi]
    exact x_ialdc hd hsh hi rfl kk
theorem x_baldc {k n j : Nat} {i : Int32} (hd : decode cc pc = .ok (.baload, 1)) (hsh : G.2.2.2.2[k]? = some (.inl (1, n, none))) (hi : vp_in i n) (hj : i.toNatClampNeg = j) (kk : aX G y cc nL ret ws d mk o (pc + 1) L (.int (S.1 k j) :: st) S) : aX G y cc nL ret ws d mk o pc L (.int i :: .ref k :: st) S := by
  subst hj
  intro post hp p e s m args below meth c H locs ls hs hP hS hL
  exact va_bald hs.1 hs.2.1 hs.2.2.2.2.2.2.2.1 hP k 1 (a_W_get hsh) rfl hi hd (kk post hp p e s m args below meth c H locs ls hs hP hS hL)
theorem x_bald {k n : Nat} {i : Int32} (hd : decode cc pc = .ok (.baload, 1)) (hsh : G.2.2.2.2[k]? = some (.inl (1, n, none))) (kk : aX G y cc nL ret ws d mk o (pc + 1) L (.int (S.1 k i.toNatClampNeg) :: st) S) : aX G y cc nL ret ws d mk (if i < 0 ∨ n ≤ i.toNatClampNeg then none else o) pc L (.int i :: .ref k :: st) S := by
  by_cases hi : i < 0 ∨ n ≤ i.toNatClampNeg
  · rw [if_pos hi]
    exact x_none
  · rw [if_neg hi]
    exact x_baldc hd hsh hi rfl kk
theorem x_zaldc {k n j : Nat} {i : Int32} (hd : decode cc pc = .ok (.baload, 1)) (hsh : G.2.2.2.2[k]? = some (.inl (2, n, none))) (hi : vp_in i n) (hj : i.toNatClampNeg = j) (kk : aX G y cc nL ret ws d mk o (pc + 1) L (.int (S.1 k j) :: st) S) : aX G y cc nL ret ws d mk o pc L (.int i :: .ref k :: st) S := by
  subst hj
  intro post hp p e s m args below meth c H locs ls hs hP hS hL
  exact va_zald hs.1 hs.2.1 hs.2.2.2.2.2.2.2.1 hP k 2 (a_W_get hsh) rfl hi hd (kk post hp p e s m args below meth c H locs ls hs hP hS hL)
theorem x_zald {k n : Nat} {i : Int32} (hd : decode cc pc = .ok (.baload, 1)) (hsh : G.2.2.2.2[k]? = some (.inl (2, n, none))) (kk : aX G y cc nL ret ws d mk o (pc + 1) L (.int (S.1 k i.toNatClampNeg) :: st) S) : aX G y cc nL ret ws d mk (if i < 0 ∨ n ≤ i.toNatClampNeg then none else o) pc L (.int i :: .ref k :: st) S := by
  by_cases hi : i < 0 ∨ n ≤ i.toNatClampNeg
  · rw [if_pos hi]
    exact x_none
  · rw [if_neg hi]
    exact x_zaldc hd hsh hi rfl kk
theorem x_iastc {k n j : Nat} {i x : Int32} (hd : decode cc pc = .ok (.iastore, 1)) (hsh : G.2.2.2.2[k]? = some (.inl (0, n, none))) (hi : vp_in i n) (hj : i.toNatClampNeg = j) (kk : aX G y cc nL ret ws d mk o (pc + 1) L st (aUi S k j x)) : aX G y cc nL ret ws d mk o pc L (.int x :: .int i :: .ref k :: st) S := by
  subst hj
  intro post hp p e s m args below meth c H locs ls hs hP hS hL
  exact va_iast hs.1 hs.2.1 hs.2.2.2.2.2.2.2.1 hP (a_W_D hs.2.2.2.2.2.2.2.2.1 S) hS k 0 (a_W_get hsh) rfl hi hd (fun H1 locs1 hP1 _ hS1 => kk post hp p e s m args below meth c H1 locs1 ls hs (by
      have hset := a_W_set (ty := G.2.2.1) (ρ := G.2.2.2.1) (S := S) (S' := aUi S k i.toNatClampNeg x) (e := .inl (G.2.2.1 0, n, .inl (upd (S.1 k) i.toNatClampNeg x))) hsh (by simp [a_cell, aUi_k]) (fun q hq => aUi_row hq) (fun q hq => rfl)
      rw [hset] at hP1
      exact hP1) hS1 hL)
theorem x_iast {k n : Nat} {i x : Int32} (hd : decode cc pc = .ok (.iastore, 1)) (hsh : G.2.2.2.2[k]? = some (.inl (0, n, none))) (kk : aX G y cc nL ret ws d mk o (pc + 1) L st (aUi S k i.toNatClampNeg x)) : aX G y cc nL ret ws d mk (if i < 0 ∨ n ≤ i.toNatClampNeg then none else o) pc L (.int x :: .int i :: .ref k :: st) S := by
  by_cases hi : i < 0 ∨ n ≤ i.toNatClampNeg
  · rw [if_pos hi]
    exact x_none
  · rw [if_neg hi]
    exact x_iastc hd hsh hi rfl kk
theorem x_bastc {k n j : Nat} {i x : Int32} (hd : decode cc pc = .ok (.bastore, 1)) (hsh : G.2.2.2.2[k]? = some (.inl (1, n, none))) (hi : vp_in i n) (hj : i.toNatClampNeg = j) (kk : aX G y cc nL ret ws d mk o (pc + 1) L st (aUi S k j (vp_nar .byte x))) : aX G y cc nL ret ws d mk o pc L (.int x :: .int i :: .ref k :: st) S := by
  subst hj
  intro post hp p e s m args below meth c H locs ls hs hP hS hL
  exact va_bast hs.1 hs.2.1 hs.2.2.2.2.2.2.2.1 hP (a_W_D hs.2.2.2.2.2.2.2.2.1 S) hS k 1 (a_W_get hsh) rfl hi hd (fun H1 locs1 hP1 _ hS1 => kk post hp p e s m args below meth c H1 locs1 ls hs (by
      have hset := a_W_set (ty := G.2.2.1) (ρ := G.2.2.2.1) (S := S) (S' := aUi S k i.toNatClampNeg (vp_nar .byte x)) (e := .inl (G.2.2.1 1, n, .inl (upd (S.1 k) i.toNatClampNeg (vp_nar .byte x)))) hsh (by simp [a_cell, aUi_k]) (fun q hq => aUi_row hq) (fun q hq => rfl)
      rw [hset] at hP1
      exact hP1) hS1 hL)
theorem x_bast {k n : Nat} {i x : Int32} (hd : decode cc pc = .ok (.bastore, 1)) (hsh : G.2.2.2.2[k]? = some (.inl (1, n, none))) (kk : aX G y cc nL ret ws d mk o (pc + 1) L st (aUi S k i.toNatClampNeg (vp_nar .byte x))) : aX G y cc nL ret ws d mk (if i < 0 ∨ n ≤ i.toNatClampNeg then none else o) pc L (.int x :: .int i :: .ref k :: st) S := by
  by_cases hi : i < 0 ∨ n ≤ i.toNatClampNeg
  · rw [if_pos hi]
    exact x_none
  · rw [if_neg hi]
    exact x_bastc hd hsh hi rfl kk
theorem x_zastc {k n j : Nat} {i x : Int32} (hd : decode cc pc = .ok (.bastore, 1)) (hsh : G.2.2.2.2[k]? = some (.inl (2, n, none))) (hi : vp_in i n) (hj : i.toNatClampNeg = j) (kk : aX G y cc nL ret ws d mk o (pc + 1) L st (aUi S k j (vp_nar .boolean x))) : aX G y cc nL ret ws d mk o pc L (.int x :: .int i :: .ref k :: st) S := by
  subst hj
  intro post hp p e s m args below meth c H locs ls hs hP hS hL
  exact va_zast hs.1 hs.2.1 hs.2.2.2.2.2.2.2.1 hP (a_W_D hs.2.2.2.2.2.2.2.2.1 S) hS k 2 (a_W_get hsh) rfl hi hd (fun H1 locs1 hP1 _ hS1 => kk post hp p e s m args below meth c H1 locs1 ls hs (by
      have hset := a_W_set (ty := G.2.2.1) (ρ := G.2.2.2.1) (S := S) (S' := aUi S k i.toNatClampNeg (vp_nar .boolean x)) (e := .inl (G.2.2.1 2, n, .inl (upd (S.1 k) i.toNatClampNeg (vp_nar .boolean x)))) hsh (by simp [a_cell, aUi_k]) (fun q hq => aUi_row hq) (fun q hq => rfl)
      rw [hset] at hP1
      exact hP1) hS1 hL)
theorem x_zast {k n : Nat} {i x : Int32} (hd : decode cc pc = .ok (.bastore, 1)) (hsh : G.2.2.2.2[k]? = some (.inl (2, n, none))) (kk : aX G y cc nL ret ws d mk o (pc + 1) L st (aUi S k i.toNatClampNeg (vp_nar .boolean x))) : aX G y cc nL ret ws d mk (if i < 0 ∨ n ≤ i.toNatClampNeg then none else o) pc L (.int x :: .int i :: .ref k :: st) S := by
  by_cases hi : i < 0 ∨ n ≤ i.toNatClampNeg
  · rw [if_pos hi]
    exact x_none
  · rw [if_neg hi]
    exact x_zastc hd hsh hi rfl kk
theorem x_aald {k n : Nat} {f : Nat → Option Nat} {g : Nat → Nat} {i : Int32} (hd : decode cc pc = .ok (.aaload, 1)) (hsh : G.2.2.2.2[k]? = some (.inl (3, n, some f))) (hf : ∀ j, f j = some (g j)) (kk : ¬ (i < 0 ∨ n ≤ i.toNatClampNeg) → aX G y cc nL ret ws d mk o (pc + 1) L (.ref (g i.toNatClampNeg) :: st) S) : aX G y cc nL ret ws d mk (if i < 0 ∨ n ≤ i.toNatClampNeg then none else o) pc L (.int i :: .ref k :: st) S := by
  by_cases hi : i < 0 ∨ n ≤ i.toNatClampNeg
  · rw [if_pos hi]
    exact x_none
  · rw [if_neg hi]
    intro post hp p e s m args below meth c H locs ls hs hP hS hL
    refine va_aldq hs.1 hs.2.1 hs.2.2.2.2.2.2.2.1 hP k 3 (a_W_get hsh) rfl hi hd ?_
    have h := kk hi post hp p e s m args below meth c H locs ls hs hP hS hL
    show W _ _ _ _ _ _ _ _ _ _ _ _ _ _ _ (F0 m (pc + 1) ls (va_rf ((f i.toNatClampNeg).map G.2.2.2.1) :: _))
    rw [hf]
    exact h
theorem x_alen {k t n : Nat} {f : Option (Nat → Option Nat)} {v : Int32} {tt : FieldType} (hd : decode cc pc = .ok (.arraylength, 1)) (hsh : G.2.2.2.2[k]? = some (.inl (t, n, f))) (ht : (a_tys G.2.2.1)[t]? = some (G.2.2.1 t, tt)) (hv : Int32.ofNat n = v) (kk : aX G y cc nL ret ws d mk o (pc + 1) L (.int v :: st) S) : aX G y cc nL ret ws d mk o pc L (.ref k :: st) S := by
  intro post hp p e s m args below meth c H locs ls hs hP hS hL
  cases f with
  | none => exact va_alen hs.1 hs.2.1 hs.2.2.2.2.2.2.2.1 hP k t (a_W_get hsh) ht hv hd (kk post hp p e s m args below meth c H locs ls hs hP hS hL)
  | some f => exact va_alen hs.1 hs.2.1 hs.2.2.2.2.2.2.2.1 hP k t (a_W_get hsh) ht hv hd (kk post hp p e s m args below meth c H locs ls hs hP hS hL)
theorem x_gets {idx t : Nat} {nm : String} (hd : decode cc pc = .ok (.getstatic idx, 3)) (ht : t < 3) (hnm : a_tabN.getD t "" = nm) (hw : Cond.fieldLink y.cls idx "FellTree" nm "[I" ∈ ws) (kk : aX G y cc nL ret ws d mk o (pc + 3) L (.ref (3000 + t) :: st) S) : aX G y cc nL ret ws d mk o pc L st S := by
  subst hnm
  intro post hp p e s m args below meth c H locs ls hs hP hS hL
  exact va_gets hs.1 hs.2.1 (hs.2.2.2.2.2.2.2.2.2.2.2.2.2.1 t ht).1 hS hs.2.2.2.2.1 (hs.2.2.2.2.2.1 _ hw) (fun _ h => h) hd (kk post hp p e s m args below meth c H locs ls hs hP hS hL)
theorem x_tald {t n : Nat} {i : Int32} {f : Nat → Int32} (hd : decode cc pc = .ok (.iaload, 1)) (ht : t < 3) (hn : (a_tab.getD t []).length = n) (hf : ∀ j, (a_tab.getD t []).getD j 0 = f j) (kk : aX G y cc nL ret ws d mk o (pc + 1) L (.int (f i.toNatClampNeg) :: st) S) : aX G y cc nL ret ws d mk (if i < 0 ∨ n ≤ i.toNatClampNeg then none else o) pc L (.int i :: .ref (3000 + t) :: st) S := by
  subst hn
  by_cases hi : i < 0 ∨ (a_tab.getD t []).length ≤ i.toNatClampNeg
  · rw [if_pos hi]
    exact x_none
  · rw [if_neg hi]
    intro post hp p e s m args below meth c H locs ls hs hP hS hL
    exact va_ti hs.1 hs.2.1 (hs.2.2.2.2.2.2.2.2.2.2.2.2.2.1 t ht).2 hS hi (congrArg Value.int (hf _)) hd (kk post hp p e s m args below meth c H locs ls hs hP hS hL)
theorem x_getCS {idx : Nat} (hd : decode cc pc = .ok (.getstatic idx, 3)) (hw : Cond.fieldLink y.cls idx "java/lang/String" "COMPACT_STRINGS" "Z" ∈ ws) (kk : aX G y cc nL ret ws d mk o (pc + 3) L (.int 1 :: st) S) : aX G y cc nL ret ws d mk o pc L st S := by
  intro post hp p e s m args below meth c H locs ls hs hP hS hL
  exact va_gets hs.1 hs.2.1 hs.2.2.2.2.2.2.2.2.2.2.2.1 hS hs.2.2.2.2.1 (hs.2.2.2.2.2.1 _ hw) (fun _ h => h) hd (kk post hp p e s m args below meth c H locs ls hs hP hS hL)
theorem x_getSc {idx i : Nat} (hd : decode cc pc = .ok (.getfield idx, 3)) (hi : i < 13) (hw : Cond.fieldLink y.cls idx "java/lang/String" "coder" "B" ∈ ws) (kk : aX G y cc nL ret ws d mk o (pc + 3) L (.int 0 :: st) S) : aX G y cc nL ret ws d mk o pc L (.ref (1000 + i) :: st) S := by
  intro post hp p e s m args below meth c H locs ls hs hP hS hL
  exact vk_getf hs.1 hs.2.1 (hs.2.2.2.2.2.2.2.2.2.1.1 i hi).2.1 hS hs.2.2.2.2.1 (hs.2.2.2.2.2.1 _ hw) (fun _ h => h) hd (kk post hp p e s m args below meth c H locs ls hs hP hS hL)
theorem x_getSv {idx i : Nat} (hd : decode cc pc = .ok (.getfield idx, 3)) (hi : i < 13) (hw : Cond.fieldLink y.cls idx "java/lang/String" "value" "[B" ∈ ws) (kk : aX G y cc nL ret ws d mk o (pc + 3) L (.ref (2000 + i) :: st) S) : aX G y cc nL ret ws d mk o pc L (.ref (1000 + i) :: st) S := by
  intro post hp p e s m args below meth c H locs ls hs hP hS hL
  exact vk_getf hs.1 hs.2.1 (hs.2.2.2.2.2.2.2.2.2.1.1 i hi).2.2.1 hS hs.2.2.2.2.1 (hs.2.2.2.2.2.1 _ hw) (fun _ h => h) hd (kk post hp p e s m args below meth c H locs ls hs hP hS hL)
theorem x_blen {i : Nat} (hd : decode cc pc = .ok (.arraylength, 1)) (hi : i < 13) (kk : aX G y cc nL ret ws d mk o (pc + 1) L (.int (Int32.ofNat (a_strL.getD i 0)) :: st) S) : aX G y cc nL ret ws d mk o pc L (.ref (2000 + i) :: st) S := by
  intro post hp p e s m args below meth c H locs ls hs hP hS hL
  exact va_tlen hs.1 hs.2.1 (hs.2.2.2.2.2.2.2.2.2.1.1 i hi).2.2.2 hS rfl hd (kk post hp p e s m args below meth c H locs ls hs hP hS hL)
theorem x_bld {i : Nat} {j : Int32} (hd : decode cc pc = .ok (.baload, 1)) (hi : i < 13) (kk : aX G y cc nL ret ws d mk o (pc + 1) L (.int ((a_strB.getD i []).getD j.toNatClampNeg 0) :: st) S) : aX G y cc nL ret ws d mk (if j < 0 ∨ a_strL.getD i 0 ≤ j.toNatClampNeg then none else o) pc L (.int j :: .ref (2000 + i) :: st) S := by
  by_cases hj : j < 0 ∨ a_strL.getD i 0 ≤ j.toNatClampNeg
  · rw [if_pos hj]
    exact x_none
  · rw [if_neg hj]
    intro post hp p e s m args below meth c H locs ls hs hP hS hL
    exact va_tb hs.1 hs.2.1 (hs.2.2.2.2.2.2.2.2.2.1.1 i hi).2.2.2 hS hj rfl hd (kk post hp p e s m args below meth c H locs ls hs hP hS hL)
end AROWS2

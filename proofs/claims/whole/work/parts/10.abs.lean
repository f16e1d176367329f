/-! THE ABSTRACT MACHINE. A system's world is a fixed list of cells (sh), at addresses rho 0, rho 1 ..; what changes is what the int slots (S.1 cell slot) and the long slots (S.2 cell slot) hold. 'aX .. o pc L st S': from here the method comes to the outcome o (none: nothing is said). -/
abbrev aSt : Type := (Nat → Nat → Int32) × (Nat → Nat → Int64)
abbrev aS : Type := Option (Option (Option Nat))
abbrev aC : Type := (Nat × Nat × Option (Nat → Option Nat)) ⊕ (Nat × List aS)
abbrev aG : Type := Launch × va_G × (Nat → ClassId) × (Nat → Nat) × List aC
def a_v (ρ : Nat → Nat) : Value → Value
  | .ref k => .ref (ρ k)
  | v => v
theorem a_v_cat (ρ : Nat → Nat) (v : Value) : (a_v ρ v).category = v.category := by cases v <;> rfl
def a_val (ρ : Nat → Nat) (s : aS) (i : Int32) (j : Int64) : Value := match s with
  | none => .int i
  | some none => .long j
  | some (some r) => va_rf (r.map ρ)
def a_cell (ty : Nat → ClassId) (ρ : Nat → Nat) (c : aC) (k : Nat) (S : aSt) : va_E := match c with
  | .inl (t, n, none) => .inl (ty t, n, .inl (S.1 k))
  | .inl (t, n, some f) => .inl (ty t, n, .inr (.inr (.inr (.inr (fun j => (f j).map ρ)))))
  | .inr (ci, ss) => .inr (ci, ss.mapIdx (fun j s => a_val ρ s (S.1 k j) (S.2 k j)))
def a_W (ty : Nat → ClassId) (ρ : Nat → Nat) (sh : List aC) (S : aSt) : va_W := sh.mapIdx (fun k c => (ρ k, a_cell ty ρ c k S))
def aRow (S : aSt) (k : Nat) (f : Nat → Int32) : aSt := (va_up S.1 k f, S.2)
def aUi (S : aSt) (k j : Nat) (x : Int32) : aSt := (va_up S.1 k (upd (S.1 k) j x), S.2)
def aUl (S : aSt) (k j : Nat) (x : Int64) : aSt := (S.1, va_up S.2 k (vp_updL (S.2 k) j x))
def a_tys (ty : Nat → ClassId) : List (ClassId × FieldType) := [(ty 0, .int), (ty 1, .byte), (ty 2, .boolean), (ty 3, .object "FellTree$Tree")]
def a_A (ρ : Nat → Nat) (n sz : Nat) : Nat → Prop := fun q => (∃ k, k < n ∧ q = ρ k) ∨ sz ≤ q
def a_Inj (ρ : Nat → Nat) (n : Nat) : Prop := ∀ i j : Nat, i < n → j < n → ρ i = ρ j → i = j
theorem a_W_get {ty : Nat → ClassId} {ρ : Nat → Nat} {sh : List aC} {S : aSt} {k : Nat} {c : aC} (h : sh[k]? = some c) : (a_W ty ρ sh S)[k]? = some (ρ k, a_cell ty ρ c k S) := by
  simp [a_W, List.getElem?_mapIdx, h]
theorem a_W_at {ty : Nat → ClassId} {ρ : Nat → Nat} {sh : List aC} {S : aSt} {k : Nat} {q : Nat × va_E} (h : (a_W ty ρ sh S)[k]? = some q) : k < sh.length ∧ q.1 = ρ k := by
  simp only [a_W, List.getElem?_mapIdx] at h
  cases hc : sh[k]? with
  | none => simp [hc] at h
  | some c =>
    rw [hc] at h
    have h2 := Option.some.inj h
    exact ⟨(List.getElem?_eq_some_iff.mp hc).1, by rw [← h2]⟩
theorem a_W_D {ty : Nat → ClassId} {ρ : Nat → Nat} {sh : List aC} {sz : Nat} (hi : a_Inj ρ sh.length) (S : aSt) : va_D (a_A ρ sh.length sz) (a_W ty ρ sh S) := by
  refine ⟨fun i j p q hp hq e => ?_, fun k q hk => ?_⟩
  · obtain ⟨h1, h2⟩ := a_W_at hp
    obtain ⟨h3, h4⟩ := a_W_at hq
    exact hi i j h1 h3 (by rw [← h2, ← h4]; exact e)
  · obtain ⟨h1, h2⟩ := a_W_at hk
    exact Or.inl ⟨k, h1, h2⟩
theorem a_cell_eq {ty : Nat → ClassId} {ρ : Nat → Nat} {c : aC} {k : Nat} {S S' : aSt} (h1 : S'.1 k = S.1 k) (h2 : S'.2 k = S.2 k) : a_cell ty ρ c k S' = a_cell ty ρ c k S := by
  rcases c with ⟨t, n, f⟩ | ⟨ci, ss⟩
  · cases f with
    | none => simp [a_cell, h1]
    | some f => rfl
  · simp [a_cell, h1, h2]
theorem a_W_set {ty : Nat → ClassId} {ρ : Nat → Nat} {sh : List aC} {S S' : aSt} {k : Nat} {c : aC} {e : va_E} (h : sh[k]? = some c) (he : e = a_cell ty ρ c k S') (h1 : ∀ q, q ≠ k → S'.1 q = S.1 q) (h2 : ∀ q, q ≠ k → S'.2 q = S.2 q) : (a_W ty ρ sh S).set k (ρ k, e) = a_W ty ρ sh S' := by
  subst he
  apply List.ext_getElem?
  intro q
  rw [List.getElem?_set]
  by_cases hq : k = q
  · subst hq
    have hl : k < (a_W ty ρ sh S).length := by
      have := (List.getElem?_eq_some_iff.mp h).1
      simpa [a_W] using this
    rw [if_pos rfl, if_pos hl, a_W_get h]
  · rw [if_neg hq]
    simp only [a_W, List.getElem?_mapIdx]
    cases hc : sh[q]? with
    | none => rfl
    | some c' =>
      show some (ρ q, a_cell ty ρ c' q S) = some (ρ q, a_cell ty ρ c' q S')
      rw [a_cell_eq (h1 q (fun e => hq e.symm)) (h2 q (fun e => hq e.symm))]
/-! what stays: the String constants, the static tables -/
def a_strL : List Nat := [4, 5, 4, 3, 4, 10, 6, 3, 5, 6, 4, 5, 5]
def a_strB : List (List Int32) := [[104, 111, 108, 100], [115, 112, 108, 105, 116], [114, 111, 112, 101], [105, 110, 100], [101, 100, 103, 101], [48, 49, 50, 51, 52, 53, 54, 55, 56, 57], [116, 107, 104, 108, 111, 119], [60, 61, 62], [104, 111, 108, 100, 32], [115, 112, 108, 105, 116, 32], [105, 110, 100, 32], [101, 100, 103, 101, 32], [114, 111, 112, 101, 32]]
def a_strR : List (String × Nat × String × Nat) := [("FellTree$Reader", 83, "hold", 0), ("FellTree$Reader", 89, "split", 1), ("FellTree$Reader", 91, "rope", 2), ("FellTree$Reader", 92, "ind", 3), ("FellTree$Reader", 94, "edge", 4), ("FellTree$Reader", 96, "0123456789", 5), ("FellTree$Reader", 115, "tkhlow", 6), ("FellTree$Reader", 117, "<=>", 7), ("FellTreeModel", 105, "hold ", 8), ("FellTreeModel", 111, "split ", 9), ("FellTreeModel", 113, "ind ", 10), ("FellTreeModel", 115, "edge ", 11), ("FellTreeModel", 120, "rope ", 12), ("FellTreeModel", 87, "tkhlow", 6), ("FellTreeModel", 93, "<=>", 7)]
def a_tab : List (List Int32) := [[-1, 0, 0, 0, 1, 2, 3], [-1, -1, 0, 1, 1, 1, 0, -1], [0, 1, 1, 1, 0, -1, -1, -1]]
def a_tabN : List String := ["KIND_ABOVE", "ROWS_ON", "COLUMNS_ON"]
def a_nest : List (String × Nat × MethodName × String) := [("FellTree$Course", 133, yX6_nextPlace, "FellTree"), ("FellTree$Course", 70, yX6_alongOf, "FellTree"), ("FellTree$Course", 79, yX6_sideOf, "FellTree"), ("FellTree$Ground", 66, yX6_outside, "FellTree"), ("FellTree$Ground", 77, yX6_bitOf, "FellTree"), ("FellTree$Ground", 32, yX4_init, "FellTree"), ("FellTree", 20, yX3_init, "FellTree"), ("FellTree", 27, yX1_init, "FellTree"), ("FellTree", 34, yX0_init, "FellTree"), ("FellTree", 41, yX4_init, "FellTree")]
def a_Amb (ρ : Nat → Nat) (A : Nat → Prop) (U : State) (H : Heap) : Prop :=
  vk_S 13 a_strL a_strB (fun i => ρ (1000 + i)) (fun i => ρ (2000 + i)) A U H ∧ (∀ q ∈ a_strR, vk_R q.1 q.2.1 q.2.2.1 (ρ (1000 + q.2.2.2)) U) ∧ va_Z "java/lang/String" "COMPACT_STRINGS" "Z" (.int 1) A U H ∧ (va_Z "jdk/internal/util/Preconditions" "SIOOBE_FORMATTER" "Ljava/util/function/BiFunction;" .null A U H ∨ va_Z "jdk/internal/util/Preconditions" "SIOOBE_FORMATTER" "Ljava/util/function/BiFunction;" (.ref (ρ 3003)) A U H) ∧
  (∀ t : Nat, t < 3 → va_Z "FellTree" (a_tabN.getD t "") "[I" (.ref (ρ (3000 + t))) A U H ∧ va_T .int (ρ (3000 + t)) (a_tab.getD t []).length (fun j => .int ((a_tab.getD t []).getD j 0)) A U H) ∧ ∀ q ∈ a_nest, va_Nw (.methodLinkNest q.1 q.2.1 q.2.2.1 q.2.2.2) U
theorem a_Amb.warm {ρ : Nat → Nat} {A : Nat → Prop} {s U : State} {H : Heap} (hW : s.WarmedH U.vm) (h : a_Amb ρ A s H) : a_Amb ρ A U H :=
  ⟨vk_S.moved hW.alike h.1, fun q hq => vk_R.warm hW (h.2.1 q hq), va_Z.moved hW.alike h.2.2.1, h.2.2.2.1.imp (va_Z.moved hW.alike) (va_Z.moved hW.alike), fun t ht => ⟨va_Z.moved hW.alike (h.2.2.2.2.1 t ht).1, va_T.moved hW.alike (h.2.2.2.2.1 t ht).2⟩, fun q hq => va_Nw.warmM hW (h.2.2.2.2.2 q hq)⟩
theorem a_Amb.same {ρ : Nat → Nat} {A : Nat → Prop} {s U : State} {H : Heap} (hv : U.vm = s.vm) (h : a_Amb ρ A s H) : a_Amb ρ A U H := by
  have hA : s.vm.Alike U.vm := by rw [hv]; exact Vm.Alike.refl _
  exact ⟨vk_S.moved hA h.1, fun q hq => vk_R.same hv (h.2.1 q hq), va_Z.moved hA h.2.2.1, h.2.2.2.1.imp (va_Z.moved hA) (va_Z.moved hA), fun t ht => ⟨va_Z.moved hA (h.2.2.2.2.1 t ht).1, va_T.moved hA (h.2.2.2.2.1 t ht).2⟩, fun q hq => va_Nw.same rfl hv.symm (h.2.2.2.2.2 q hq)⟩
theorem a_Amb.kept {ρ : Nat → Nat} {A : Nat → Prop} {U : State} {H H1 : Heap} (h : a_Amb ρ A U H) (hq : ∀ a : Nat, a < H.size → ¬ A a → H1[a]? = H[a]?) : a_Amb ρ A U H1 :=
  ⟨h.1.kept hq, h.2.1, h.2.2.1.kept hq, h.2.2.2.1.imp (fun z => z.kept hq) (fun z => z.kept hq), fun t ht => ⟨(h.2.2.2.2.1 t ht).1.kept hq, (h.2.2.2.2.1 t ht).2.kept hq⟩, h.2.2.2.2.2⟩
theorem a_Amb.narrow {ρ : Nat → Nat} {A B : Nat → Prop} {U : State} {H : Heap} (h : a_Amb ρ A U H) (hAB : ∀ q, B q → A q) : a_Amb ρ B U H :=
  ⟨h.1.narrow hAB, h.2.1, h.2.2.1.narrow hAB, h.2.2.2.1.imp (fun z => z.narrow hAB) (fun z => z.narrow hAB), fun t ht => ⟨(h.2.2.2.2.1 t ht).1.narrow hAB, (h.2.2.2.2.1 t ht).2.narrow hAB⟩, h.2.2.2.2.2⟩
/-! locals -/
def a_L (ls : Array Slot) (nL : Nat) (ρ : Nat → Nat) (L : List (Option Value)) : Prop := ls.size = nL ∧ lv_wf ls ∧ ∀ (i : Nat) (v : Value), L[i]? = some (some v) → ls[i]? = some (.val (a_v ρ v))
def a_al (ρ : Nat → Nat) (L : List (Option Value)) : List (Nat × Value) := L.zipIdx.filterMap (fun q => q.1.map (fun v => (q.2, a_v ρ v)))
theorem a_al_mem {ρ : Nat → Nat} {L : List (Option Value)} {q : Nat × Value} (h : q ∈ a_al ρ L) : ∃ v, L[q.1]? = some (some v) ∧ q.2 = a_v ρ v := by
  obtain ⟨⟨a, i⟩, h1, h2⟩ := List.mem_filterMap.mp h
  have h3 : L[i]? = some a := by simpa using List.mem_zipIdx_iff_getElem?.mp h1
  cases a with
  | none => simp at h2
  | some v =>
    simp only [Option.map_some, Option.some.injEq] at h2
    rw [← h2]
    exact ⟨v, h3, rfl⟩
theorem a_al_in {ρ : Nat → Nat} {L : List (Option Value)} {i : Nat} {v : Value} (h : L[i]? = some (some v)) : (i, a_v ρ v) ∈ a_al ρ L :=
  List.mem_filterMap.mpr ⟨(some v, i), List.mem_zipIdx_iff_getElem?.mpr (by simpa using h), rfl⟩
theorem a_L_has {ls : Array Slot} {nL : Nat} {ρ : Nat → Nat} {L : List (Option Value)} (h : a_L ls nL ρ L) : lv_has ls nL (a_al ρ L) :=
  ⟨h.1, h.2.1, fun q hq => by obtain ⟨v, h1, h2⟩ := a_al_mem hq; rw [h2]; exact h.2.2 _ _ h1⟩
/-- no long or double stands just ahead of i -/
def aOk1 (L : List (Option Value)) (i : Nat) : Bool := match i with
  | 0 => true
  | i + 1 => match L[i]? with
    | some (some v) => v.category == 1
    | _ => true
theorem a_L_set1 {ls : Array Slot} {nL : Nat} {ρ : Nat → Nat} {L : List (Option Value)} {i : Nat} {v : Value} (hok : aOk1 L i = true) (h : lv_has ls nL ((i, a_v ρ v) :: (a_al ρ L).filter (fun q => !(q.1 == i) && !(q.1 + 1 == i && q.2.category == 2)))) : a_L ls nL ρ (L.set i (some v)) := by
  refine ⟨h.1, h.2.1, fun j w hj => ?_⟩
  rw [List.getElem?_set] at hj
  by_cases hij : i = j
  · subst hij
    by_cases hl : i < L.length
    · rw [if_pos rfl, if_pos hl] at hj
      cases hj
      exact h.2.2 _ List.mem_cons_self
    · rw [if_pos rfl, if_neg hl] at hj
      cases hj
  · rw [if_neg hij] at hj
    refine h.2.2 (j, a_v ρ w) (List.mem_cons_of_mem _ (List.mem_filter.mpr ⟨a_al_in hj, ?_⟩))
    have h1 : (j == i) = false := by simpa using fun e => hij e.symm
    by_cases h2 : j + 1 = i
    · subst h2
      have h3 : w.category = 1 := by
        have := hok
        simp only [aOk1, hj] at this
        simpa using this
      simp [a_v_cat, h3]
    · simp [h1, h2]
theorem a_L_set2 {ls : Array Slot} {nL : Nat} {ρ : Nat → Nat} {L : List (Option Value)} {i : Nat} {v : Value} (hok : aOk1 L i = true) (h : lv_has ls nL ((i, a_v ρ v) :: (a_al ρ L).filter (fun q => !(q.1 == i) && (!(q.1 == i + 1) && !(q.1 + 1 == i && q.2.category == 2))))) : a_L ls nL ρ ((L.set i (some v)).set (i + 1) none) := by
  refine ⟨h.1, h.2.1, fun j w hj => ?_⟩
  rw [List.getElem?_set] at hj
  by_cases hij1 : i + 1 = j
  · rw [if_pos hij1] at hj
    split at hj <;> cases hj
  · rw [if_neg hij1, List.getElem?_set] at hj
    by_cases hij : i = j
    · subst hij
      by_cases hl : i < L.length
      · rw [if_pos rfl, if_pos hl] at hj
        cases hj
        exact h.2.2 _ List.mem_cons_self
      · rw [if_pos rfl, if_neg hl] at hj
        cases hj
    · rw [if_neg hij] at hj
      refine h.2.2 (j, a_v ρ w) (List.mem_cons_of_mem _ (List.mem_filter.mpr ⟨a_al_in hj, ?_⟩))
      have h1 : (j == i) = false := by simpa using fun e => hij e.symm
      have h1' : (j == i + 1) = false := by simpa using fun e => hij1 e.symm
      by_cases h2 : j + 1 = i
      · subst h2
        have h3 : w.category = 1 := by
          have := hok
          simp only [aOk1, hj] at this
          simpa using this
        simp [a_v_cat, h3, h1']
      · simp [h1, h1', h2]
def aLe : List (Option Value) → List (Option Value) → Prop
  | [], _ => True
  | none :: a, _ :: b => aLe a b
  | some v :: a, w :: b => w = some v ∧ aLe a b
  | none :: a, [] => aLe a []
  | some _ :: _, [] => False
theorem aLe_at : ∀ {A B : List (Option Value)}, aLe A B → ∀ (i : Nat) (v : Value), A[i]? = some (some v) → B[i]? = some (some v) := by
  intro A
  induction A with
  | nil => intro B _ i v h; simp at h
  | cons a A ih =>
    intro B h i v hv
    cases B with
    | nil =>
      cases a with
      | none =>
        cases i with
        | zero => simp at hv
        | succ i => exact absurd (ih (B := []) h i v (by simpa using hv)) (by simp)
      | some w => exact h.elim
    | cons b B =>
      cases a with
      | none =>
        cases i with
        | zero => simp at hv
        | succ i => simpa using ih (B := B) h i v (by simpa using hv)
      | some w =>
        cases i with
        | zero =>
          have e : w = v := by simpa using hv
          simp [h.1, e]
        | succ i => simpa using ih (B := B) h.2 i v (by simpa using hv)
theorem a_L_le {ls : Array Slot} {nL : Nat} {ρ : Nat → Nat} {L L' : List (Option Value)} (hle : aLe L' L) (h : a_L ls nL ρ L) : a_L ls nL ρ L' := ⟨h.1, h.2.1, fun i v hv => h.2.2 i v (aLe_at hle i v hv)⟩
/-! the judgement -/
def a_room (d : Nat) : Room := { frames := d, cells := 0, slots := 0, locals := 40 * d }
def a_Std (G : aG) (y : MethodName) (cc : ByteArray) (nL : Nat) (ret : Option FieldType) (ws : List Cond) (p : Program) (s : State) (m : MethodId) (args : Array Value) (meth : Method) (c : Code) : Prop :=
  p.tables.exec = Jvm.exec ∧ c.code = cc ∧ meth.sig.returnType = ret ∧ c.maxLocals = nL ∧ s.vm.findClass y.cls = some m.cls ∧ (∀ w ∈ ws, w.before args s = true) ∧ meth.locks = false ∧ va_K G.2.1 vwCl (a_tys G.2.2.1) s ∧ a_Inj G.2.2.2.1 G.2.2.2.2.length ∧ a_Amb G.2.2.2.1 (a_A G.2.2.2.1 G.2.2.2.2.length s.heap.size) s s.heap
abbrev a_H (G : aG) (S : aSt) (H : Heap) : Prop := va_P G.2.1 vwCl (a_W G.2.2.1 G.2.2.2.1 G.2.2.2.2 S) H
def a_Q {α : Type} (G : aG) (mk : α → Option Value) (post : α → aSt → Prop) (sz : Nat) : Array Value → State → Outcome → State → Prop := fun _ st oc t => (∃ (r : α) (S : aSt), oc = .returned ((mk r).map (a_v G.2.2.2.1)) ∧ post r S ∧ a_H G S t.heap) ∧ va_F (a_A G.2.2.2.1 G.2.2.2.2.length sz) st t
def aX {α : Type} (G : aG) (y : MethodName) (cc : ByteArray) (nL : Nat) (ret : Option FieldType) (ws : List Cond) (d : Nat) (mk : α → Option Value) (o : Option (α × aSt)) (pc : Nat) (L : List (Option Value)) (st : List Value) (S : aSt) : Prop :=
  ∀ post : α → aSt → Prop, (∃ (r : α) (S' : aSt), o = some (r, S') ∧ post r S') → ∀ (p : Program) (e : Env) (s : State) (m : MethodId) (args : Array Value) (below : List Frame) (meth : Method) (c : Code) (H : Heap) (locs : List Loc) (ls : Array Slot),
    a_Std G y cc nL ret ws p s m args meth c → a_H G S H → va_S (a_A G.2.2.2.1 G.2.2.2.2.length s.heap.size) s.heap H locs → a_L ls nL G.2.2.2.1 L →
    W p G.1 e (a_room d) s m args below meth c H locs 0 0 (MQ below (a_Q G mk post s.heap.size) args s 0 0 (a_A G.2.2.2.1 G.2.2.2.2.length s.heap.size)) (F0 m pc ls (st.map (a_v G.2.2.2.1)))
def aMet {α : Type} (G : aG) (y : MethodName) (ws : List Cond) (d : Nat) (mk : α → Option Value) (o : Option (α × aSt)) (As : List Value) (S : aSt) : Prop :=
  ∀ post : α → aSt → Prop, (∃ (r : α) (S' : aSt), o = some (r, S') ∧ post r S') → ∀ sz : Nat,
    Met G.1 y ws (a_room d) (va_Pc (As.map (a_v G.2.2.2.1)) (fun U => U.heap.size = sz ∧ a_H G S U.heap ∧ va_K G.2.1 vwCl (a_tys G.2.2.1) U ∧ a_Inj G.2.2.2.1 G.2.2.2.2.length ∧ a_Amb G.2.2.2.1 (a_A G.2.2.2.1 G.2.2.2.2.length sz) U U.heap)) (a_Q G mk post sz) 0 0 (a_A G.2.2.2.1 G.2.2.2.2.length sz)
def mk_i (r : Int32) : Option Value := some (.int r)
def mk_l (r : Int64) : Option Value := some (.long r)
def mk_v (_ : Unit) : Option Value := none
def mk_r (r : Option Nat) : Option Value := some (va_rf r)

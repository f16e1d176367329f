/-! THE TWO SYSTEMS' WORLDS, as the constructors leave them -/
def grSh (g : Nat) : List aC := [.inr (2, aGrS g), .inl (1, 100, none), .inl (0, 6, none), .inr (5, aWdS (g + 3)), .inl (0, 10, none), .inl (0, 10, none), .inl (0, 10, none), .inl (0, 100, none), .inl (3, 6, some (fun j => some (g + 9 + 2 * j))), .inr (4, aTrS (g + 9)), .inl (0, 6, none), .inr (4, aTrS (g + 11)), .inl (0, 6, none), .inr (4, aTrS (g + 13)), .inl (0, 6, none), .inr (4, aTrS (g + 15)), .inl (0, 6, none), .inr (4, aTrS (g + 17)), .inl (0, 6, none), .inr (4, aTrS (g + 19)), .inl (0, 6, none)]
def xshA (K : Option Nat) : List aC := [.inr (6, [some (some (some 1)), some (some (some 22)), some (some (some 29)), some (some (some 30)), some (some (some 32)), some (some K)]), .inr (2, aGrS 1), .inl (1, 100, none), .inl (0, 6, none), .inr (5, aWdS 4), .inl (0, 10, none), .inl (0, 10, none), .inl (0, 10, none), .inl (0, 100, none), .inl (3, 6, some (fun j => some (1 + 9 + 2 * j))), .inr (4, aTrS 10), .inl (0, 6, none), .inr (4, aTrS 12), .inl (0, 6, none), .inr (4, aTrS 14), .inl (0, 6, none), .inr (4, aTrS 16), .inl (0, 6, none), .inr (4, aTrS 18), .inl (0, 6, none), .inr (4, aTrS 20), .inl (0, 6, none), .inr (3, [some (some (some 23)), some (some (some 28)), none, none]), .inr (5, aWdS 23), .inl (0, 10, none), .inl (0, 10, none), .inl (0, 10, none), .inl (0, 100, none), .inl (1, 100, none), .inr (1, [none, none, none, none, none, none, none, some none, none, none]), .inr (0, [some (some (some 31)), none]), .inl (0, 20, none), .inr (4, aTrS 32), .inl (0, 6, none)]
def xshB : List aC := [.inr (2, aGrS 34), .inl (1, 100, none), .inl (0, 6, none), .inr (5, aWdS 37), .inl (0, 10, none), .inl (0, 10, none), .inl (0, 10, none), .inl (0, 100, none), .inl (3, 6, some (fun j => some (34 + 9 + 2 * j))), .inr (4, aTrS 43), .inl (0, 6, none), .inr (4, aTrS 45), .inl (0, 6, none), .inr (4, aTrS 47), .inl (0, 6, none), .inr (4, aTrS 49), .inl (0, 6, none), .inr (4, aTrS 51), .inl (0, 6, none), .inr (4, aTrS 53), .inl (0, 6, none)]
def xsh (K : Option Nat) : List aC := match K with
  | none => xshA none
  | some k => xshA (some k) ++ xshB
def msh : List aC := [.inr (7, aMoS), .inl (0, 979, none), .inl (0, 979, none), .inl (0, 6, none), .inl (2, 64, none), .inl (0, 36, none), .inl (0, 6, none), .inl (0, 6, none), .inl (0, 20, none)]
theorem aTr_rfl {G : aG} {t : Nat} (h1 : G.2.2.2.2[t]? = some (.inr (4, aTrS t))) (h2 : G.2.2.2.2[t + 1]? = some (.inl (0, 6, none))) : aTr G t := ⟨h1, h2⟩
theorem xsh_none {l : Launch} {D : va_G} {ty : Nat → ClassId} {ρ : Nat → Nat} : aFt (l, D, ty, ρ, xsh none) none := by
  refine ⟨rfl, ⟨rfl, rfl, rfl, ⟨rfl, rfl, rfl, rfl, rfl⟩, rfl, fun j hj => ?_⟩, ⟨rfl, ⟨rfl, rfl, rfl, rfl, rfl⟩, rfl⟩, rfl, ⟨rfl, rfl⟩, ⟨rfl, rfl⟩, fun k h => by cases h⟩
  match j, hj with
  | 0, _ => exact ⟨rfl, rfl⟩
  | 1, _ => exact ⟨rfl, rfl⟩
  | 2, _ => exact ⟨rfl, rfl⟩
  | 3, _ => exact ⟨rfl, rfl⟩
  | 4, _ => exact ⟨rfl, rfl⟩
  | 5, _ => exact ⟨rfl, rfl⟩
  | n + 6, h => exact absurd h (by omega)
theorem xsh_some {l : Launch} {D : va_G} {ty : Nat → ClassId} {ρ : Nat → Nat} : aFt (l, D, ty, ρ, xsh (some 34)) (some 34) := by
  refine ⟨rfl, ⟨rfl, rfl, rfl, ⟨rfl, rfl, rfl, rfl, rfl⟩, rfl, fun j hj => ?_⟩, ⟨rfl, ⟨rfl, rfl, rfl, rfl, rfl⟩, rfl⟩, rfl, ⟨rfl, rfl⟩, ⟨rfl, rfl⟩, fun k h => ?_⟩
  · match j, hj with
    | 0, _ => exact ⟨rfl, rfl⟩
    | 1, _ => exact ⟨rfl, rfl⟩
    | 2, _ => exact ⟨rfl, rfl⟩
    | 3, _ => exact ⟨rfl, rfl⟩
    | 4, _ => exact ⟨rfl, rfl⟩
    | 5, _ => exact ⟨rfl, rfl⟩
    | n + 6, h => exact absurd h (by omega)
  · cases h
    refine ⟨rfl, rfl, rfl, ⟨rfl, rfl, rfl, rfl, rfl⟩, rfl, fun j hj => ?_⟩
    match j, hj with
    | 0, _ => exact ⟨rfl, rfl⟩
    | 1, _ => exact ⟨rfl, rfl⟩
    | 2, _ => exact ⟨rfl, rfl⟩
    | 3, _ => exact ⟨rfl, rfl⟩
    | 4, _ => exact ⟨rfl, rfl⟩
    | 5, _ => exact ⟨rfl, rfl⟩
    | n + 6, h => exact absurd h (by omega)
theorem msh_ok {l : Launch} {D : va_G} {ty : Nat → ClassId} {ρ : Nat → Nat} : aMo (l, D, ty, ρ, msh) := ⟨rfl, rfl, rfl, rfl, rfl, rfl, rfl, rfl, rfl⟩
def mkρ (qs : List Nat) (am : Nat → Nat) : Nat → Nat := fun k => if k < 1000 then qs.getD k 0 else am k
def rw0 : Nat → Int32 := fun _ => 0
def rwW : Nat → Int32 := fun j => if j = 2 then 3 else if j = 3 then 2 else 0
def sx0 : aSt := (fun k => if k = 4 ∨ k = 23 then rwW else fun _ => 0, fun _ _ => 0)
def sm0 : aSt := (fun k => if k = 1 then upd (fun _ => 0) 4 (-1) else fun _ => 0, fun _ _ => 0)
theorem a_D_inj {ty : Nat → ClassId} {ρ : Nat → Nat} {sh : List aC} {S : aSt} {A : Nat → Prop} (h : va_D A (a_W ty ρ sh S)) : a_Inj ρ sh.length ∧ ∀ k, k < sh.length → A (ρ k) := by
  have at' : ∀ k, k < sh.length → ∃ e, (a_W ty ρ sh S)[k]? = some (ρ k, e) := fun k hk => ⟨_, a_W_get (List.getElem?_eq_getElem hk)⟩
  refine ⟨fun i j hi hj e => ?_, fun k hk => ?_⟩
  · obtain ⟨e1, h1⟩ := at' i hi
    obtain ⟨e2, h2⟩ := at' j hj
    exact h.1 i j _ _ h1 h2 e
  · obtain ⟨e1, h1⟩ := at' k hk
    exact h.2 k _ h1
theorem arrV_congr {c : ClassId} {n : Nat} {f g : Nat → Value} (h : ∀ j, j < n → f j = g j) : arrV c n f = arrV c n g := by
  unfold arrV
  congr 1
  apply Array.ext
  · simp
  · intro i h1 h2
    simp only [Array.getElem_ofFn]
    exact h i (by simpa using h1)
theorem va_refs {D : va_G} {cl : List vw_C} {a n : Nat} {c : ClassId} {f g : Nat → Option Nat} {H : Heap} (h : va_at D cl (a, .inl (c, n, .inr (.inr (.inr (.inr f))))) H) (hfg : ∀ j, j < n → f j = g j) : va_at D cl (a, .inl (c, n, .inr (.inr (.inr (.inr g))))) H := by
  have h1 : H[a]? = some (vp_cell c (n, .inr (.inr (.inr (.inr f))))) := h
  show H[a]? = some (vp_cell c (n, .inr (.inr (.inr (.inr g)))))
  rw [h1, vp_cell_q, vp_cell_q, arrV_congr (fun j hj => by rw [hfg j hj])]
def aFs (ρ : Nat → Nat) (k : Nat) (S : aSt) : Nat → List aS → List Value
  | _, [] => []
  | j, s :: ss => a_val ρ s (S.1 k j) (S.2 k j) :: aFs ρ k S (j + 1) ss
theorem aFs_at {ρ : Nat → Nat} {k : Nat} {S : aSt} : ∀ (ss : List aS) (o j : Nat), (aFs ρ k S o ss)[j]? = ss[j]?.map (fun s => a_val ρ s (S.1 k (o + j)) (S.2 k (o + j))) := by
  intro ss
  induction ss with
  | nil => intro o j; simp [aFs]
  | cons s ss ih =>
    intro o j
    cases j with
    | zero => simp [aFs]
    | succ j =>
      rw [aFs, List.getElem?_cons_succ, List.getElem?_cons_succ, ih (o + 1) j, show o + 1 + j = o + (j + 1) by omega]
theorem aFs_eq {ρ : Nat → Nat} {k : Nat} {S : aSt} (ss : List aS) : ss.mapIdx (fun j s => a_val ρ s (S.1 k j) (S.2 k j)) = aFs ρ k S 0 ss := by
  apply List.ext_getElem?
  intro j
  rw [aFs_at, List.getElem?_mapIdx, Nat.zero_add]
def a_cf (ty : Nat → ClassId) (ρ : Nat → Nat) (c : aC) (k : Nat) (S : aSt) : va_E := match c with
  | .inl (t, n, none) => .inl (ty t, n, .inl (S.1 k))
  | .inl (t, n, some f) => .inl (ty t, n, .inr (.inr (.inr (.inr (fun j => (f j).map ρ)))))
  | .inr (ci, ss) => .inr (ci, aFs ρ k S 0 ss)
theorem a_cf_eq {ty : Nat → ClassId} {ρ : Nat → Nat} {c : aC} {k : Nat} {S : aSt} : a_cell ty ρ c k S = a_cf ty ρ c k S := by
  rcases c with ⟨t, n, f⟩ | ⟨ci, ss⟩
  · cases f <;> rfl
  · simp only [a_cell, a_cf, aFs_eq]
def aWf (ty : Nat → ClassId) (ρ : Nat → Nat) (S : aSt) : Nat → List aC → va_W
  | _, [] => []
  | k, c :: cs => (ρ k, a_cf ty ρ c k S) :: aWf ty ρ S (k + 1) cs
theorem aWf_at {ty : Nat → ClassId} {ρ : Nat → Nat} {S : aSt} : ∀ (sh : List aC) (o j : Nat), (aWf ty ρ S o sh)[j]? = sh[j]?.map (fun c => (ρ (o + j), a_cf ty ρ c (o + j) S)) := by
  intro sh
  induction sh with
  | nil => intro o j; simp [aWf]
  | cons s ss ih =>
    intro o j
    cases j with
    | zero => simp [aWf]
    | succ j =>
      rw [aWf, List.getElem?_cons_succ, List.getElem?_cons_succ, ih (o + 1) j, show o + 1 + j = o + (j + 1) by omega]
theorem aWf_eq {ty : Nat → ClassId} {ρ : Nat → Nat} {S : aSt} (sh : List aC) : a_W ty ρ sh S = aWf ty ρ S 0 sh := by
  apply List.ext_getElem?
  intro j
  simp only [a_W]
  rw [aWf_at, List.getElem?_mapIdx, Nat.zero_add]
  cases sh[j]? with
  | none => rfl
  | some c =>
    show some (ρ j, _) = some (ρ j, _)
    rw [a_cf_eq]
theorem aWf_app {ty : Nat → ClassId} {ρ : Nat → Nat} {S : aSt} : ∀ (a b : List aC) (o : Nat), aWf ty ρ S o (a ++ b) = aWf ty ρ S o a ++ aWf ty ρ S (o + a.length) b := by
  intro a
  induction a with
  | nil => intro b o; simp [aWf]
  | cons c a ih =>
    intro b o
    rw [List.cons_append, aWf, ih b (o + 1), aWf, List.cons_append, List.length_cons, show o + 1 + a.length = o + (a.length + 1) by omega]
set_option maxRecDepth 100000 in
set_option maxHeartbeats 4000000 in
theorem w_X6_init {D : va_G} {ty : Nat → ClassId} {H : Heap} {A : Nat → Prop} (am : Nat → Nat) {h0 q1 q2 q3 q4 q5 q6 q7 q8 q9 q10 q11 q12 q13 q14 q15 q16 q17 q18 q19 q20 q21 q22 q23 q24 q25 q26 q27 q28 q29 q30 q31 q32 q33 : Nat} (hP : va_P D vwCl [(h0, .inr (6, [.ref q1, .ref q22, .ref q29, .ref q30, .ref q32, .null])), (q1, .inr (2, [.long 0, .int 0, .int 0, .int 0, .int 0, .int 0, .ref q2, .ref q3, .ref q4, .ref q9])), (q2, .inl (ty 1, 100, .inl (fun _ => 0))), (q3, .inl (ty 0, 6, .inl (fun _ => 0))), (q4, .inr (5, [.int (0 : Int32), .int (0 : Int32), .int (3 : Int32), .int (2 : Int32), .ref q5, .ref q6, .ref q7, .ref q8])), (q5, .inl (ty 0, 10, .inl (fun _ => 0))), (q6, .inl (ty 0, 10, .inl (fun _ => 0))), (q7, .inl (ty 0, 10, .inl (fun _ => 0))), (q8, .inl (ty 0, 100, .inl (fun _ => 0))), (q9, .inl (ty 3, 6, .inr (.inr (.inr (.inr (va_up (va_up (va_up (va_up (va_up (va_up (fun _ => none) 0 (some q10)) 1 (some q12)) 2 (some q14)) 3 (some q16)) 4 (some q18)) 5 (some q20))))))), (q10, .inr (4, [.int 0, .int 0, .int 0, .int 0, .int 0, .int 0, .int 0, .int 0, .int 0, .ref q11])), (q11, .inl (ty 0, 6, .inl (fun _ => 0))), (q12, .inr (4, [.int 0, .int 0, .int 0, .int 0, .int 0, .int 0, .int 0, .int 0, .int 0, .ref q13])), (q13, .inl (ty 0, 6, .inl (fun _ => 0))), (q14, .inr (4, [.int 0, .int 0, .int 0, .int 0, .int 0, .int 0, .int 0, .int 0, .int 0, .ref q15])), (q15, .inl (ty 0, 6, .inl (fun _ => 0))), (q16, .inr (4, [.int 0, .int 0, .int 0, .int 0, .int 0, .int 0, .int 0, .int 0, .int 0, .ref q17])), (q17, .inl (ty 0, 6, .inl (fun _ => 0))), (q18, .inr (4, [.int 0, .int 0, .int 0, .int 0, .int 0, .int 0, .int 0, .int 0, .int 0, .ref q19])), (q19, .inl (ty 0, 6, .inl (fun _ => 0))), (q20, .inr (4, [.int 0, .int 0, .int 0, .int 0, .int 0, .int 0, .int 0, .int 0, .int 0, .ref q21])), (q21, .inl (ty 0, 6, .inl (fun _ => 0))), (q22, .inr (3, [.ref q23, .ref q28, .int 0, .int 0])), (q23, .inr (5, [.int (0 : Int32), .int (0 : Int32), .int (3 : Int32), .int (2 : Int32), .ref q24, .ref q25, .ref q26, .ref q27])), (q24, .inl (ty 0, 10, .inl (fun _ => 0))), (q25, .inl (ty 0, 10, .inl (fun _ => 0))), (q26, .inl (ty 0, 10, .inl (fun _ => 0))), (q27, .inl (ty 0, 100, .inl (fun _ => 0))), (q28, .inl (ty 1, 100, .inl (fun _ => 0))), (q29, .inr (1, [.int 0, .int 0, .int 0, .int 0, .int 0, .int 0, .int 0, .long 0, .int 0, .int 0])), (q30, .inr (0, [.ref q31, .int 0])), (q31, .inl (ty 0, 20, .inl (fun _ => 0))), (q32, .inr (4, [.int 0, .int 0, .int 0, .int 0, .int 0, .int 0, .int 0, .int 0, .int 0, .ref q33])), (q33, .inl (ty 0, 6, .inl (fun _ => 0)))] H) (hD : va_D A [(h0, .inr (6, [.ref q1, .ref q22, .ref q29, .ref q30, .ref q32, .null])), (q1, .inr (2, [.long 0, .int 0, .int 0, .int 0, .int 0, .int 0, .ref q2, .ref q3, .ref q4, .ref q9])), (q2, .inl (ty 1, 100, .inl (fun _ => 0))), (q3, .inl (ty 0, 6, .inl (fun _ => 0))), (q4, .inr (5, [.int (0 : Int32), .int (0 : Int32), .int (3 : Int32), .int (2 : Int32), .ref q5, .ref q6, .ref q7, .ref q8])), (q5, .inl (ty 0, 10, .inl (fun _ => 0))), (q6, .inl (ty 0, 10, .inl (fun _ => 0))), (q7, .inl (ty 0, 10, .inl (fun _ => 0))), (q8, .inl (ty 0, 100, .inl (fun _ => 0))), (q9, .inl (ty 3, 6, .inr (.inr (.inr (.inr (va_up (va_up (va_up (va_up (va_up (va_up (fun _ => none) 0 (some q10)) 1 (some q12)) 2 (some q14)) 3 (some q16)) 4 (some q18)) 5 (some q20))))))), (q10, .inr (4, [.int 0, .int 0, .int 0, .int 0, .int 0, .int 0, .int 0, .int 0, .int 0, .ref q11])), (q11, .inl (ty 0, 6, .inl (fun _ => 0))), (q12, .inr (4, [.int 0, .int 0, .int 0, .int 0, .int 0, .int 0, .int 0, .int 0, .int 0, .ref q13])), (q13, .inl (ty 0, 6, .inl (fun _ => 0))), (q14, .inr (4, [.int 0, .int 0, .int 0, .int 0, .int 0, .int 0, .int 0, .int 0, .int 0, .ref q15])), (q15, .inl (ty 0, 6, .inl (fun _ => 0))), (q16, .inr (4, [.int 0, .int 0, .int 0, .int 0, .int 0, .int 0, .int 0, .int 0, .int 0, .ref q17])), (q17, .inl (ty 0, 6, .inl (fun _ => 0))), (q18, .inr (4, [.int 0, .int 0, .int 0, .int 0, .int 0, .int 0, .int 0, .int 0, .int 0, .ref q19])), (q19, .inl (ty 0, 6, .inl (fun _ => 0))), (q20, .inr (4, [.int 0, .int 0, .int 0, .int 0, .int 0, .int 0, .int 0, .int 0, .int 0, .ref q21])), (q21, .inl (ty 0, 6, .inl (fun _ => 0))), (q22, .inr (3, [.ref q23, .ref q28, .int 0, .int 0])), (q23, .inr (5, [.int (0 : Int32), .int (0 : Int32), .int (3 : Int32), .int (2 : Int32), .ref q24, .ref q25, .ref q26, .ref q27])), (q24, .inl (ty 0, 10, .inl (fun _ => 0))), (q25, .inl (ty 0, 10, .inl (fun _ => 0))), (q26, .inl (ty 0, 10, .inl (fun _ => 0))), (q27, .inl (ty 0, 100, .inl (fun _ => 0))), (q28, .inl (ty 1, 100, .inl (fun _ => 0))), (q29, .inr (1, [.int 0, .int 0, .int 0, .int 0, .int 0, .int 0, .int 0, .long 0, .int 0, .int 0])), (q30, .inr (0, [.ref q31, .int 0])), (q31, .inl (ty 0, 20, .inl (fun _ => 0))), (q32, .inr (4, [.int 0, .int 0, .int 0, .int 0, .int 0, .int 0, .int 0, .int 0, .int 0, .ref q33])), (q33, .inl (ty 0, 6, .inl (fun _ => 0)))]) : va_P D vwCl (a_W ty (mkρ [h0, q1, q2, q3, q4, q5, q6, q7, q8, q9, q10, q11, q12, q13, q14, q15, q16, q17, q18, q19, q20, q21, q22, q23, q24, q25, q26, q27, q28, q29, q30, q31, q32, q33] am) (xsh none) sx0) H ∧ va_D A (a_W ty (mkρ [h0, q1, q2, q3, q4, q5, q6, q7, q8, q9, q10, q11, q12, q13, q14, q15, q16, q17, q18, q19, q20, q21, q22, q23, q24, q25, q26, q27, q28, q29, q30, q31, q32, q33] am) (xsh none) sx0) := by
  rw [aWf_eq]
  have hx : va_at D vwCl (q9, .inl (ty 3, 6, .inr (.inr (.inr (.inr (fun j => (some (10 + 2 * j)).map (mkρ [h0, q1, q2, q3, q4, q5, q6, q7, q8, q9, q10, q11, q12, q13, q14, q15, q16, q17, q18, q19, q20, q21, q22, q23, q24, q25, q26, q27, q28, q29, q30, q31, q32, q33] am))))))) H := va_refs (hP 9 _ rfl) (fun j hj => match j, hj with | 0, _ => rfl | 1, _ => rfl | 2, _ => rfl | 3, _ => rfl | 4, _ => rfl | 5, _ => rfl | n + 6, h => absurd h (by omega))
  have hP1 := hP.set hD (p := 9) rfl hx (fun _ _ => rfl)
  have hD1 := hD.set (p := 9) (e := .inl (ty 3, 6, .inr (.inr (.inr (.inr (fun j => (some (10 + 2 * j)).map (mkρ [h0, q1, q2, q3, q4, q5, q6, q7, q8, q9, q10, q11, q12, q13, q14, q15, q16, q17, q18, q19, q20, q21, q22, q23, q24, q25, q26, q27, q28, q29, q30, q31, q32, q33] am))))))) rfl
  exact ⟨hP1, hD1⟩
set_option maxRecDepth 100000 in
set_option maxHeartbeats 4000000 in
theorem w_X7_init {D : va_G} {ty : Nat → ClassId} {H : Heap} {A : Nat → Prop} (am : Nat → Nat) {h0 q1 q2 q3 q4 q5 q6 q7 q8 : Nat} (hP : va_P D vwCl [(h0, .inr (7, [.int 0, .ref q1, .ref q2, .int 0, .int 0, .int 0, .int 0, .int 0, .int 0, .ref q3, .ref q4, .int 0, .int 0, .int 0, .int 0, .int 0, .int 0, .int 0, .int 0, .int 0, .long 0, .int 0, .int 0, .ref q5, .ref q6, .ref q7, .ref q8, .int 0, .int 0, .int 0, .int 0])), (q1, .inl (ty 0, 979, .inl (upd (fun _ => 0) 4 (-1 : Int32)))), (q2, .inl (ty 0, 979, .inl (fun _ => 0))), (q3, .inl (ty 0, 6, .inl (fun _ => 0))), (q4, .inl (ty 2, 64, .inl (fun _ => 0))), (q5, .inl (ty 0, 36, .inl (fun _ => 0))), (q6, .inl (ty 0, 6, .inl (fun _ => 0))), (q7, .inl (ty 0, 6, .inl (fun _ => 0))), (q8, .inl (ty 0, 20, .inl (fun _ => 0)))] H) (hD : va_D A [(h0, .inr (7, [.int 0, .ref q1, .ref q2, .int 0, .int 0, .int 0, .int 0, .int 0, .int 0, .ref q3, .ref q4, .int 0, .int 0, .int 0, .int 0, .int 0, .int 0, .int 0, .int 0, .int 0, .long 0, .int 0, .int 0, .ref q5, .ref q6, .ref q7, .ref q8, .int 0, .int 0, .int 0, .int 0])), (q1, .inl (ty 0, 979, .inl (upd (fun _ => 0) 4 (-1 : Int32)))), (q2, .inl (ty 0, 979, .inl (fun _ => 0))), (q3, .inl (ty 0, 6, .inl (fun _ => 0))), (q4, .inl (ty 2, 64, .inl (fun _ => 0))), (q5, .inl (ty 0, 36, .inl (fun _ => 0))), (q6, .inl (ty 0, 6, .inl (fun _ => 0))), (q7, .inl (ty 0, 6, .inl (fun _ => 0))), (q8, .inl (ty 0, 20, .inl (fun _ => 0)))]) : va_P D vwCl (a_W ty (mkρ [h0, q1, q2, q3, q4, q5, q6, q7, q8] am) msh sm0) H ∧ va_D A (a_W ty (mkρ [h0, q1, q2, q3, q4, q5, q6, q7, q8] am) msh sm0) := by
  rw [aWf_eq]
  exact ⟨hP, hD⟩

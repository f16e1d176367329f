/-! CALLS OF THE ABSTRACT MACHINE -/
theorem a_A_mono {ρ : Nat → Nat} {n sz sz' : Nat} (h : sz ≤ sz') : ∀ q, a_A ρ n sz' q → a_A ρ n sz q := fun _ hq => hq.elim Or.inl (fun z => Or.inr (Nat.le_trans h z))
theorem a_cat_map (ρ : Nat → Nat) (st : List Value) : ((st.map (a_v ρ)).map (fun v => v.category)).sum = (st.map (fun v => v.category)).sum := by
  rw [List.map_map]
  congr 1
  apply List.map_congr_left
  intro v _
  exact a_v_cat ρ v
def a_Pm (G : aG) (As : List Value) (S : aSt) (sz : Nat) : Array Value → State → Prop := va_Pc (As.map (a_v G.2.2.2.1)) (fun U => U.heap.size = sz ∧ a_H G S U.heap ∧ va_K G.2.1 vwCl (a_tys G.2.2.1) U ∧ a_Inj G.2.2.2.1 G.2.2.2.2.length ∧ a_Amb G.2.2.2.1 (a_A G.2.2.2.1 G.2.2.2.2.length sz) U U.heap)
theorem a_blind {G : aG} {As : List Value} {S : aSt} {sz : Nat} : FrameBlind (a_Pm G As S sz) := by
  intro a U g mk ⟨q0, q1, qP, qK, qI, qA⟩
  exact ⟨q0, q1, qP, va_K.moved (u := U) (U := U.calling g mk a) (Vm.Alike.refl U.vm) qK, qI, a_Amb.same (s := U) (U := U.calling g mk a) rfl qA⟩
theorem a_pre {G : aG} {y : MethodName} {cc : ByteArray} {nL : Nat} {ret : Option FieldType} {ws : List Cond} {p : Program} {s : State} {m : MethodId} {args : Array Value} {meth : Method} {c : Code} {H : Heap} {locs : List Loc} {S : aSt} {As : List Value}
    (hs : a_Std G y cc nL ret ws p s m args meth c) (hP : a_H G S H) (hS : va_S (a_A G.2.2.2.1 G.2.2.2.2.length s.heap.size) s.heap H locs) : ∀ U : State, U.heap = H → s.WarmedH U.vm → a_Pm G As S H.size (As.map (a_v G.2.2.2.1)).toArray U := by
  intro U hU hW
  obtain ⟨-, -, -, -, -, -, -, hK, hI, hA⟩ := hs
  refine ⟨rfl, by rw [hU], by rw [hU]; exact hP, va_K.moved hW.alike hK, hI, ?_⟩
  rw [hU]
  exact (((hA.kept hS.2.1).narrow (a_A_mono hS.1)).warm hW)
section ACALLS
variable {α β : Type} {G : aG} {y y' : MethodName} {cc bytes : ByteArray} {nL maxL : Nat} {ret ret' : Option FieldType} {ws ws' wr : List Cond} {d d' : Nat} {mk : α → Option Value} {mk' : β → Option Value} {o : Option (α × aSt)} {o1 : Option (β × aSt)} {pc : Nat} {L : List (Option Value)} {st stk : List Value} {S S1 : aSt} {idx n b ci N : Nat} {C : String} {T : u_T} {ss : List aS} {As : List Value}
/-- behind a run -/
theorem a_back {p : Program} {e : Env} {s : State} {m : MethodId} {args : Array Value} {below : List Frame} {meth : Method} {c : Code} {H : Heap} {locs : List Loc} {ls : Array Slot} {Q : State → Prop} {a : Array Value} {r1 : β}
    (hr : ∀ post' : β → aSt → Prop, post' r1 S1 → va_Run p G.1 e (a_room d) s m args below meth c H locs 0 0 0 0 (F0 m pc ls (stk.map (a_v G.2.2.2.1))) (st.map (a_v G.2.2.2.1)) (a_Q G mk' post' H.size a) (a_A G.2.2.2.1 G.2.2.2.2.length H.size))
    (hS : va_S (a_A G.2.2.2.1 G.2.2.2.2.length s.heap.size) s.heap H locs)
    (kk : ∀ (H1 : Heap) (locs1 : List Loc), a_H G S1 H1 → va_S (a_A G.2.2.2.1 G.2.2.2.2.length s.heap.size) s.heap H1 locs1 → W p G.1 e (a_room d) s m args below meth c H1 locs1 0 0 Q (F0 m (pc + 3) ls (((mk' r1).toList ++ st).map (a_v G.2.2.2.1)))) :
    W p G.1 e (a_room d) s m args below meth c H locs 0 0 Q (F0 m pc ls (stk.map (a_v G.2.2.2.1))) := by
  intro T hT X
  obtain ⟨v, st₀, t, T', L1, h0, X', hL, e1, e2, ⟨⟨r, u, hv, ⟨hp1, hp2⟩, hb⟩, hz, hk⟩, stp⟩ := hr (fun r S => r = r1 ∧ S = S1) ⟨rfl, rfl⟩ T hT X
  subst hp1 hp2
  cases hv
  rw [h0] at hz hk
  have hm : ∀ q, a_A G.2.2.2.1 G.2.2.2.2.length H.size q → a_A G.2.2.2.1 G.2.2.2.2.length s.heap.size q := a_A_mono hS.1
  obtain ⟨t2, a1, b1⟩ := kk T'.heap (locs ++ L1) (by rw [e1]; exact hb)
    ⟨Nat.le_trans hS.1 (by rw [e1]; exact hz), fun q h1 h2 => by rw [e1, hk q (Nat.lt_of_lt_of_le h1 hS.1) (fun z => h2 (hm q z))]; exact hS.2.1 q h1 h2, fun q hq => by
      rcases List.mem_append.mp hq with h | h
      · exact hS.2.2 q h
      · exact hm _ (hL q h)⟩ T' rfl X'
  refine ⟨t2, stp t2 ?_, b1⟩
  have e3 : ((mk' r).map (a_v G.2.2.2.1)).toList ++ st.map (a_v G.2.2.2.1) = ((mk' r).toList ++ st).map (a_v G.2.2.2.1) := by
    cases mk' r <;> rfl
  show Steps p.tables e below (T'.setTop { F0 m pc ls (stk.map (a_v G.2.2.2.1)) with pc := pc + 3, stack := ((mk' r).map (a_v G.2.2.2.1)).toList ++ st.map (a_v G.2.2.2.1) }) t2
  rw [e3]
  exact a1
theorem a_room_ok (hd : d' + 1 ≤ d) (hm : maxL ≤ 21) : (a_room d').frames + 1 ≤ (a_room d).frames ∧ 8 + (maxL + 11) + (a_room d').locals ≤ (a_room d).locals := by
  refine ⟨hd, ?_⟩
  show 8 + (maxL + 11) + 40 * d' ≤ 40 * d
  omega
/-- a call of an instance method on an object of ours, whose outcome is known -/
theorem x_callV {r1 : β} (hd : decode cc pc = .ok (.invokevirtual idx, 3)) (hm : aMet G y' ws' d' mk' (some (r1, S1)) (.ref b :: As) S) (hg : GoodIn ws (wsV y.cls idx C y' ws')) (hw : ws' = Cond.code y' bytes maxL ret' :: wr) (hsh : G.2.2.2.2[b]? = some (.inr (ci, ss))) (hc : vwCl[ci]? = some (C, T, N))
    (hdd : y'.cls = C ∧ y'.cls ≠ "java/lang/invoke/MethodHandle" ∧ y'.cls ≠ "java/lang/invoke/VarHandle" ∧ (parseMethodDescriptor y'.desc).map (fun d => d.parameters.length) = some n) (hn : As.length = n) (hst : stk = As.reverse ++ .ref b :: st) (hcat : (st.map (fun v => v.category)).sum ≤ 8) (hdep : d' + 1 ≤ d) (hml : maxL ≤ 21)
    (kk : aX G y cc nL ret ws d mk o (pc + 3) L ((mk' r1).toList ++ st) S1) : aX G y cc nL ret ws d mk o pc L stk S := by
  intro post hp p e s m args below meth c H locs ls hs hP hS hL
  refine a_back (r1 := r1) (mk' := mk') (S1 := S1) (st := st) (a := (Value.ref (G.2.2.2.1 b) :: As.map (a_v G.2.2.2.1)).toArray) (fun post' hp' => ?_) hS (fun H1 locs1 hP1 hS1 => kk post hp p e s m args below meth c H1 locs1 ls hs hP1 hS1 hL)
  obtain ⟨hx, hb, hr, hmL, hown, hts, hlk, hK, hI, hA⟩ := id hs
  exact va_runV (Ts := ws) (own := y.cls) (cc := cc) (nL := nL) (As := As.map (a_v G.2.2.2.1)) (rest := st.map (a_v G.2.2.2.1)) (b := G.2.2.2.1 b) (Pc := a_Pm G (.ref b :: As) S H.size) ⟨hx, hb, hmL, hown, hts⟩ (hm post' ⟨_, _, rfl, hp'⟩ H.size) (cwV n hts hg hw rfl rfl hdd (a_room_ok hdep hml)) ⟨a_blind, va_recv hK hP hc (a_W_get hsh), a_pre (As := .ref b :: As) hs hP hS⟩ rfl (by rw [List.length_map]; exact hn) hL.1 (by subst hst; simp [a_v, List.map_append, List.map_reverse]) (by show 2 * 0 + _ ≤ 8; rw [a_cat_map]; omega) hd ⟨Nat.le_refl 0, Nat.le_refl 0⟩
/-- the same, on a String constant -/
theorem x_callK {r1 : β} {i : Nat} (hd : decode cc pc = .ok (.invokevirtual idx, 3)) (hm : aMet G y' ws' d' mk' (some (r1, S1)) (.ref (1000 + i) :: As) S) (hg : GoodIn ws (wsV y.cls idx "java/lang/String" y' ws')) (hw : ws' = Cond.code y' bytes maxL ret' :: wr) (hi : i < 13)
    (hdd : y'.cls = "java/lang/String" ∧ y'.cls ≠ "java/lang/invoke/MethodHandle" ∧ y'.cls ≠ "java/lang/invoke/VarHandle" ∧ (parseMethodDescriptor y'.desc).map (fun d => d.parameters.length) = some n) (hn : As.length = n) (hst : stk = As.reverse ++ .ref (1000 + i) :: st) (hcat : (st.map (fun v => v.category)).sum ≤ 8) (hdep : d' + 1 ≤ d) (hml : maxL ≤ 21)
    (kk : aX G y cc nL ret ws d mk o (pc + 3) L ((mk' r1).toList ++ st) S1) : aX G y cc nL ret ws d mk o pc L stk S := by
  intro post hp p e s m args below meth c H locs ls hs hP hS hL
  refine a_back (r1 := r1) (mk' := mk') (S1 := S1) (st := st) (a := (Value.ref (G.2.2.2.1 (1000 + i)) :: As.map (a_v G.2.2.2.1)).toArray) (fun post' hp' => ?_) hS (fun H1 locs1 hP1 hS1 => kk post hp p e s m args below meth c H1 locs1 ls hs hP1 hS1 hL)
  obtain ⟨hx, hb, hr, hmL, hown, hts, hlk, hK, hI, hA⟩ := id hs
  exact va_runV (Ts := ws) (own := y.cls) (cc := cc) (nL := nL) (As := As.map (a_v G.2.2.2.1)) (rest := st.map (a_v G.2.2.2.1)) (b := G.2.2.2.1 (1000 + i)) (Pc := a_Pm G (.ref (1000 + i) :: As) S H.size) ⟨hx, hb, hmL, hown, hts⟩ (hm post' ⟨_, _, rfl, hp'⟩ H.size) (cwV n hts hg hw rfl rfl hdd (a_room_ok hdep hml)) ⟨a_blind, vk_recv (adK := fun i => G.2.2.2.1 (1000 + i)) (i := i) hA.1 hi hS, a_pre (As := .ref (1000 + i) :: As) hs hP hS⟩ rfl (by rw [List.length_map]; exact hn) hL.1 (by subst hst; simp [a_v, List.map_append, List.map_reverse]) (by show 2 * 0 + _ ≤ 8; rw [a_cat_map]; omega) hd ⟨Nat.le_refl 0, Nat.le_refl 0⟩
/-- a call of a static method -/
theorem x_callS {r1 : β} (hd : decode cc pc = .ok (.invokestatic idx, 3)) (hm : aMet G y' ws' d' mk' (some (r1, S1)) As S) (hg : GoodIn ws (va_wsS y.cls idx y' ws')) (hw : ws' = Cond.code y' bytes maxL ret' :: wr)
    (hdd : y'.cls ≠ "java/lang/invoke/MethodHandle" ∧ y'.cls ≠ "java/lang/invoke/VarHandle" ∧ (parseMethodDescriptor y'.desc).map (fun d => d.parameters.length) = some n) (hn : As.length = n) (hst : stk = As.reverse ++ st) (hcat : (st.map (fun v => v.category)).sum ≤ 8) (hdep : d' + 1 ≤ d) (hml : maxL ≤ 21)
    (kk : aX G y cc nL ret ws d mk o (pc + 3) L ((mk' r1).toList ++ st) S1) : aX G y cc nL ret ws d mk o pc L stk S := by
  intro post hp p e s m args below meth c H locs ls hs hP hS hL
  refine a_back (r1 := r1) (mk' := mk') (S1 := S1) (st := st) (a := (As.map (a_v G.2.2.2.1)).toArray) (fun post' hp' => ?_) hS (fun H1 locs1 hP1 hS1 => kk post hp p e s m args below meth c H1 locs1 ls hs hP1 hS1 hL)
  obtain ⟨hx, hb, hr, hmL, hown, hts, hlk, hK, hI, hA⟩ := id hs
  exact va_runS (Ts := ws) (own := y.cls) (cc := cc) (nL := nL) (As := As.map (a_v G.2.2.2.1)) (rest := st.map (a_v G.2.2.2.1)) (Pc := a_Pm G As S H.size) ⟨hx, hb, hmL, hown, hts⟩ (hm post' ⟨_, _, rfl, hp'⟩ H.size) (va_cwS n hts hg hw rfl rfl hdd (a_room_ok hdep hml)) ⟨a_blind, a_pre hs hP hS⟩ rfl (by rw [List.length_map]; exact hn) hL.1 (by subst hst; simp [List.map_append, List.map_reverse]) (by show 2 * 0 + _ ≤ 8; rw [a_cat_map]; omega) hd ⟨Nat.le_refl 0, Nat.le_refl 0⟩
/-- what a callee's outcome gives the caller: whole (with a world), or a value alone -/
theorem x_bind {k : β → aSt → Option (α × aSt)} (h : ∀ (r : β) (S1 : aSt), o1 = some (r, S1) → aX G y cc nL ret ws d mk (k r S1) pc L stk S) : aX G y cc nL ret ws d mk (o1.bind (fun q => k q.1 q.2)) pc L stk S := by
  cases o1 with
  | none => exact x_none
  | some q => exact h q.1 q.2 rfl
theorem x_bindR {v1 : Option β} {k : β → Option (α × aSt)} (h : ∀ r : β, v1 = some r → aX G y cc nL ret ws d mk (k r) pc L stk S) : aX G y cc nL ret ws d mk (v1.bind k) pc L stk S := by
  cases v1 with
  | none => exact x_none
  | some q => exact h q rfl
/-- entry: the arguments in the locals -/
def a_ent : List Value → List (Option Value)
  | [] => []
  | v :: vs => if v.category = 2 then some v :: none :: a_ent vs else some v :: a_ent vs
end ACALLS
theorem a_ent_at {ρ : Nat → Nat} : ∀ (vs : List Value) (k i : Nat) (v : Value), (a_ent vs)[i]? = some (some v) → (k + i, a_v ρ v) ∈ lv_args k (vs.map (a_v ρ)) := by
  intro vs
  induction vs with
  | nil => intro k i v h; simp [a_ent] at h
  | cons w vs ih =>
    intro k i v h
    by_cases hc : w.category = 2
    · rw [a_ent, if_pos hc] at h
      cases i with
      | zero =>
        have e : w = v := by simpa using h
        subst e
        simp [lv_args]
      | succ i =>
        cases i with
        | zero => simp at h
        | succ i =>
          have := ih (k + 2) i v (by simpa using h)
          have e : (a_v ρ w).category = 2 := (a_v_cat ρ w).trans hc
          simp only [List.map_cons, lv_args]
          refine List.mem_cons_of_mem _ ?_
          rw [show k + (i + 1 + 1) = k + 2 + i by omega]
          first
            | (rw [e]; exact this)
            | (simp only [e, if_true]; exact this)
            | (simpa [e] using this)
    · rw [a_ent, if_neg hc] at h
      cases i with
      | zero =>
        have e : w = v := by simpa using h
        subst e
        simp [lv_args]
      | succ i =>
        have := ih (k + 1) i v (by simpa using h)
        have e1 : w.category = 1 := (lv_cat w).resolve_right hc
        have e : (a_v ρ w).category = 1 := (a_v_cat ρ w).trans e1
        simp only [List.map_cons, lv_args]
        refine List.mem_cons_of_mem _ ?_
        rw [show k + (i + 1) = k + 1 + i by omega]
        first
          | (rw [e]; exact this)
          | (simpa [e] using this)
section AMET
variable {α : Type} {G : aG} {y : MethodName} {cc : ByteArray} {nL : Nat} {ret : Option FieldType} {ws wr : List Cond} {d : Nat} {mk : α → Option Value} {o : Option (α × aSt)} {As : List Value} {S : aSt} {L : List (Option Value)}
theorem x_met (hy : plainName y.cls = true) (hw : ws = Cond.code y cc nL ret :: wr) (hle : aLe L (a_ent As)) (hn : (lg_sl As).length ≤ nL) (k : aX G y cc nL ret ws d mk o 0 L [] S) : aMet G y ws d mk o As S := by
  intro post hp sz
  refine Met.ofW (cc := cc) (maxL := nL) (ret := ret) hy hw ?_
  intro p e s m args below meth c s₁ B hml hv
  obtain ⟨rfl, hsz, hP, hK, hI, hA⟩ := hv
  subst hsz
  have hlen : (lg_sl (As.map (a_v G.2.2.2.1))).length = (lg_sl As).length := by
    have h0 : ∀ v : Value, (if (a_v G.2.2.2.1 v).category = 2 then [Slot.val (a_v G.2.2.2.1 v), Slot.second] else [Slot.val (a_v G.2.2.2.1 v)]).length = (if v.category = 2 then [Slot.val v, Slot.second] else [Slot.val v]).length := by
      intro v
      rw [a_v_cat]
      split <;> rfl
    simp only [lg_sl, List.length_flatMap, List.map_map]
    congr 1
    apply List.map_congr_left
    intro v _
    exact h0 v
  have hl := lv_entry (As.map (a_v G.2.2.2.1)) (n := nL) (by rw [hlen]; exact hn)
  rw [lg_entry_eq]
  refine k post hp p e s m _ below meth c s.heap [] _ ⟨B.exec, B.bytes, B.returns, hml, findClass_of_methodNamed B.named, atoms_spec (ws := ws) B.pre, B.notSynchronized, hK, hI, hA⟩ hP va_S.rf ?_
  refine ⟨hl.1, hl.2.1, fun i v hv => ?_⟩
  have h1 := aLe_at hle i v hv
  have h2 := hl.2.2 _ (a_ent_at (ρ := G.2.2.2.1) As 0 i v h1)
  simpa using h2
end AMET

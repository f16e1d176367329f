/-! THE LAW, FROM ITS ENTRY: out of what the pure part owes -/
theorem gL_N {c1 : Cond} (h : c1 ∈ wsL_law) : GoodIn wsL_law (c1 :: wsL_law) := by
  intro w hw
  rcases List.mem_cons.mp hw with e | e
  · rw [e]; exact ⟨h, wU_g h⟩
  · exact ⟨e, wU_g e⟩
theorem mkρ_hi (qs : List Nat) (am : Nat → Nat) : ∀ k, 1000 ≤ k → mkρ qs am k = am k := fun k hk => if_neg (by omega)
theorem ty_start {s : State} {args : Array Value} (hts : ∀ w ∈ lw_tbl, w.before args s = true) (htU : ∀ w ∈ wsL_law, w.before args s = true) (hE : aE s) {D : va_G} (hKc : ∀ (c : Nat) (q : vw_C), vwCl[c]? = some q → u_Kn s q.1 q.2.1 q.2.2 (D.1 c) (D.2 c)) : ∃ ty : Nat → ClassId, va_K D vwCl (a_tys ty) s := by
  obtain ⟨c0, k0, m0, e0, f0, g0⟩ := Cond.arrayClass_spec (htU (.arrayClass .int) (wU_r2 _ (List.mem_of_getElem? (i := 16) rfl)))
  obtain ⟨c1, k1, m1, e1, f1, g1⟩ := Cond.arrayClass_spec (htU (.arrayClass .byte) (wU_r2 _ (List.mem_of_getElem? (i := 14) rfl)))
  obtain ⟨c2, k2, m2, e2, f2, g2⟩ := Cond.arrayClass_spec (htU (.arrayClass .boolean) (wU_r4 _ (List.mem_of_getElem? (i := 17) rfl)))
  obtain ⟨m3, c3, k3, h3, -, f3, g3, e3⟩ := Cond.arrayOver_spec hE.2
  refine ⟨fun t => if t = 0 then c0 else if t = 1 then c1 else if t = 2 then c2 else c3, hKc, fun k q hk => ?_⟩
  match k, hk with
  | 0, hk => cases hk; exact ⟨fun n z => ⟨fun k h => (by cases h), k0, f0, m0, g0⟩, e0⟩
  | 1, hk => cases hk; exact ⟨fun n z => ⟨fun k h => (by cases h), k1, f1, m1, g1⟩, e1⟩
  | 2, hk => cases hk; exact ⟨fun n z => ⟨fun k h => (by cases h), k2, f2, m2, g2⟩, e2⟩
  | 3, hk => cases hk; exact ⟨fun n z => ⟨fun k h => (by cases h), k3, f3, m3, g3⟩, ⟨k3, m3, f3, g3, h3, e3⟩⟩
  | n + 4, hk => simp [a_tys] at hk
set_option maxHeartbeats 4000000 in
set_option maxRecDepth 100000 in
theorem whole_start_of {Rel : Option Nat → aSt → aSt → Prop} (hpu : aPure Rel) (hrel0 : Rel none sx0 sm0) {p : Program} {e : Env} {s : State} {m : MethodId} {below : List Frame} {meth : Method} {c : Code} (l : Launch) {b L : Nat} {xs : Nat → Int32} (hL : L ≤ 320) (C0 : lw_At p s m meth c b L xs) : W p l e room_1 s m #[Value.ref b] below meth c s.heap [] 0 0 (lw_Z below #[Value.ref b] s) (entryFrame m ([Value.ref b] : List Value).toArray 4) := by
  obtain ⟨hx, hb, hr, hml, hown, hts, hX, hbl, hlocks, hgv⟩ := id C0
  have htU : ∀ w ∈ wsL_law, w.before #[Value.ref b] s = true := fun w h => hts w (wL_in w h)
  have hA : ∀ q : Nat, s.heap.size ≤ q → (fun q : Nat => s.heap.size ≤ q) q := fun _ h => h
  have hE := a_nestE hts
  obtain ⟨am, ham⟩ := a_start hts hgv
  obtain ⟨c0, iS0, hKn0⟩ := u_known (C := RX0) (T := TX0) (N := 2) (n := 2) htU (fun w h => inlX0 w h) (htU (.instantiable RX0 2) (wU_r2 _ (List.mem_of_getElem? (i := 2) rfl)))
  obtain ⟨c1, iS1, hKn1⟩ := u_known (C := RX1) (T := TX1) (N := 10) (n := 10) htU (fun w h => inlX1 w h) (htU (.instantiable RX1 10) (wU_r1 _ (List.mem_of_getElem? (i := 22) rfl)))
  obtain ⟨c2, iS2, hKn2⟩ := u_known (C := RX2) (T := TX2) (N := 10) (n := 10) htU (fun w h => inlX2 w h) (htU (.instantiable RX2 10) (wU_r1 _ (List.mem_of_getElem? (i := 14) rfl)))
  obtain ⟨c3, iS3, hKn3⟩ := u_known (C := RX3) (T := TX3) (N := 4) (n := 4) htU (fun w h => inlX3 w h) (htU (.instantiable RX3 4) (wU_r1 _ (List.mem_of_getElem? (i := 18) rfl)))
  obtain ⟨c4, iS4, hKn4⟩ := u_known (C := RX4) (T := TX4) (N := 10) (n := 10) htU (fun w h => inlX4 w h) (htU (.instantiable RX4 10) (wU_r2 _ (List.mem_of_getElem? (i := 6) rfl)))
  obtain ⟨c5, iS5, hKn5⟩ := u_known (C := RX5) (T := TX5) (N := 8) (n := 8) htU (fun w h => inlX5 w h) (htU (.instantiable RX5 8) (wU_r2 _ (List.mem_of_getElem? (i := 19) rfl)))
  obtain ⟨c6, iS6, hKn6⟩ := u_known (C := RX6) (T := TX6) (N := 6) (n := 6) htU (fun w h => inlX6 w h) (htU (.instantiable RX6 6) (wU_r1 _ (List.mem_of_getElem? (i := 1) rfl)))
  obtain ⟨c7, iS7, hKn7⟩ := u_known (C := RX7) (T := TX7) (N := 31) (n := 31) htU (fun w h => inlX7 w h) (htU (.instantiable RX7 31) (wU_r1 _ (List.mem_of_getElem? (i := 4) rfl)))
  obtain ⟨D, hKc⟩ : ∃ D : va_G, ∀ (k : Nat) (q : vw_C), vwCl[k]? = some q → u_Kn s q.1 q.2.1 q.2.2 (D.1 k) (D.2 k) := by
    refine ⟨(fun k => if k = 0 then c0 else if k = 1 then c1 else if k = 2 then c2 else if k = 3 then c3 else if k = 4 then c4 else if k = 5 then c5 else if k = 6 then c6 else c7, fun k => if k = 0 then iS0 else if k = 1 then iS1 else if k = 2 then iS2 else if k = 3 then iS3 else if k = 4 then iS4 else if k = 5 then iS5 else if k = 6 then iS6 else iS7), ?_⟩
    intro k q hq
    match k, hq with
    | 0, hq => cases hq; exact hKn0
    | 1, hq => cases hq; exact hKn1
    | 2, hq => cases hq; exact hKn2
    | 3, hq => cases hq; exact hKn3
    | 4, hq => cases hq; exact hKn4
    | 5, hq => cases hq; exact hKn5
    | 6, hq => cases hq; exact hKn6
    | 7, hq => cases hq; exact hKn7
    | k + 8, hq => simp [vwCl] at hq
  obtain ⟨ty, hK⟩ := ty_start hts htU hE hKc
  have hS : va_S (fun q : Nat => s.heap.size ≤ q) s.heap s.heap [] := va_S.rf
  have hP : va_P D vwCl [] s.heap := fun k q h => by simp at h
  have hD : va_D (fun q : Nat => s.heap.size ≤ q) [] := ⟨fun i j p q h => by simp at h, fun k q h => by simp at h⟩
  have hl := lv_entry ([.ref b]) (n := 4) (Nat.le_of_ble_eq_true rfl)
  rw [lg_entry_eq]
  generalize (lg_sl ([.ref b]) ++ List.replicate (4 - (lg_sl ([.ref b])).length) Slot.unset).toArray = ls at hl ⊢
  have hl : lv_has ls 4 [(0, .ref b)] := hl
  refine va_new (ci := 6) (fs := [.null, .null, .null, .null, .null, .null]) (C := RX6) (T := TX6) (N := 6) hx hb htU (fun w h => inlX6 w h) tyX6 tyX6_ok hown (htU (.classLink RL 7 RX6) (wU_r1 _ (List.mem_of_getElem? (i := 0) rfl))) (htU (.instantiable RX6 6) (wU_r1 _ (List.mem_of_getElem? (i := 1) rfl))) (htU (.initialized RX6) (wU_r1 _ (List.mem_of_getElem? (i := 2) rfl))) hK hP hD hS hA rfl (fun j hj => match j, hj with | 0, _ => rfl | 1, _ => rfl | 2, _ => rfl | 3, _ => rfl | 4, _ => rfl | 5, _ => rfl | n + 6, h => absurd h (by omega)) (Nat.le_of_ble_eq_true rfl) (Nat.le_of_ble_eq_true rfl) dL_law_0 (fun x0 H hP hD hS => ?_)
  have hP : va_P D vwCl [(x0, .inr (6, [.null, .null, .null, .null, .null, .null]))] H := hP
  have hD : va_D (fun q : Nat => s.heap.size ≤ q) [(x0, .inr (6, [.null, .null, .null, .null, .null, .null]))] := hD
  refine W.widen (k := 1) (n := 6) (Nat.le_of_ble_eq_true rfl) (Nat.le_of_ble_eq_true rfl) ?_
  refine lv_dup hx hb dL_law_3 rfl ?_
  have hPc := hP
  have hDc := hD
  have hFc := va_free (wc := [(x0, .inr (6, [.null, .null, .null, .null, .null, .null]))]) hD hS hA [0] rfl
  refine va_callv (va_runI (As := []) (rest := [.ref x0]) ⟨hx, hb, hml, hown, htU⟩ (c_X6_init l D ty x0 H.size) (cwI 0 htU (gL_N (wU_r1 _ (List.mem_of_getElem? (i := 9) rfl))) rfl rfl rfl (htU (.initialized RX6) (wU_r1 _ (List.mem_of_getElem? (i := 2) rfl))) (htU (.methodLink RL 9 yX6_init) (wU_r1 _ (List.mem_of_getElem? (i := 7) rfl))) (htU (.instanceMethod yX6_init) (wU_r1 _ (List.mem_of_getElem? (i := 8) rfl))) rfl (by decide +kernel) ⟨(Nat.le_of_ble_eq_true rfl), (Nat.le_of_ble_eq_true rfl)⟩) ⟨fun a U g mk q => by obtain ⟨q0, q1, qP, qK, qD, qE⟩ := q; exact ⟨q0, q1, qP, va_K.moved (u := U) (U := U.calling g mk a) (Vm.Alike.refl U.vm) qK, qD, aE.same (u := U) rfl qE⟩, fun U hU hW => ⟨rfl, by rw [hU], by rw [hU]; exact hPc, va_K.moved hW.alike hK, hDc.weaken (fun _ _ _ _ => trivial), aE.warm hW hE⟩⟩ rfl rfl hl.1 rfl (lv_room (Nat.le_of_ble_eq_true rfl)) dL_law_4 ⟨(Nat.le_of_ble_eq_true rfl), (Nat.le_of_ble_eq_true rfl)⟩) hS (fun q _ h => hFc q h) hFc (fun u t H1 locs ht hvm hw hB hz1 hk1 hS => ?_)
  obtain ⟨x1, x2, x3, x4, x5, x6, x7, x8, x9, x10, x11, x12, x13, x14, x15, x16, x17, x18, x19, x20, x21, x22, x23, x24, x25, x26, x27, x28, x29, x30, x31, x32, x33, hP1, hD1⟩ := hB
  rw [ht] at hP1
  obtain ⟨hP, hD⟩ := va_join (wr := []) (w1 := [(x0, .inr (6, [.ref x1, .ref x22, .ref x29, .ref x30, .ref x32, .null])), (x1, .inr (2, [.long 0, .int 0, .int 0, .int 0, .int 0, .int 0, .ref x2, .ref x3, .ref x4, .ref x9])), (x2, .inl (ty 1, 100, .inl (fun _ => 0))), (x3, .inl (ty 0, 6, .inl (fun _ => 0))), (x4, .inr (5, [.int (0 : Int32), .int (0 : Int32), .int (3 : Int32), .int (2 : Int32), .ref x5, .ref x6, .ref x7, .ref x8])), (x5, .inl (ty 0, 10, .inl (fun _ => 0))), (x6, .inl (ty 0, 10, .inl (fun _ => 0))), (x7, .inl (ty 0, 10, .inl (fun _ => 0))), (x8, .inl (ty 0, 100, .inl (fun _ => 0))), (x9, .inl (ty 3, 6, .inr (.inr (.inr (.inr (va_up (va_up (va_up (va_up (va_up (va_up (fun _ => none) 0 (some x10)) 1 (some x12)) 2 (some x14)) 3 (some x16)) 4 (some x18)) 5 (some x20))))))), (x10, .inr (4, [.int 0, .int 0, .int 0, .int 0, .int 0, .int 0, .int 0, .int 0, .int 0, .ref x11])), (x11, .inl (ty 0, 6, .inl (fun _ => 0))), (x12, .inr (4, [.int 0, .int 0, .int 0, .int 0, .int 0, .int 0, .int 0, .int 0, .int 0, .ref x13])), (x13, .inl (ty 0, 6, .inl (fun _ => 0))), (x14, .inr (4, [.int 0, .int 0, .int 0, .int 0, .int 0, .int 0, .int 0, .int 0, .int 0, .ref x15])), (x15, .inl (ty 0, 6, .inl (fun _ => 0))), (x16, .inr (4, [.int 0, .int 0, .int 0, .int 0, .int 0, .int 0, .int 0, .int 0, .int 0, .ref x17])), (x17, .inl (ty 0, 6, .inl (fun _ => 0))), (x18, .inr (4, [.int 0, .int 0, .int 0, .int 0, .int 0, .int 0, .int 0, .int 0, .int 0, .ref x19])), (x19, .inl (ty 0, 6, .inl (fun _ => 0))), (x20, .inr (4, [.int 0, .int 0, .int 0, .int 0, .int 0, .int 0, .int 0, .int 0, .int 0, .ref x21])), (x21, .inl (ty 0, 6, .inl (fun _ => 0))), (x22, .inr (3, [.ref x23, .ref x28, .int 0, .int 0])), (x23, .inr (5, [.int (0 : Int32), .int (0 : Int32), .int (3 : Int32), .int (2 : Int32), .ref x24, .ref x25, .ref x26, .ref x27])), (x24, .inl (ty 0, 10, .inl (fun _ => 0))), (x25, .inl (ty 0, 10, .inl (fun _ => 0))), (x26, .inl (ty 0, 10, .inl (fun _ => 0))), (x27, .inl (ty 0, 100, .inl (fun _ => 0))), (x28, .inl (ty 1, 100, .inl (fun _ => 0))), (x29, .inr (1, [.int 0, .int 0, .int 0, .int 0, .int 0, .int 0, .int 0, .long 0, .int 0, .int 0])), (x30, .inr (0, [.ref x31, .int 0])), (x31, .inl (ty 0, 20, .inl (fun _ => 0))), (x32, .inr (4, [.int 0, .int 0, .int 0, .int 0, .int 0, .int 0, .int 0, .int 0, .int 0, .ref x33])), (x33, .inl (ty 0, 6, .inl (fun _ => 0)))]) hP hD [0] [] rfl rfl (by decide) (by decide) hk1 hFc hP1 hD1
  generalize H1 = H at hP hS ⊢
  have hP : va_P D vwCl [(x0, .inr (6, [.ref x1, .ref x22, .ref x29, .ref x30, .ref x32, .null])), (x1, .inr (2, [.long 0, .int 0, .int 0, .int 0, .int 0, .int 0, .ref x2, .ref x3, .ref x4, .ref x9])), (x2, .inl (ty 1, 100, .inl (fun _ => 0))), (x3, .inl (ty 0, 6, .inl (fun _ => 0))), (x4, .inr (5, [.int (0 : Int32), .int (0 : Int32), .int (3 : Int32), .int (2 : Int32), .ref x5, .ref x6, .ref x7, .ref x8])), (x5, .inl (ty 0, 10, .inl (fun _ => 0))), (x6, .inl (ty 0, 10, .inl (fun _ => 0))), (x7, .inl (ty 0, 10, .inl (fun _ => 0))), (x8, .inl (ty 0, 100, .inl (fun _ => 0))), (x9, .inl (ty 3, 6, .inr (.inr (.inr (.inr (va_up (va_up (va_up (va_up (va_up (va_up (fun _ => none) 0 (some x10)) 1 (some x12)) 2 (some x14)) 3 (some x16)) 4 (some x18)) 5 (some x20))))))), (x10, .inr (4, [.int 0, .int 0, .int 0, .int 0, .int 0, .int 0, .int 0, .int 0, .int 0, .ref x11])), (x11, .inl (ty 0, 6, .inl (fun _ => 0))), (x12, .inr (4, [.int 0, .int 0, .int 0, .int 0, .int 0, .int 0, .int 0, .int 0, .int 0, .ref x13])), (x13, .inl (ty 0, 6, .inl (fun _ => 0))), (x14, .inr (4, [.int 0, .int 0, .int 0, .int 0, .int 0, .int 0, .int 0, .int 0, .int 0, .ref x15])), (x15, .inl (ty 0, 6, .inl (fun _ => 0))), (x16, .inr (4, [.int 0, .int 0, .int 0, .int 0, .int 0, .int 0, .int 0, .int 0, .int 0, .ref x17])), (x17, .inl (ty 0, 6, .inl (fun _ => 0))), (x18, .inr (4, [.int 0, .int 0, .int 0, .int 0, .int 0, .int 0, .int 0, .int 0, .int 0, .ref x19])), (x19, .inl (ty 0, 6, .inl (fun _ => 0))), (x20, .inr (4, [.int 0, .int 0, .int 0, .int 0, .int 0, .int 0, .int 0, .int 0, .int 0, .ref x21])), (x21, .inl (ty 0, 6, .inl (fun _ => 0))), (x22, .inr (3, [.ref x23, .ref x28, .int 0, .int 0])), (x23, .inr (5, [.int (0 : Int32), .int (0 : Int32), .int (3 : Int32), .int (2 : Int32), .ref x24, .ref x25, .ref x26, .ref x27])), (x24, .inl (ty 0, 10, .inl (fun _ => 0))), (x25, .inl (ty 0, 10, .inl (fun _ => 0))), (x26, .inl (ty 0, 10, .inl (fun _ => 0))), (x27, .inl (ty 0, 100, .inl (fun _ => 0))), (x28, .inl (ty 1, 100, .inl (fun _ => 0))), (x29, .inr (1, [.int 0, .int 0, .int 0, .int 0, .int 0, .int 0, .int 0, .long 0, .int 0, .int 0])), (x30, .inr (0, [.ref x31, .int 0])), (x31, .inl (ty 0, 20, .inl (fun _ => 0))), (x32, .inr (4, [.int 0, .int 0, .int 0, .int 0, .int 0, .int 0, .int 0, .int 0, .int 0, .ref x33])), (x33, .inl (ty 0, 6, .inl (fun _ => 0)))] H := hP
  have hD : va_D (fun q : Nat => s.heap.size ≤ q) [(x0, .inr (6, [.ref x1, .ref x22, .ref x29, .ref x30, .ref x32, .null])), (x1, .inr (2, [.long 0, .int 0, .int 0, .int 0, .int 0, .int 0, .ref x2, .ref x3, .ref x4, .ref x9])), (x2, .inl (ty 1, 100, .inl (fun _ => 0))), (x3, .inl (ty 0, 6, .inl (fun _ => 0))), (x4, .inr (5, [.int (0 : Int32), .int (0 : Int32), .int (3 : Int32), .int (2 : Int32), .ref x5, .ref x6, .ref x7, .ref x8])), (x5, .inl (ty 0, 10, .inl (fun _ => 0))), (x6, .inl (ty 0, 10, .inl (fun _ => 0))), (x7, .inl (ty 0, 10, .inl (fun _ => 0))), (x8, .inl (ty 0, 100, .inl (fun _ => 0))), (x9, .inl (ty 3, 6, .inr (.inr (.inr (.inr (va_up (va_up (va_up (va_up (va_up (va_up (fun _ => none) 0 (some x10)) 1 (some x12)) 2 (some x14)) 3 (some x16)) 4 (some x18)) 5 (some x20))))))), (x10, .inr (4, [.int 0, .int 0, .int 0, .int 0, .int 0, .int 0, .int 0, .int 0, .int 0, .ref x11])), (x11, .inl (ty 0, 6, .inl (fun _ => 0))), (x12, .inr (4, [.int 0, .int 0, .int 0, .int 0, .int 0, .int 0, .int 0, .int 0, .int 0, .ref x13])), (x13, .inl (ty 0, 6, .inl (fun _ => 0))), (x14, .inr (4, [.int 0, .int 0, .int 0, .int 0, .int 0, .int 0, .int 0, .int 0, .int 0, .ref x15])), (x15, .inl (ty 0, 6, .inl (fun _ => 0))), (x16, .inr (4, [.int 0, .int 0, .int 0, .int 0, .int 0, .int 0, .int 0, .int 0, .int 0, .ref x17])), (x17, .inl (ty 0, 6, .inl (fun _ => 0))), (x18, .inr (4, [.int 0, .int 0, .int 0, .int 0, .int 0, .int 0, .int 0, .int 0, .int 0, .ref x19])), (x19, .inl (ty 0, 6, .inl (fun _ => 0))), (x20, .inr (4, [.int 0, .int 0, .int 0, .int 0, .int 0, .int 0, .int 0, .int 0, .int 0, .ref x21])), (x21, .inl (ty 0, 6, .inl (fun _ => 0))), (x22, .inr (3, [.ref x23, .ref x28, .int 0, .int 0])), (x23, .inr (5, [.int (0 : Int32), .int (0 : Int32), .int (3 : Int32), .int (2 : Int32), .ref x24, .ref x25, .ref x26, .ref x27])), (x24, .inl (ty 0, 10, .inl (fun _ => 0))), (x25, .inl (ty 0, 10, .inl (fun _ => 0))), (x26, .inl (ty 0, 10, .inl (fun _ => 0))), (x27, .inl (ty 0, 100, .inl (fun _ => 0))), (x28, .inl (ty 1, 100, .inl (fun _ => 0))), (x29, .inr (1, [.int 0, .int 0, .int 0, .int 0, .int 0, .int 0, .int 0, .long 0, .int 0, .int 0])), (x30, .inr (0, [.ref x31, .int 0])), (x31, .inl (ty 0, 20, .inl (fun _ => 0))), (x32, .inr (4, [.int 0, .int 0, .int 0, .int 0, .int 0, .int 0, .int 0, .int 0, .int 0, .ref x33])), (x33, .inl (ty 0, 6, .inl (fun _ => 0)))] := hD
  refine W.widen (k := 34) (n := 652) (Nat.le_of_ble_eq_true rfl) (Nat.le_of_ble_eq_true rfl) ?_
  refine lv_astore_n (lv' := [(1, .ref x0), (0, .ref b)]) hx hb dL_law_7 rfl hl (by decide) rfl (fun ls hl => ?_)
  obtain ⟨hPX, hDX⟩ := w_X6_init (D := D) (ty := ty) am hP hD
  generalize hρe : mkρ [x0, x1, x2, x3, x4, x5, x6, x7, x8, x9, x10, x11, x12, x13, x14, x15, x16, x17, x18, x19, x20, x21, x22, x23, x24, x25, x26, x27, x28, x29, x30, x31, x32, x33] am = ρ at hPX hDX
  have hρ0 : ρ 0 = x0 := by rw [← hρe]; rfl
  have hρh : ∀ k, 1000 ≤ k → ρ k = am k := by rw [← hρe]; exact mkρ_hi _ am
  clear hP hD hP1 hD1 hPc hDc
  have hP := hPX
  have hD := hDX
  refine va_new (ci := 7) (fs := [.int 0, .null, .null, .int 0, .int 0, .int 0, .int 0, .int 0, .int 0, .null, .null, .int 0, .int 0, .int 0, .int 0, .int 0, .int 0, .int 0, .int 0, .int 0, .long 0, .int 0, .int 0, .null, .null, .null, .null, .int 0, .int 0, .int 0, .int 0]) (C := RX7) (T := TX7) (N := 31) hx hb htU (fun w h => inlX7 w h) tyX7 tyX7_ok hown (htU (.classLink RL 10 RX7) (wU_r1 _ (List.mem_of_getElem? (i := 3) rfl))) (htU (.instantiable RX7 31) (wU_r1 _ (List.mem_of_getElem? (i := 4) rfl))) (htU (.initialized RX7) (wU_r1 _ (List.mem_of_getElem? (i := 5) rfl))) hK hP hD hS hA rfl (fun j hj => match j, hj with | 0, _ => rfl | 1, _ => rfl | 2, _ => rfl | 3, _ => rfl | 4, _ => rfl | 5, _ => rfl | 6, _ => rfl | 7, _ => rfl | 8, _ => rfl | 9, _ => rfl | 10, _ => rfl | 11, _ => rfl | 12, _ => rfl | 13, _ => rfl | 14, _ => rfl | 15, _ => rfl | 16, _ => rfl | 17, _ => rfl | 18, _ => rfl | 19, _ => rfl | 20, _ => rfl | 21, _ => rfl | 22, _ => rfl | 23, _ => rfl | 24, _ => rfl | 25, _ => rfl | 26, _ => rfl | 27, _ => rfl | 28, _ => rfl | 29, _ => rfl | 30, _ => rfl | n + 31, h => absurd h (by omega)) (Nat.le_of_ble_eq_true rfl) (Nat.le_of_ble_eq_true rfl) dL_law_8 (fun y0 H hP hD hS => ?_)
  refine W.widen (k := 35) (n := 683) (Nat.le_of_ble_eq_true rfl) (Nat.le_of_ble_eq_true rfl) ?_
  refine lv_dup hx hb dL_law_11 rfl ?_
  have hlen : (a_W ty ρ (xsh none) sx0).length = 34 := by rw [aWf_eq]; rfl
  have h34 : (a_W ty ρ (xsh none) sx0 ++ ([(y0, .inr (7, [.int 0, .null, .null, .int 0, .int 0, .int 0, .int 0, .int 0, .int 0, .null, .null, .int 0, .int 0, .int 0, .int 0, .int 0, .int 0, .int 0, .int 0, .int 0, .long 0, .int 0, .int 0, .null, .null, .null, .null, .int 0, .int 0, .int 0, .int 0]))] : va_W))[34]? = some (y0, .inr (7, [.int 0, .null, .null, .int 0, .int 0, .int 0, .int 0, .int 0, .int 0, .null, .null, .int 0, .int 0, .int 0, .int 0, .int 0, .int 0, .int 0, .int 0, .int 0, .long 0, .int 0, .int 0, .null, .null, .null, .null, .int 0, .int 0, .int 0, .int 0])) := by rw [List.getElem?_append_right (by rw [hlen]; exact Nat.le_refl _), hlen]; rfl
  have hPc : va_P D vwCl [(y0, .inr (7, [.int 0, .null, .null, .int 0, .int 0, .int 0, .int 0, .int 0, .int 0, .null, .null, .int 0, .int 0, .int 0, .int 0, .int 0, .int 0, .int 0, .int 0, .int 0, .long 0, .int 0, .int 0, .null, .null, .null, .null, .int 0, .int 0, .int 0, .int 0]))] H := hP.sub [34] (by show [34].filterMap _ = _; simp only [List.filterMap_cons, h34, List.filterMap_nil])
  have hDc : va_D (fun q : Nat => s.heap.size ≤ q) [(y0, .inr (7, [.int 0, .null, .null, .int 0, .int 0, .int 0, .int 0, .int 0, .int 0, .null, .null, .int 0, .int 0, .int 0, .int 0, .int 0, .int 0, .int 0, .int 0, .int 0, .long 0, .int 0, .int 0, .null, .null, .null, .null, .int 0, .int 0, .int 0, .int 0]))] := hD.sub [34] (by decide) (by show [34].map _ = _; simp only [List.map_cons, h34, List.map_nil])
  have hFc := va_free (wc := [(y0, .inr (7, [.int 0, .null, .null, .int 0, .int 0, .int 0, .int 0, .int 0, .int 0, .null, .null, .int 0, .int 0, .int 0, .int 0, .int 0, .int 0, .int 0, .int 0, .int 0, .long 0, .int 0, .int 0, .null, .null, .null, .null, .int 0, .int 0, .int 0, .int 0]))]) hD hS hA [34] (by show [34].map _ = _; simp only [List.map_cons, h34, List.map_nil])
  refine va_callv (va_runI (As := []) (rest := [.ref y0]) ⟨hx, hb, hml, hown, htU⟩ (c_X7_init l D ty y0 H.size) (cwI 0 htU (gL_N (wU_r4 _ (List.mem_of_getElem? (i := 12) rfl))) rfl rfl rfl (htU (.initialized RX7) (wU_r1 _ (List.mem_of_getElem? (i := 5) rfl))) (htU (.methodLink RL 12 yX7_init) (wU_r4 _ (List.mem_of_getElem? (i := 10) rfl))) (htU (.instanceMethod yX7_init) (wU_r4 _ (List.mem_of_getElem? (i := 11) rfl))) rfl (by decide +kernel) ⟨(Nat.le_of_ble_eq_true rfl), (Nat.le_of_ble_eq_true rfl)⟩) ⟨fun a U g mk q => by obtain ⟨q0, q1, qP, qK, qD, qE⟩ := q; exact ⟨q0, q1, qP, va_K.moved (u := U) (U := U.calling g mk a) (Vm.Alike.refl U.vm) qK, qD, aE.same (u := U) rfl qE⟩, fun U hU hW => ⟨rfl, by rw [hU], by rw [hU]; exact hPc, va_K.moved hW.alike hK, hDc.weaken (fun _ _ _ _ => trivial), aE.warm hW hE⟩⟩ rfl rfl hl.1 rfl (lv_room (Nat.le_of_ble_eq_true rfl)) dL_law_12 ⟨(Nat.le_of_ble_eq_true rfl), (Nat.le_of_ble_eq_true rfl)⟩) hS (fun q _ h => hFc q h) hFc (fun u t H1 locs ht hvm hw hB hz1 hk1 hS => ?_)
  obtain ⟨y1, y2, y3, y4, y5, y6, y7, y8, hP1, hD1⟩ := hB
  rw [ht] at hP1
  have hD1 : va_D (va_A [(y0, .inr (7, [.int 0, .null, .null, .int 0, .int 0, .int 0, .int 0, .int 0, .int 0, .null, .null, .int 0, .int 0, .int 0, .int 0, .int 0, .int 0, .int 0, .int 0, .int 0, .long 0, .int 0, .int 0, .null, .null, .null, .null, .int 0, .int 0, .int 0, .int 0]))] H.size) [(y0, .inr (7, [.int 0, .ref y1, .ref y2, .int 0, .int 0, .int 0, .int 0, .int 0, .int 0, .ref y3, .ref y4, .int 0, .int 0, .int 0, .int 0, .int 0, .int 0, .int 0, .int 0, .int 0, .long 0, .int 0, .int 0, .ref y5, .ref y6, .ref y7, .ref y8, .int 0, .int 0, .int 0, .int 0])), (y1, .inl (ty 0, 979, .inl (upd (fun _ => 0) 4 (-1 : Int32)))), (y2, .inl (ty 0, 979, .inl (fun _ => 0))), (y3, .inl (ty 0, 6, .inl (fun _ => 0))), (y4, .inl (ty 2, 64, .inl (fun _ => 0))), (y5, .inl (ty 0, 36, .inl (fun _ => 0))), (y6, .inl (ty 0, 6, .inl (fun _ => 0))), (y7, .inl (ty 0, 6, .inl (fun _ => 0))), (y8, .inl (ty 0, 20, .inl (fun _ => 0)))] := hD1
  obtain ⟨hPM, hDM⟩ := w_X7_init (D := D) (ty := ty) am hP1 hD1
  generalize hμe : mkρ [y0, y1, y2, y3, y4, y5, y6, y7, y8] am = μ at hPM hDM
  have hμ0 : μ 0 = y0 := by rw [← hμe]; rfl
  have hμh : ∀ k, 1000 ≤ k → μ k = am k := by rw [← hμe]; exact mkρ_hi _ am
  obtain ⟨iX, aX0⟩ := a_D_inj hDX
  obtain ⟨iM, aM0⟩ := a_D_inj hDM
  have hpos : ∀ (k : Nat) (q : Nat × va_E), (a_W ty ρ (xsh none) sx0)[k]? = some q → (a_W ty ρ (xsh none) sx0 ++ ([(y0, .inr (7, [.int 0, .null, .null, .int 0, .int 0, .int 0, .int 0, .int 0, .int 0, .null, .null, .int 0, .int 0, .int 0, .int 0, .int 0, .int 0, .int 0, .int 0, .int 0, .long 0, .int 0, .int 0, .null, .null, .null, .null, .int 0, .int 0, .int 0, .int 0]))] : va_W))[k]? = some q := fun k q hq => by
    rw [List.getElem?_append_left (List.getElem?_eq_some_iff.mp hq).1]
    exact hq
  have hny : ∀ (k : Nat) (q : Nat × va_E), (a_W ty ρ (xsh none) sx0)[k]? = some q → q.1 ≠ y0 := fun k q hq e => by
    have h1 := hD.1 k 34 q _ (hpos k q hq) h34 e
    have h2 := (List.getElem?_eq_some_iff.mp hq).1
    rw [hlen] at h2
    omega
  have hlt : ∀ (k : Nat) (q : Nat × va_E), (a_W ty ρ (xsh none) sx0)[k]? = some q → q.1 < H.size := fun k q hq => (hP k q (hpos k q hq)).lt
  have hnA : ∀ (k : Nat) (q : Nat × va_E), (a_W ty ρ (xsh none) sx0)[k]? = some q → ¬ va_A [(y0, .inr (7, [.int 0, .null, .null, .int 0, .int 0, .int 0, .int 0, .int 0, .int 0, .null, .null, .int 0, .int 0, .int 0, .int 0, .int 0, .int 0, .int 0, .int 0, .int 0, .long 0, .int 0, .int 0, .null, .null, .null, .null, .int 0, .int 0, .int 0, .int 0]))] H.size q.1 := fun k q hq h => by
    rcases h with ⟨k2, e2, h⟩ | h
    · match k2, h with
      | 0, h => cases h; exact hny k _ hq rfl
      | n + 1, h => simp at h
    · exact absurd (hlt k q hq) (by omega)
  have hPX2 : va_P D vwCl (a_W ty ρ (xsh none) sx0) H1 := (fun k q hq => ((hP k q (hpos k q hq)).kept (hk1 q.1 (hlt k q hq) (hnA k q hq))))
  have hap : ∀ i j, i < (xsh none).length → j < msh.length → ρ i ≠ μ j := fun i j hi hj e => by
    have h1 := aM0 j hj
    rw [← e] at h1
    exact hnA i _ (a_W_get (List.getElem?_eq_getElem hi)) h1
  have hls : lS D ty s none ρ μ sx0 sm0 H1 locs := ⟨hPX2, hPM, iX, iM, aX0, fun k hk => hFc _ (aM0 k hk), hap, hS, ham ρ hρh, ham μ hμh⟩
  refine W.widen (k := cuK none) (n := suK none) (Nat.le_of_ble_eq_true rfl) (Nat.le_of_ble_eq_true rfl) ?_
  refine lv_astore_n (lv' := [(2, .ref y0), (1, .ref x0), (0, .ref b)]) hx hb dL_law_15 rfl hl (by decide) rfl (fun ls hl => ?_)
  refine lv_iconst (v := 0) hx hb dL_law_16 (by decide) ?_
  refine lv_istore_n (lv' := [(3, .int 0), (2, .ref y0), (1, .ref x0), (0, .ref b)]) hx hb dL_law_17 rfl hl (by decide) rfl (fun ls hl => ?_)
  exact law_loop hx hb hr hlocks hml hown htU hX hbl hL hK hpu hE (L + 1) 0 0 (Nat.zero_le L) (by omega) nI_0.symm sx0 sm0 H1 locs none ρ (Or.inl rfl) hrel0 hls ls (by rw [hρ0, hμ0]; exact lv_sub hl [3, 2, 1, 0] rfl)

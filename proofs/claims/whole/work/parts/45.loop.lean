/-! THE LAW: the first image, the loop -/
theorem lS.N {D : va_G} {ty : Nat → ClassId} {s : State} {ρ ρ2 μ : Nat → Nat} {SX SM SX1 : aSt} {H H1 : Heap} {locs locs1 : List Loc} {gs : List Nat} (h : lS D ty s none ρ μ SX SM H locs) (he : imρ ρ gs = ρ2) (hP : va_P D vwCl (a_W ty ρ2 (xsh (some 34)) SX1) H1) (hI : a_Inj ρ2 (xsh (some 34)).length) (hA2 : ∀ k, k < (xsh (some 34)).length → a_A ρ (xsh none).length H.size (ρ2 k)) (hk : ∀ q, q < H.size → ¬ a_A ρ (xsh none).length H.size q → H1[q]? = H[q]?) (hS : va_S (fun q => s.heap.size ≤ q) s.heap H1 locs1) : lS D ty s (some 34) ρ2 μ SX1 SM H1 locs1 := by
  obtain ⟨a1, a2, a3, a4, a5, a6, a7, a8, a9, a10⟩ := h
  refine ⟨hP, l_keep a2 a7 hk, hI, a4, fun k hk2 => ?_, a6, fun i j hi hj e => ?_, hS, im_amb he a9, a10⟩
  · rcases hA2 k hk2 with ⟨i, hi, e⟩ | h
    · rw [e]; exact a5 i hi
    · exact Nat.le_trans a8.1 h
  · rcases hA2 i hi with ⟨i', hi', e'⟩ | h
    · exact a7 i' j hi' hj (by rw [← e', e])
    · have hl := (a2 j _ (a_W_get (List.getElem?_eq_getElem hj))).lt
      rw [e] at h
      exact absurd h (by have : μ j < H.size := hl; omega)
set_option maxRecDepth 20000 in
set_option maxHeartbeats 4000000 in
theorem law_imageN {p : Program} {l : Launch} {e : Env} {s : State} {m : MethodId} {below : List Frame} {meth : Method} {c : Code} {D : va_G} {ty : Nat → ClassId} {b L : Nat} {xs : Nat → Int32} {Rel : Option Nat → aSt → aSt → Prop} (hx : p.tables.exec = Jvm.exec) (hb : c.code = code) (hml : c.maxLocals = 4) (hown : s.vm.findClass R_law = some m.cls) (htU : ∀ w ∈ wsL_law, w.before #[Value.ref b] s = true) (hX : va_X b L xs s s.heap) (hbl : b < s.heap.size) (hbA : ¬ (fun q : Nat => s.heap.size ≤ q) b) (hK : va_K D vwCl (a_tys ty) s) (hpu : aPure Rel) (hE : aE s) {ρ μ : Nat → Nat} {SX SM : aSt} {H : Heap} {locs : List Loc} {ls : Array Slot} {x3 : Int32} (hl : lv_has ls 4 [(0, .ref b), (1, .ref (ρ 0)), (2, .ref (μ 0)), (3, .int x3)]) (hrel : Rel none SX SM) (hls : lS D ty s none ρ μ SX SM H locs)
    (latch : ∀ (SX SM : aSt) (H : Heap) (locs : List Loc) (K : Option Nat) (ρ : Nat → Nat), (K = none ∨ K = some 34) → Rel K SX SM → lS D ty s K ρ μ SX SM H locs → lv_has ls 4 [(0, .ref b), (1, .ref (ρ 0)), (2, .ref (μ 0)), (3, .int x3)] → W p l e room_1 s m #[Value.ref b] below meth c H locs (cuK K) (suK K) (lw_Z below #[Value.ref b] s) (F0 m 1014 ls [])) : W p l e room_1 s m #[Value.ref b] below meth c H locs (cuK none) (suK none) (lw_Z below #[Value.ref b] s) (F0 m 965 ls []) := by
  obtain ⟨SX1, SM1, e1, e2, hrel1⟩ := hpu.2.2.2.2.2.2.2.2.2.2.2.2.2.2.2.2.2.2.2.2.2.2.2.2.2.2.2.1 SX SM hrel
  obtain ⟨a1, a2, a3, a4, a5, a6, a7, a8, a9, a10⟩ := id hls
  have hmon : ∀ q, a_A ρ (xsh none).length H.size q → s.heap.size ≤ q := fun q hq => hq.elim (fun ⟨k, hk, e⟩ => e ▸ a5 k hk) (fun z => Nat.le_trans a8.1 z)
  refine lv_aload_n hx hb dL_law_965 rfl (lv_at hl 1 rfl) ?_
  have hrun := va_runV (l := l) (e := e) (below := below) (meth := meth) (locs := locs) (cells := cuK none) (slots := suK none) (g := F0 m 966 ls [.ref (ρ 0)]) (Ts := wsL_law) (own := R_law) (cc := code) (nL := 4) (As := []) (rest := []) (b := ρ 0) (R := room_1) ⟨hx, hb, hml, hown, htU⟩ (c_X6_imageN l D ty ρ SX SX1 H.size e1) (cwV 0 htU (gL_V (wU_r39 _ (List.mem_of_getElem? (i := 6) rfl)) (wU_r39 _ (List.mem_of_getElem? (i := 7) rfl)) (wU_r39 _ (List.mem_of_getElem? (i := 8) rfl)) (wU_r1 _ (List.mem_of_getElem? (i := 2) rfl)) (wU_r39 _ (List.mem_of_getElem? (i := 9) rfl))) rfl rfl rfl (by decide +kernel) ⟨(Nat.le_of_ble_eq_true rfl), (Nat.le_of_ble_eq_true rfl)⟩) ⟨(fun a U g mk q => by obtain ⟨q0, q1, qP, qK, qI, qA, qE⟩ := q; exact ⟨q0, q1, qP, va_K.moved (u := U) (U := U.calling g mk a) (Vm.Alike.refl U.vm) qK, qI, a_Amb.same (s := U) (U := U.calling g mk a) rfl qA, aE.same (u := U) rfl qE⟩), va_recv (q := (RX6, TX6, 6)) (ci := 6) (q0 := 0) hK a1 rfl (a_W_get (k := 0) (c := .inr (6, [some (some (some 1)), some (some (some 22)), some (some (some 29)), some (some (some 30)), some (some (some 32)), some (some none)])) rfl), fun U hU hW => ⟨rfl, by rw [hU], by rw [hU]; exact a1, va_K.moved hW.alike hK, a3, by rw [hU]; exact (((a9.kept a8.2.1).narrow hmon).warm hW), aE.warm hW hE⟩⟩ rfl rfl hl.1 rfl (lv_room (Nat.le_of_ble_eq_true rfl)) dL_law_966 ⟨(Nat.le_of_ble_eq_true rfl), (Nat.le_of_ble_eq_true rfl)⟩
  intro T hT X
  obtain ⟨v, st₀, t, T', L1, h0, X', hL, ee1, ee2, ⟨⟨gs, hv, hP2, hI2, hA2⟩, hz, hk⟩, stp⟩ := hrun T hT X
  cases hv
  rw [h0] at hz hk
  have hS2 : va_S (fun q => s.heap.size ≤ q) s.heap T'.heap (locs ++ L1) := ⟨Nat.le_trans a8.1 (by rw [ee1]; exact hz), fun q h1 h2 => by rw [ee1, hk q (Nat.lt_of_lt_of_le h1 a8.1) (fun z => h2 (hmon q z))]; exact a8.2.1 q h1 h2, fun q hq => by
    rcases List.mem_append.mp hq with h | h
    · exact a8.2.2 q h
    · exact hmon _ (hL q h)⟩
  have hls2 := hls.N (gs := gs) rfl (by rw [ee1]; exact hP2) hI2 hA2 (fun q h1 h2 => by rw [ee1]; exact hk q h1 h2) hS2
  have h00 : ρ 0 = imρ ρ gs 0 := rfl
  have hl2 : lv_has ls 4 [(0, .ref b), (1, .ref (imρ ρ gs 0)), (2, .ref (μ 0)), (3, .int x3)] := hl
  have K2 : W p l e room_1 s m #[Value.ref b] below meth c T'.heap (locs ++ L1) (cuK (some 34)) (suK (some 34)) (lw_Z below #[Value.ref b] s) (F0 m 969 ls [.int (SX1.1 1 4)]) := by
    refine lv_aload_n hx hb dL_law_969 rfl (lv_at hl2 2 rfl) ?_
    have hl1 := hls2
    refine l_call (G := (l, D, ty, μ, msh)) (As := []) (rest := [.int (SX1.1 1 4)]) hx hb hml hown htU hK hl1.2.1 hl1.2.2.2.1 hl1.2.2.2.2.2.2.2.2.2 hl1.2.2.2.2.2.1 (fun _ h => h) hl1.2.2.2.2.2.2.2.1 dL_law_970 (aMet_of e2 (m_X7_image msh_ok SM)) (gL_V (wU_r39 _ (List.mem_of_getElem? (i := 21) rfl)) (wU_r39 _ (List.mem_of_getElem? (i := 22) rfl)) (wU_r39 _ (List.mem_of_getElem? (i := 23) rfl)) (wU_r1 _ (List.mem_of_getElem? (i := 5) rfl)) (wU_r40 _ (List.mem_of_getElem? (i := 0) rfl))) rfl (msh_ok (l := l) (D := D) (ty := ty) (ρ := μ)).1 rfl lw_dd_X7_image rfl hl.1 rfl (Nat.le_of_ble_eq_true rfl) (Nat.le_of_ble_eq_true rfl) (Nat.le_of_ble_eq_true rfl) (cuK_le _) (suK_le _) (fun H1 locs1 hP1 hz1 hk1 hS1 => ?_)
    have hls := hl1.M hP1 hk1 hS1
    refine lv_icmp_eq (tgt := 1014) hx hb dL_law_973 (by decide) (fun _ => ?_) (fun c9 => absurd rfl c9)
    exact latch _ _ _ _ _ _ (Or.inr rfl) hrel1 hls hl2
  obtain ⟨t2, q1, q2⟩ := (W.widen (k := cuK (some 34)) (n := suK (some 34)) (Nat.le_of_ble_eq_true rfl) (Nat.le_of_ble_eq_true rfl) K2) T' rfl X'
  exact ⟨t2, stp t2 q1, q2⟩

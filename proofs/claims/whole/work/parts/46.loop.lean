/-! THE LAW'S LOOP -/
set_option maxRecDepth 20000 in
set_option maxHeartbeats 4000000 in
theorem law_loop {p : Program} {l : Launch} {e : Env} {s : State} {m : MethodId} {below : List Frame} {meth : Method} {c : Code} {D : va_G} {ty : Nat → ClassId} {b L : Nat} {xs : Nat → Int32} {Rel : Option Nat → aSt → aSt → Prop} (hx : p.tables.exec = Jvm.exec) (hb : c.code = code) (hr : meth.sig.returnType = ret) (hlocks : meth.locks = false) (hml : c.maxLocals = 4) (hown : s.vm.findClass R_law = some m.cls) (htU : ∀ w ∈ wsL_law, w.before #[Value.ref b] s = true) (hX : va_X b L xs s s.heap) (hbl : b < s.heap.size) (hL : L ≤ 320) (hK : va_K D vwCl (a_tys ty) s) (hpu : aPure Rel) (hE : aE s) {μ : Nat → Nat} : ∀ (n i : Nat) (x3 : Int32), i ≤ L → L + 1 ≤ i + n → x3 = nI i → ∀ (SX SM : aSt) (H : Heap) (locs : List Loc) (K : Option Nat) (ρ : Nat → Nat), (K = none ∨ K = some 34) → Rel K SX SM → lS D ty s K ρ μ SX SM H locs → ∀ ls : Array Slot, lv_has ls 4 [(0, .ref b), (1, .ref (ρ 0)), (2, .ref (μ 0)), (3, .int x3)] → W p l e room_1 s m #[Value.ref b] below meth c H locs (cuK K) (suK K) (lw_Z below #[Value.ref b] s) (F0 m 18 ls []) := by
  have hbA : ¬ (fun q : Nat => s.heap.size ≤ q) b := Nat.not_le.mpr hbl
  intro n
  induction n with
  | zero =>
    intro i x3 h1 h2
    exact absurd h2 (by omega)
  | succ n ih =>
    intro i x3 hi hin ex3 SX SM H locs K ρ hKK hrel hls ls hl
    have hS := hls.2.2.2.2.2.2.2.1
    refine lv_iload_n hx hb dL_law_18 rfl (lv_at hl 3 rfl) ?_
    refine lv_aload_n hx hb dL_law_19 rfl (lv_at hl 0 rfl) ?_
    refine va_slen hx hb hX hbl hbA hS dL_law_20 ?_
    refine lv_iconst (v := (5 : Int32)) hx hb dL_law_21 (by decide) ?_
    refine lv_isub hx hb dL_law_22 ?_
    refine lv_icmp_gt (tgt := 1020) hx hb dL_law_23 (by decide) (fun _ => ?_) (fun c9 => ?_)
    · refine lv_iconst (v := 1) hx hb dL_law_1020 (by decide) ?_
      refine va_forget (fun q hq => hS.2.2 q hq) ?_
      refine W.widen (k := 600000) (n := 7302250) (by cases K <;> exact Nat.le_of_ble_eq_true rfl) (by cases K <;> exact Nat.le_of_ble_eq_true rfl) ?_
      exact lw_ret hx hb hr hlocks dL_law_1021
    · have hlt : i + 5 ≤ L := by
        have h1 : (nI L - nI 5).toInt = (L : Int) - 5 := pk_sub_toInt (by omega) (by omega)
        have h2 : ¬ (nI L - nI 5).toInt < (nI i).toInt := fun h => c9 (by rw [ex3]; exact Int32.lt_iff_toInt_lt.mpr h)
        rw [h1, nI_toInt (by omega)] at h2
        omega
      have hv : ∀ k : Nat, k < 5 → vp_in (nI i + nI k) L := fun k hk => by rw [nI_add]; exact vp_in_nI (by omega) (by omega)
      have h_0 : vp_in x3 L := by rw [ex3]; exact vp_in_nI (by omega) (by omega)
      have h_1 : vp_in (x3 + 1) L := by rw [ex3]; exact hv 1 (by omega)
      have h_2 : vp_in (x3 + 2) L := by rw [ex3]; exact hv 2 (by omega)
      have h_3 : vp_in (x3 + 3) L := by rw [ex3]; exact hv 3 (by omega)
      have h_4 : vp_in (x3 + 4) L := by rw [ex3]; exact hv 4 (by omega)
      have latch : ∀ (SX SM : aSt) (H : Heap) (locs : List Loc) (K : Option Nat) (ρ : Nat → Nat), (K = none ∨ K = some 34) → Rel K SX SM → lS D ty s K ρ μ SX SM H locs → lv_has ls 4 [(0, .ref b), (1, .ref (ρ 0)), (2, .ref (μ 0)), (3, .int x3)] → W p l e room_1 s m #[Value.ref b] below meth c H locs (cuK K) (suK K) (lw_Z below #[Value.ref b] s) (F0 m 1014 ls []) := by
        intro SX SM H locs K ρ hKK hrel hls hl
        obtain ⟨x4, ex4⟩ : ∃ y : Int32, y = x3 + 5 := ⟨_, rfl⟩
        refine lv_iinc (v := x4) (lv' := [(3, .int x4), (0, .ref b), (1, .ref (ρ 0)), (2, .ref (μ 0))]) hx hb dL_law_1014 hl (k := 3) rfl (by rw [ex4]; rfl) (by decide) rfl (fun ls hl => ?_)
        refine lv_goto (tgt := 18) hx hb dL_law_1017 (by decide) ?_
        exact ih (i + 5) x4 hlt (by omega) (by rw [ex4, ex3]; exact nI_add i 5) SX SM H locs K ρ hKK hrel hls ls (lv_sub hl [1, 2, 3, 0] rfl)
      refine lv_aload_n hx hb dL_law_26 rfl (lv_at hl 0 rfl) ?_
      refine lv_iload_n hx hb dL_law_27 rfl (lv_at hl 3 rfl) ?_
      refine va_sld hx hb hX hbl hbA hS h_0 dL_law_28 ?_
      refine lv_bipush (v := (31 : Int32)) hx hb dL_law_29 (by decide) ?_
      refine lv_iand hx hb dL_law_31 ?_
      obtain ⟨j, hj, ej⟩ := pk_andE (xs x3.toNatClampNeg) (m := 31) 5 (by decide)
      rw [ej]
      match j, hj with
      | 0, _ =>
        refine lv_tableIn (off := 132) (tgt := 164) hx hb dL_law_32 (by decide) (by decide) (by decide) (by decide) ?_
        exact law_things hx hb hml hown htU hX hbl hbA hK hpu hKK h_1 h_2 h_3 h_4 hl hrel hls latch
      | 1, _ =>
        refine lv_tableIn (off := 185) (tgt := 217) hx hb dL_law_32 (by decide) (by decide) (by decide) (by decide) ?_
        exact law_feed hx hb hml hown htU hX hbl hbA hK hpu hKK h_1 h_2 h_3 h_4 hl hrel hls latch
      | 2, _ =>
        refine lv_tableIn (off := 208) (tgt := 240) hx hb dL_law_32 (by decide) (by decide) (by decide) (by decide) ?_
        exact law_wood hx hb hml hown htU hX hbl hbA hK hpu hKK h_1 h_2 h_3 h_4 hl hrel hls latch
      | 3, _ =>
        refine lv_tableIn (off := 221) (tgt := 253) hx hb dL_law_32 (by decide) (by decide) (by decide) (by decide) ?_
        exact law_told hx hb hml hown htU hX hbl hbA hK hpu hKK h_1 h_2 h_3 h_4 hl hrel hls latch
      | 4, _ =>
        refine lv_tableIn (off := 244) (tgt := 276) hx hb dL_law_32 (by decide) (by decide) (by decide) (by decide) ?_
        exact law_tree hx hb hml hown htU hX hbl hbA hK hpu hKK h_1 h_2 h_3 h_4 hl hrel hls latch
      | 5, _ =>
        refine lv_tableIn (off := 297) (tgt := 329) hx hb dL_law_32 (by decide) (by decide) (by decide) (by decide) ?_
        exact law_lean hx hb hml hown htU hX hbl hbA hK hpu hKK h_1 h_2 h_3 h_4 hl hrel hls latch
      | 6, _ =>
        refine lv_tableIn (off := 350) (tgt := 382) hx hb dL_law_32 (by decide) (by decide) (by decide) (by decide) ?_
        exact law_of hx hb hml hown htU hX hbl hbA hK hpu hKK h_1 h_2 h_3 h_4 hl hrel hls latch
      | 7, _ =>
        refine lv_tableIn (off := 383) (tgt := 415) hx hb dL_law_32 (by decide) (by decide) (by decide) (by decide) ?_
        exact law_plan hx hb hml hown htU hX hbl hbA hK hpu hKK h_1 h_2 h_3 h_4 hl hrel hls latch
      | 8, _ =>
        refine lv_tableIn (off := 426) (tgt := 458) hx hb dL_law_32 (by decide) (by decide) (by decide) (by decide) ?_
        exact law_goes hx hb hml hown htU hX hbl hbA hK hpu hKK h_1 h_2 h_3 h_4 hl hrel hls latch
      | 9, _ =>
        refine lv_tableIn (off := 459) (tgt := 491) hx hb dL_law_32 (by decide) (by decide) (by decide) (by decide) ?_
        exact law_lies hx hb hml hown htU hX hbl hbA hK hpu hKK h_1 h_2 h_3 h_4 hl hrel hls latch
      | 10, _ =>
        refine lv_tableIn (off := 483) (tgt := 515) hx hb dL_law_32 (by decide) (by decide) (by decide) (by decide) ?_
        exact law_fell hx hb hml hown htU hX hbl hbA hK hpu hKK h_1 h_2 h_3 h_4 hl hrel hls latch
      | 11, _ =>
        refine lv_tableIn (off := 506) (tgt := 538) hx hb dL_law_32 (by decide) (by decide) (by decide) (by decide) ?_
        exact law_wide hx hb hml hown htU hX hbl hbA hK hpu hKK h_1 h_2 h_3 h_4 hl hrel hls latch
      | 12, _ =>
        refine lv_tableIn (off := 539) (tgt := 571) hx hb dL_law_32 (by decide) (by decide) (by decide) (by decide) ?_
        exact law_least hx hb hml hown htU hX hbl hbA hK hpu hKK h_1 h_2 h_3 h_4 hl hrel hls latch
      | 13, _ =>
        refine lv_tableIn (off := 572) (tgt := 604) hx hb dL_law_32 (by decide) (by decide) (by decide) (by decide) ?_
        exact law_gusts hx hb hml hown htU hX hbl hbA hK hpu hKK h_1 h_2 h_3 h_4 hl hrel hls latch
      | 14, _ =>
        refine lv_tableIn (off := 595) (tgt := 627) hx hb dL_law_32 (by decide) (by decide) (by decide) (by decide) ?_
        exact law_sure hx hb hml hown htU hX hbl hbA hK hpu hKK h_1 h_2 h_3 h_4 hl hrel hls latch
      | 15, _ =>
        refine lv_tableIn (off := 639) (tgt := 671) hx hb dL_law_32 (by decide) (by decide) (by decide) (by decide) ?_
        exact law_stand hx hb hml hown htU hX hbl hbA hK hpu hKK h_1 h_2 h_3 h_4 hl hrel hls latch
      | 16, _ =>
        refine lv_tableIn (off := 663) (tgt := 695) hx hb dL_law_32 (by decide) (by decide) (by decide) (by decide) ?_
        exact law_order hx hb hml hown htU hX hbl hbA hK hpu hKK h_1 h_2 h_3 h_4 hl hrel hls latch
      | 17, _ =>
        refine lv_tableIn (off := 686) (tgt := 718) hx hb dL_law_32 (by decide) (by decide) (by decide) (by decide) ?_
        exact law_hung hx hb hml hown htU hX hbl hbA hK hpu hKK h_1 h_2 h_3 h_4 hl hrel hls latch
      | 18, _ =>
        refine lv_tableIn (off := 699) (tgt := 731) hx hb dL_law_32 (by decide) (by decide) (by decide) (by decide) ?_
        exact law_blame hx hb hml hown htU hX hbl hbA hK hpu hKK h_1 h_2 h_3 h_4 hl hrel hls latch
      | 19, _ =>
        refine lv_tableIn (off := 732) (tgt := 764) hx hb dL_law_32 (by decide) (by decide) (by decide) (by decide) ?_
        exact law_knock hx hb hml hown htU hX hbl hbA hK hpu hKK h_1 h_2 h_3 h_4 hl hrel hls latch
      | 20, _ =>
        refine lv_tableIn (off := 765) (tgt := 797) hx hb dL_law_32 (by decide) (by decide) (by decide) (by decide) ?_
        exact law_limbs hx hb hml hown htU hX hbl hbA hK hpu hKK h_1 h_2 h_3 h_4 hl hrel hls latch
      | 21, _ =>
        refine lv_tableIn (off := 788) (tgt := 820) hx hb dL_law_32 (by decide) (by decide) (by decide) (by decide) ?_
        exact law_book hx hb hml hown htU hX hbl hbA hK hpu hKK h_1 h_2 h_3 h_4 hl hrel hls latch
      | 22, _ =>
        refine lv_tableIn (off := 811) (tgt := 843) hx hb dL_law_32 (by decide) (by decide) (by decide) (by decide) ?_
        exact law_judged hx hb hml hown htU hX hbl hbA hK hpu hKK h_1 h_2 h_3 h_4 hl hrel hls latch
      | 23, _ =>
        refine lv_tableIn (off := 834) (tgt := 866) hx hb dL_law_32 (by decide) (by decide) (by decide) (by decide) ?_
        exact law_act hx hb hml hown htU hX hbl hbA hK hpu hKK h_1 h_2 h_3 h_4 hl hrel hls latch
      | 24, _ =>
        refine lv_tableIn (off := 877) (tgt := 909) hx hb dL_law_32 (by decide) (by decide) (by decide) (by decide) ?_
        exact law_trace hx hb hml hown htU hX hbl hbA hK hpu hKK h_1 h_2 h_3 h_4 hl hrel hls latch
      | 25, _ =>
        refine lv_tableIn (off := 900) (tgt := 932) hx hb dL_law_32 (by decide) (by decide) (by decide) (by decide) ?_
        exact law_as hx hb hml hown htU hX hbl hbA hK hpu hKK h_1 h_2 h_3 h_4 hl hrel hls latch
      | 26, _ =>
        refine lv_tableIn (off := 933) (tgt := 965) hx hb dL_law_32 (by decide) (by decide) (by decide) (by decide) ?_
        rcases hKK with rfl | rfl
        · exact law_imageN hx hb hml hown htU hX hbl hbA hK hpu hE hl hrel hls latch
        · exact law_imageK hx hb hml hown htU hX hbl hbA hK hpu rfl h_1 h_2 h_3 h_4 hl hrel hls latch
      | 27, _ =>
        refine lv_tableIn (off := 946) (tgt := 978) hx hb dL_law_32 (by decide) (by decide) (by decide) (by decide) ?_
        rcases hKK with rfl | rfl
        · exact law_undoN hx hb hml hown htU hX hbl hbA hK hpu rfl h_1 h_2 h_3 h_4 hl hrel hls latch
        · exact law_undoK hx hb hml hown htU hX hbl hbA hK hpu rfl h_1 h_2 h_3 h_4 hl hrel hls latch
      | 28, _ =>
        refine lv_tableIn (off := 959) (tgt := 991) hx hb dL_law_32 (by decide) (by decide) (by decide) (by decide) ?_
        exact law_count hx hb hml hown htU hX hbl hbA hK hpu hKK h_1 h_2 h_3 h_4 hl hrel hls latch
      | 29, _ =>
        refine lv_tableOut (tgt := 1014) hx hb dL_law_32 (by decide) (by decide) ?_
        exact latch _ _ _ _ _ _ hKK hrel hls hl
      | 30, _ =>
        refine lv_tableOut (tgt := 1014) hx hb dL_law_32 (by decide) (by decide) ?_
        exact latch _ _ _ _ _ _ hKK hrel hls hl
      | 31, _ =>
        refine lv_tableOut (tgt := 1014) hx hb dL_law_32 (by decide) (by decide) ?_
        exact latch _ _ _ _ _ _ hKK hrel hls hl
      | n + 32, h => exact absurd h (by omega)

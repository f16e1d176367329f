/-! what stays, at the start -/
theorem a_start {s : State} {args : Array Value} (hts : ∀ w ∈ lw_tbl, w.before args s = true) (hgv : (Jvm.Cond.and given_1 narrow_1).before args s = true) : ∃ am : Nat → Nat, ∀ ρ : Nat → Nat, (∀ k, 1000 ≤ k → ρ k = am k) → a_Amb ρ (fun q => s.heap.size ≤ q) s s.heap := by
  have hs : ∀ c ∈ a_FL, c.before args s = true := flat_of_before _ hgv
  have hA : ∀ a : Nat, a < s.heap.size → ¬ (fun q => s.heap.size ≤ q) a := fun a h => Nat.not_le.mpr h
  obtain ⟨adK, adV, hk, hev⟩ := vk_Sof (tm := a_tm) (N := 13) (len := a_strL) (byt := a_strB) (A := fun q => s.heap.size ≤ q) (by decide) (fun i hi => hs _ (st_ex i hi)) (fun i hi => hs _ (st_co i hi)) (fun i hi => hs _ (st_ar i hi)) (fun i hi => hs _ (st_le i hi)) (fun i hi j hj => hs _ (st_el i hi j hj)) (fun i j hi hj hij => (st_ne i hi j hj hij).imp (hs _) (hs _)) hA
  have htab : ∀ t : Nat, ∃ a : Nat, t < 3 → (Term.static "FellTree" (a_tabN.getD t "") "[I").eval args s none [] s = some (.ref a) ∧ va_T .int a (a_tab.getD t []).length (fun j => .int ((a_tab.getD t []).getD j 0)) (fun q => s.heap.size ≤ q) s s.heap := by
    intro t
    by_cases ht : t < 3
    · have hN : (a_tab.getD t []).length < 2 ^ 31 := by
        match t, ht with
        | 0, _ => decide
        | 1, _ => decide
        | 2, _ => decide
        | n + 3, h => exact absurd h (by omega)
      obtain ⟨a, h1, h2⟩ := va_Tof (f := fun j => .int ((a_tab.getD t []).getD j 0)) hN (hs _ (tb_ar t ht)) (va_eqt (hs _ (tb_le t ht))) (fun j hj => va_eqt (hs _ (tb_el t ht j hj))) hA
      exact ⟨a, fun _ => ⟨h1, h2⟩⟩
    · exact ⟨0, fun h => absurd h ht⟩
  obtain ⟨tb, htb⟩ := Classical.axiomOfChoice htab
  have hfm : ∃ f : Nat, va_Z "jdk/internal/util/Preconditions" "SIOOBE_FORMATTER" "Ljava/util/function/BiFunction;" .null (fun q => s.heap.size ≤ q) s s.heap ∨ va_Z "jdk/internal/util/Preconditions" "SIOOBE_FORMATTER" "Ljava/util/function/BiFunction;" (.ref f) (fun q => s.heap.size ≤ q) s s.heap := by
    rcases va_Zqof (hts (.laysStatic "jdk/internal/util/Preconditions" "SIOOBE_FORMATTER" "Ljava/util/function/BiFunction;") (List.mem_append_right _ (List.mem_append_right _ (List.mem_append_left _ (List.mem_of_getElem? (i := 121) (by decide +kernel)))))) (hts (.initialized "jdk/internal/util/Preconditions") (List.mem_append_right _ (List.mem_append_left _ (List.mem_of_getElem? (i := 13) (by decide +kernel))))) (hs (Cond.isRef (.static "jdk/internal/util/Preconditions" "SIOOBE_FORMATTER" "Ljava/util/function/BiFunction;")) (by decide +kernel)) hA with h | ⟨f, h⟩
    · exact ⟨0, Or.inl h⟩
    · exact ⟨f, Or.inr h⟩
  obtain ⟨fm, hfm⟩ := hfm
  refine ⟨fun k => if k < 2000 then adK (k - 1000) else if k < 3000 then adV (k - 2000) else if k < 3003 then tb (k - 3000) else fm, fun ρ hρ => ?_⟩
  have e1 : ∀ i, i < 13 → ρ (1000 + i) = adK i := fun i hi => by rw [hρ _ (by omega)]; show (if 1000 + i < 2000 then adK (1000 + i - 1000) else if 1000 + i < 3000 then adV (1000 + i - 2000) else if 1000 + i < 3003 then tb (1000 + i - 3000) else fm) = adK i; rw [if_pos (by omega), Nat.add_sub_cancel_left]
  have e2 : ∀ i, i < 13 → ρ (2000 + i) = adV i := fun i hi => by rw [hρ _ (by omega)]; show (if 2000 + i < 2000 then adK (2000 + i - 1000) else if 2000 + i < 3000 then adV (2000 + i - 2000) else if 2000 + i < 3003 then tb (2000 + i - 3000) else fm) = adV i; rw [if_neg (by omega), if_pos (by omega), Nat.add_sub_cancel_left]
  have e3 : ∀ t, t < 3 → ρ (3000 + t) = tb t := fun t ht => by rw [hρ _ (by omega)]; show (if 3000 + t < 2000 then adK (3000 + t - 1000) else if 3000 + t < 3000 then adV (3000 + t - 2000) else if 3000 + t < 3003 then tb (3000 + t - 3000) else fm) = tb t; rw [if_neg (by omega), if_neg (by omega), if_pos (by omega), Nat.add_sub_cancel_left]
  have e4 : ρ 3003 = fm := by rw [hρ _ (by omega)]; rfl
  refine ⟨⟨fun i hi => by have h := hk.1 i hi; simp only [e1 i hi, e2 i hi]; exact h, fun i j hi hj h => hk.2 i j hi hj (by rw [← e1 i hi, ← e1 j hj]; exact h)⟩, ?_, va_Zof (hts (.laysStatic "java/lang/String" "COMPACT_STRINGS" "Z") (List.mem_append_right _ (List.mem_append_right _ (List.mem_append_left _ (List.mem_of_getElem? (i := 105) (by decide +kernel)))))) (hts (.initialized "java/lang/String") (List.mem_append_right _ (List.mem_append_left _ (List.mem_of_getElem? (i := 11) (by decide +kernel))))) (va_eqi (hs (Cond.eq (.static "java/lang/String" "COMPACT_STRINGS" "Z") (.int 1)) (by decide +kernel))) hA, by rw [e4]; exact hfm, fun t ht => ?_, ?_⟩
  · have hR : ∀ (own tx : String) (k i : Nat), i < 13 → (Cond.stringRef own k tx).before args s = true → (Term.string own k).eval args s none [] s = some (.ref (adK i)) → vk_R own k tx (ρ (1000 + i)) s := fun own tx k i hi h1 h2 => by
      rw [e1 i hi]
      exact vk_R.of h1 h2
    intro q hq
    simp only [a_strR, List.mem_cons, List.not_mem_nil, or_false] at hq
    rcases hq with rfl | rfl | rfl | rfl | rfl | rfl | rfl | rfl | rfl | rfl | rfl | rfl | rfl | rfl | rfl
    · exact hR "FellTree$Reader" "hold" 83 0 (by omega) (hts (.stringRef "FellTree$Reader" 83 "hold") (List.mem_append_right _ (List.mem_append_right _ (List.mem_append_left _ (List.mem_of_getElem? (i := 91) (by decide +kernel)))))) (hev 0 (by omega))
    · exact hR "FellTree$Reader" "split" 89 1 (by omega) (hts (.stringRef "FellTree$Reader" 89 "split") (List.mem_append_right _ (List.mem_append_right _ (List.mem_append_left _ (List.mem_of_getElem? (i := 144) (by decide +kernel)))))) (hev 1 (by omega))
    · exact hR "FellTree$Reader" "rope" 91 2 (by omega) (hts (.stringRef "FellTree$Reader" 91 "rope") (List.mem_append_right _ (List.mem_append_right _ (List.mem_append_left _ (List.mem_of_getElem? (i := 145) (by decide +kernel)))))) (hev 2 (by omega))
    · exact hR "FellTree$Reader" "ind" 92 3 (by omega) (hts (.stringRef "FellTree$Reader" 92 "ind") (List.mem_append_right _ (List.mem_append_right _ (List.mem_append_left _ (List.mem_of_getElem? (i := 146) (by decide +kernel)))))) (hev 3 (by omega))
    · exact hR "FellTree$Reader" "edge" 94 4 (by omega) (hts (.stringRef "FellTree$Reader" 94 "edge") (List.mem_append_right _ (List.mem_append_right _ (List.mem_append_left _ (List.mem_of_getElem? (i := 147) (by decide +kernel)))))) (hev 4 (by omega))
    · exact hR "FellTree$Reader" "0123456789" 96 5 (by omega) (hts (.stringRef "FellTree$Reader" 96 "0123456789") (List.mem_append_right _ (List.mem_append_right _ (List.mem_append_left _ (List.mem_of_getElem? (i := 152) (by decide +kernel)))))) (hev 5 (by omega))
    · exact hR "FellTree$Reader" "tkhlow" 115 6 (by omega) (hts (.stringRef "FellTree$Reader" 115 "tkhlow") (List.mem_append_right _ (List.mem_append_right _ (List.mem_append_left _ (List.mem_of_getElem? (i := 232) (by decide +kernel)))))) (hev 6 (by omega))
    · exact hR "FellTree$Reader" "<=>" 117 7 (by omega) (hts (.stringRef "FellTree$Reader" 117 "<=>") (List.mem_append_right _ (List.mem_append_right _ (List.mem_append_left _ (List.mem_of_getElem? (i := 233) (by decide +kernel)))))) (hev 7 (by omega))
    · exact hR "FellTreeModel" "hold " 105 8 (by omega) (hts (.stringRef "FellTreeModel" 105 "hold ") (List.mem_append_right _ (List.mem_append_right _ (List.mem_append_right _ (List.mem_append_right _ (List.mem_append_left _ (List.mem_of_getElem? (i := 168) (by decide +kernel)))))))) (hev 8 (by omega))
    · exact hR "FellTreeModel" "split " 111 9 (by omega) (hts (.stringRef "FellTreeModel" 111 "split ") (List.mem_append_right _ (List.mem_append_right _ (List.mem_append_right _ (List.mem_append_right _ (List.mem_append_left _ (List.mem_of_getElem? (i := 209) (by decide +kernel)))))))) (hev 9 (by omega))
    · exact hR "FellTreeModel" "ind " 113 10 (by omega) (hts (.stringRef "FellTreeModel" 113 "ind ") (List.mem_append_right _ (List.mem_append_right _ (List.mem_append_right _ (List.mem_append_right _ (List.mem_append_left _ (List.mem_of_getElem? (i := 210) (by decide +kernel)))))))) (hev 10 (by omega))
    · exact hR "FellTreeModel" "edge " 115 11 (by omega) (hts (.stringRef "FellTreeModel" 115 "edge ") (List.mem_append_right _ (List.mem_append_right _ (List.mem_append_right _ (List.mem_append_right _ (List.mem_append_left _ (List.mem_of_getElem? (i := 211) (by decide +kernel)))))))) (hev 11 (by omega))
    · exact hR "FellTreeModel" "rope " 120 12 (by omega) (hts (.stringRef "FellTreeModel" 120 "rope ") (List.mem_append_right _ (List.mem_append_right _ (List.mem_append_right _ (List.mem_append_right _ (List.mem_append_left _ (List.mem_of_getElem? (i := 216) (by decide +kernel)))))))) (hev 12 (by omega))
    · exact hR "FellTreeModel" "tkhlow" 87 6 (by omega) (hts (.stringRef "FellTreeModel" 87 "tkhlow") (List.mem_append_right _ (List.mem_append_right _ (List.mem_append_right _ (List.mem_append_right _ (List.mem_append_left _ (List.mem_of_getElem? (i := 203) (by decide +kernel)))))))) (va_eqR (hs (Cond.eq (.string "FellTree$Reader" 115) (.string "FellTreeModel" 87)) (by decide +kernel)) (hev 6 (by omega)))
    · exact hR "FellTreeModel" "<=>" 93 7 (by omega) (hts (.stringRef "FellTreeModel" 93 "<=>") (List.mem_append_right _ (List.mem_append_right _ (List.mem_append_right _ (List.mem_append_right _ (List.mem_append_left _ (List.mem_of_getElem? (i := 208) (by decide +kernel)))))))) (va_eqR (hs (Cond.eq (.string "FellTree$Reader" 117) (.string "FellTreeModel" 93)) (by decide +kernel)) (hev 7 (by omega)))
  · rw [e3 t ht]
    refine ⟨va_Zref ?_ (hts (.initialized "FellTree") (List.mem_append_right _ (List.mem_append_left _ (List.mem_of_getElem? (i := 1) (by decide +kernel))))) (htb t ht).1 hA, (htb t ht).2⟩
    match t, ht with
    | 0, _ => exact (hts (.laysStatic "FellTree" "KIND_ABOVE" "[I") (List.mem_append_right _ (List.mem_append_right _ (List.mem_append_right _ (List.mem_append_right _ (List.mem_append_left _ (List.mem_of_getElem? (i := 25) (by decide +kernel))))))))
    | 1, _ => exact (hts (.laysStatic "FellTree" "ROWS_ON" "[I") (List.mem_append_right _ (List.mem_append_right _ (List.mem_append_right _ (List.mem_append_left _ (List.mem_of_getElem? (i := 115) (by decide +kernel)))))))
    | 2, _ => exact (hts (.laysStatic "FellTree" "COLUMNS_ON" "[I") (List.mem_append_right _ (List.mem_append_right _ (List.mem_append_right _ (List.mem_append_left _ (List.mem_of_getElem? (i := 117) (by decide +kernel)))))))
    | n + 3, h => exact absurd h (by omega)
  · exact (a_nestE hts).1

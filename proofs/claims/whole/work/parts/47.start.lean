/-! THE START: what the Statement gives -/
theorem a_nestE {s : State} {args : Array Value} (hts : ∀ w ∈ lw_tbl, w.before args s = true) : aE s := by
  refine ⟨?_, (va_AO.of (hts (.arrayOver (.object "FellTree$Tree")) (List.mem_append_right _ (List.mem_append_left _ (List.mem_of_getElem? (i := 76) (by decide +kernel))))))⟩
  intro q hq
  simp only [a_nest, List.mem_cons, List.not_mem_nil, or_false] at hq
  rcases hq with rfl | rfl | rfl | rfl | rfl | rfl | rfl | rfl | rfl | rfl
  · exact va_Nw.of rfl (hts (.methodLinkNest "FellTree$Course" 133 yX6_nextPlace "FellTree") (List.mem_append_right _ (List.mem_append_right _ (List.mem_append_right _ (List.mem_append_left _ (List.mem_of_getElem? (i := 111) (by decide +kernel)))))))
  · exact va_Nw.of rfl (hts (.methodLinkNest "FellTree$Course" 70 yX6_alongOf "FellTree") (List.mem_append_right _ (List.mem_append_right _ (List.mem_append_right _ (List.mem_append_left _ (List.mem_of_getElem? (i := 75) (by decide +kernel)))))))
  · exact va_Nw.of rfl (hts (.methodLinkNest "FellTree$Course" 79 yX6_sideOf "FellTree") (List.mem_append_right _ (List.mem_append_right _ (List.mem_append_right _ (List.mem_append_left _ (List.mem_of_getElem? (i := 82) (by decide +kernel)))))))
  · exact va_Nw.of rfl (hts (.methodLinkNest "FellTree$Ground" 66 yX6_outside "FellTree") (List.mem_append_right _ (List.mem_append_right _ (List.mem_append_right _ (List.mem_append_left _ (List.mem_of_getElem? (i := 31) (by decide +kernel)))))))
  · exact va_Nw.of rfl (hts (.methodLinkNest "FellTree$Ground" 77 yX6_bitOf "FellTree") (List.mem_append_right _ (List.mem_append_right _ (List.mem_append_right _ (List.mem_append_left _ (List.mem_of_getElem? (i := 104) (by decide +kernel)))))))
  · exact va_Nw.of rfl (hts (.methodLinkNest "FellTree$Ground" 32 yX4_init "FellTree") (List.mem_append_right _ (List.mem_append_left _ (List.mem_of_getElem? (i := 78) (by decide +kernel)))))
  · exact va_Nw.of rfl (hts (.methodLinkNest "FellTree" 20 yX3_init "FellTree") (List.mem_append_right _ (List.mem_append_left _ (List.mem_of_getElem? (i := 184) (by decide +kernel)))))
  · exact va_Nw.of rfl (hts (.methodLinkNest "FellTree" 27 yX1_init "FellTree") (List.mem_append_right _ (List.mem_append_left _ (List.mem_of_getElem? (i := 207) (by decide +kernel)))))
  · exact va_Nw.of rfl (hts (.methodLinkNest "FellTree" 34 yX0_init "FellTree") (List.mem_append_right _ (List.mem_append_right _ (List.mem_append_left _ (List.mem_of_getElem? (i := 12) (by decide +kernel))))))
  · exact va_Nw.of rfl (hts (.methodLinkNest "FellTree" 41 yX4_init "FellTree") (List.mem_append_right _ (List.mem_append_right _ (List.mem_append_left _ (List.mem_of_getElem? (i := 26) (by decide +kernel))))))
def a_tm (i : Nat) : Term := .string (a_strR.getD i ("", 0, "", 0)).1 (a_strR.getD i ("", 0, "", 0)).2.1
def a_FL : List Cond := flatC (Jvm.Cond.and given_1 narrow_1)
theorem st_ex : ∀ i, i < 13 → Cond.exactly (a_tm i) "java/lang/String" ∈ a_FL := by decide +kernel
theorem st_co : ∀ i, i < 13 → Cond.eq (.field (a_tm i) "java/lang/String" "coder" "B") (.int 0) ∈ a_FL := by decide +kernel
theorem st_ar : ∀ i, i < 13 → Cond.arrayOf (.field (a_tm i) "java/lang/String" "value" "[B") .byte ∈ a_FL := by decide +kernel
theorem st_le : ∀ i, i < 13 → Cond.eq (.length (.field (a_tm i) "java/lang/String" "value" "[B")) (.int (Int32.ofNat (a_strL.getD i 0))) ∈ a_FL := by decide +kernel
theorem st_el : ∀ i, i < 13 → ∀ j, j < a_strL.getD i 0 → Cond.eq (.elem (.field (a_tm i) "java/lang/String" "value" "[B") (.int (Int32.ofNat j))) (.int ((a_strB.getD i []).getD j 0)) ∈ a_FL := by decide +kernel
theorem st_ne_0 : ∀ j, j < 13 → 0 ≠ j → Cond.not (Cond.eq (a_tm 0) (a_tm j)) ∈ a_FL ∨ Cond.not (Cond.eq (a_tm j) (a_tm 0)) ∈ a_FL := by decide +kernel
theorem st_ne_1 : ∀ j, j < 13 → 1 ≠ j → Cond.not (Cond.eq (a_tm 1) (a_tm j)) ∈ a_FL ∨ Cond.not (Cond.eq (a_tm j) (a_tm 1)) ∈ a_FL := by decide +kernel
theorem st_ne_2 : ∀ j, j < 13 → 2 ≠ j → Cond.not (Cond.eq (a_tm 2) (a_tm j)) ∈ a_FL ∨ Cond.not (Cond.eq (a_tm j) (a_tm 2)) ∈ a_FL := by decide +kernel
theorem st_ne_3 : ∀ j, j < 13 → 3 ≠ j → Cond.not (Cond.eq (a_tm 3) (a_tm j)) ∈ a_FL ∨ Cond.not (Cond.eq (a_tm j) (a_tm 3)) ∈ a_FL := by decide +kernel
theorem st_ne_4 : ∀ j, j < 13 → 4 ≠ j → Cond.not (Cond.eq (a_tm 4) (a_tm j)) ∈ a_FL ∨ Cond.not (Cond.eq (a_tm j) (a_tm 4)) ∈ a_FL := by decide +kernel
theorem st_ne_5 : ∀ j, j < 13 → 5 ≠ j → Cond.not (Cond.eq (a_tm 5) (a_tm j)) ∈ a_FL ∨ Cond.not (Cond.eq (a_tm j) (a_tm 5)) ∈ a_FL := by decide +kernel
theorem st_ne_6 : ∀ j, j < 13 → 6 ≠ j → Cond.not (Cond.eq (a_tm 6) (a_tm j)) ∈ a_FL ∨ Cond.not (Cond.eq (a_tm j) (a_tm 6)) ∈ a_FL := by decide +kernel
theorem st_ne_7 : ∀ j, j < 13 → 7 ≠ j → Cond.not (Cond.eq (a_tm 7) (a_tm j)) ∈ a_FL ∨ Cond.not (Cond.eq (a_tm j) (a_tm 7)) ∈ a_FL := by decide +kernel
theorem st_ne_8 : ∀ j, j < 13 → 8 ≠ j → Cond.not (Cond.eq (a_tm 8) (a_tm j)) ∈ a_FL ∨ Cond.not (Cond.eq (a_tm j) (a_tm 8)) ∈ a_FL := by decide +kernel
theorem st_ne_9 : ∀ j, j < 13 → 9 ≠ j → Cond.not (Cond.eq (a_tm 9) (a_tm j)) ∈ a_FL ∨ Cond.not (Cond.eq (a_tm j) (a_tm 9)) ∈ a_FL := by decide +kernel
theorem st_ne_10 : ∀ j, j < 13 → 10 ≠ j → Cond.not (Cond.eq (a_tm 10) (a_tm j)) ∈ a_FL ∨ Cond.not (Cond.eq (a_tm j) (a_tm 10)) ∈ a_FL := by decide +kernel
theorem st_ne_11 : ∀ j, j < 13 → 11 ≠ j → Cond.not (Cond.eq (a_tm 11) (a_tm j)) ∈ a_FL ∨ Cond.not (Cond.eq (a_tm j) (a_tm 11)) ∈ a_FL := by decide +kernel
theorem st_ne_12 : ∀ j, j < 13 → 12 ≠ j → Cond.not (Cond.eq (a_tm 12) (a_tm j)) ∈ a_FL ∨ Cond.not (Cond.eq (a_tm j) (a_tm 12)) ∈ a_FL := by decide +kernel
theorem st_ne : ∀ i, i < 13 → ∀ j, j < 13 → i ≠ j → Cond.not (Cond.eq (a_tm i) (a_tm j)) ∈ a_FL ∨ Cond.not (Cond.eq (a_tm j) (a_tm i)) ∈ a_FL := by
  intro i hi
  match i, hi with
  | 0, _ => exact st_ne_0
  | 1, _ => exact st_ne_1
  | 2, _ => exact st_ne_2
  | 3, _ => exact st_ne_3
  | 4, _ => exact st_ne_4
  | 5, _ => exact st_ne_5
  | 6, _ => exact st_ne_6
  | 7, _ => exact st_ne_7
  | 8, _ => exact st_ne_8
  | 9, _ => exact st_ne_9
  | 10, _ => exact st_ne_10
  | 11, _ => exact st_ne_11
  | 12, _ => exact st_ne_12
  | n + 13, h => exact absurd h (by omega)
theorem tb_ar : ∀ t, t < 3 → Cond.arrayOf (.static "FellTree" (a_tabN.getD t "") "[I") .int ∈ a_FL := by decide +kernel
theorem tb_le : ∀ t, t < 3 → Cond.eq (.length (.static "FellTree" (a_tabN.getD t "") "[I")) (.int (Int32.ofNat (a_tab.getD t []).length)) ∈ a_FL := by decide +kernel
theorem tb_el : ∀ t, t < 3 → ∀ j, j < (a_tab.getD t []).length → Cond.eq (.elem (.static "FellTree" (a_tabN.getD t "") "[I") (.int (Int32.ofNat j))) (.int ((a_tab.getD t []).getD j 0)) ∈ a_FL := by decide +kernel

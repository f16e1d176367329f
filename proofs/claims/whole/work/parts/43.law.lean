/-! THE CLAIM OUT OF ONE WALK OF THE LAW'S BODY. Your part is whole_start (and what it stands on); all else here is the same for every law, but numbers. -/
def R_law : String := "FellTreeLaw"
def lw_P (b : Addr) (xs : List Int32) (args : Array Value) (s : State) : Prop := args = #[.ref b] ∧ s.IntsAt b xs ∧ xs.length ≤ 320 ∧ (Jvm.Cond.and given_1 narrow_1).before args s = true
def lw_Q (_ : Array Value) (s : State) (o : Outcome) (t : State) : Prop := o = .returned (some (.int 1)) ∧ Framed s o t [] 600000 7302250
def lw_Z (below : List Frame) (a : Array Value) (s : State) : State → Prop := fun t => ∃ o, t.status = .running ∧ Ended t below o ∧ lw_Q a s o t
/-- the law's own end, with 1 on the stack, nothing written that was there before, its room as the claim has it -/
theorem lw_ret {p : Program} {l : Launch} {e : Env} {s : State} {m : MethodId} {below : List Frame} {meth : Method} {c : Code} {b : Nat} (hx : p.tables.exec = Jvm.exec) (hb : c.code = code) (hr : meth.sig.returnType = ret) (hlocks : meth.locks = false) {pc : Nat} {H : Heap} {ls : Array Slot} (hdg : decode code pc = .ok (.ireturn, 1)) : W p l e room_1 s m #[Value.ref b] below meth c H [] 600000 7302250 (lw_Z below #[Value.ref b] s) (F0 m pc ls [.int 1]) := by
  intro T hT X
  obtain ⟨fs, hret, hrun, hended, hW, hframe⟩ := X.leave (v := some (.int 1)) (hlocks := hlocks) (fun h => by rw [hr] at h; cases h)
  have hmeth' : T.vm.method? m = some meth := X.method'
  refine ⟨T.setFrames fs, ?_, .returned (some (.int 1)), hrun, hended, rfl, ⟨_, rfl⟩, hW, hframe⟩
  jvm_step X.here [X.here.top, hx, hb, hdg, hmeth', hr, ret, narrow_b1]
  (try refine ⟨rfl, ?_⟩); (try refine ⟨rfl, ?_⟩)
  first | (intro acts; rw [hret _ acts rfl rfl rfl]) | rw [hret _ _ rfl rfl rfl]
  exact Steps.refl _
/-- what holds at the law's entry: the machine, the code, the tables' words (any of lw_tbl by 'hts w (by decide +kernel)'), the script of L ints xs at the cell b, what the Statement gives of the start (any of its parts by flat_of_before) -/
def lw_At (p : Program) (s : State) (m : MethodId) (meth : Method) (c : Code) (b L : Nat) (xs : Nat → Int32) : Prop :=
  p.tables.exec = Jvm.exec ∧ c.code = code ∧ meth.sig.returnType = ret ∧ c.maxLocals = 4 ∧ s.vm.findClass R_law = some m.cls ∧ (∀ w ∈ lw_tbl, w.before #[Value.ref b] s = true) ∧ va_X b L xs s s.heap ∧ b < s.heap.size ∧ meth.locks = false ∧ (Jvm.Cond.and given_1 narrow_1).before #[Value.ref b] s = true
/-! THE LAW: what the pure part owes, and the loop -/
def cuK (K : Option Nat) : Nat := match K with | none => 500 | some _ => 600
def suK (K : Option Nat) : Nat := match K with | none => 9000 | some _ => 10000
theorem cuK_le (K : Option Nat) : cuK K ≤ room_1.cells := by cases K <;> exact Nat.le_of_ble_eq_true rfl
theorem suK_le (K : Option Nat) : suK K ≤ room_1.slots := by cases K <;> exact Nat.le_of_ble_eq_true rfl
def sxI (S : aSt) : aSt := (fun k => if 34 ≤ k then (if k = 37 then rwW else fun _ => 0) else S.1 k, fun k => if k = 34 then fun _ => 0 else S.2 k)
def pu_things (Rel : Option Nat → aSt → aSt → Prop) : Prop := ∀ (K : Option Nat) (SX SM : aSt) (p1 : Int64), Rel K SX SM → ∃ (r : Int32) (SX1 SM1 : aSt), f_X6_things p1 SX = some (r, SX1) ∧ f_X7_things p1 SM = some (r, SM1) ∧ Rel K SX1 SM1
def pu_feed (Rel : Option Nat → aSt → aSt → Prop) : Prop := ∀ (K : Option Nat) (SX SM : aSt) (p1 : Int32), Rel K SX SM → ∃ (r : Int32) (SX1 SM1 : aSt), f_X6_feed p1 SX = some (r, SX1) ∧ f_X7_feed p1 SM = some (r, SM1) ∧ Rel K SX1 SM1
def pu_wood (Rel : Option Nat → aSt → aSt → Prop) : Prop := ∀ (K : Option Nat) (SX SM : aSt) , Rel K SX SM → ∃ (r : Int32) (SX1 SM1 : aSt), f_X6_wood  SX = some (r, SX1) ∧ f_X7_wood  SM = some (r, SM1) ∧ Rel K SX1 SM1
def pu_told (Rel : Option Nat → aSt → aSt → Prop) : Prop := ∀ (K : Option Nat) (SX SM : aSt) (p1 : Int32), Rel K SX SM → ∃ (r : Int32) (SX1 SM1 : aSt), f_X6_told p1 SX = some (r, SX1) ∧ f_X7_told p1 SM = some (r, SM1) ∧ Rel K SX1 SM1
def pu_tree (Rel : Option Nat → aSt → aSt → Prop) : Prop := ∀ (K : Option Nat) (SX SM : aSt) (p1 : Int32) (p2 : Int32) (p3 : Int32) (p4 : Int32), Rel K SX SM → ∃ (r : Int32) (SX1 SM1 : aSt), f_X6_tree p1 p2 p3 p4 SX = some (r, SX1) ∧ f_X7_tree p1 p2 p3 p4 SM = some (r, SM1) ∧ Rel K SX1 SM1
def pu_lean (Rel : Option Nat → aSt → aSt → Prop) : Prop := ∀ (K : Option Nat) (SX SM : aSt) (p1 : Int32) (p2 : Int32) (p3 : Int32) (p4 : Int32), Rel K SX SM → ∃ (r : Int32) (SX1 SM1 : aSt), f_X6_lean p1 p2 p3 p4 SX = some (r, SX1) ∧ f_X7_lean p1 p2 p3 p4 SM = some (r, SM1) ∧ Rel K SX1 SM1
def pu_of (Rel : Option Nat → aSt → aSt → Prop) : Prop := ∀ (K : Option Nat) (SX SM : aSt) (p1 : Int32) (p2 : Int32), Rel K SX SM → ∃ (r : Int32) (SX1 SM1 : aSt), f_X6_of p1 p2 SX = some (r, SX1) ∧ f_X7_of p1 p2 SM = some (r, SM1) ∧ Rel K SX1 SM1
def pu_plan (Rel : Option Nat → aSt → aSt → Prop) : Prop := ∀ (K : Option Nat) (SX SM : aSt) (p1 : Int32) (p2 : Int32) (p3 : Int32), Rel K SX SM → ∃ (r : Int32) (SX1 SM1 : aSt), f_X6_plan p1 p2 p3 SX = some (r, SX1) ∧ f_X7_plan p1 p2 p3 SM = some (r, SM1) ∧ Rel K SX1 SM1
def pu_goes (Rel : Option Nat → aSt → aSt → Prop) : Prop := ∀ (K : Option Nat) (SX SM : aSt) (p1 : Int32) (p2 : Int32), Rel K SX SM → ∃ (r : Int32) (SX1 SM1 : aSt), f_X6_goes p1 p2 SX = some (r, SX1) ∧ f_X7_goes p1 p2 SM = some (r, SM1) ∧ Rel K SX1 SM1
def pu_lies (Rel : Option Nat → aSt → aSt → Prop) : Prop := ∀ (K : Option Nat) (SX SM : aSt) (p1 : Int32), Rel K SX SM → ∃ (r : Int64) (SX1 SM1 : aSt), f_X6_lies p1 SX = some (r, SX1) ∧ f_X7_lies p1 SM = some (r, SM1) ∧ Rel K SX1 SM1
def pu_fell (Rel : Option Nat → aSt → aSt → Prop) : Prop := ∀ (K : Option Nat) (SX SM : aSt) (p1 : Int32), Rel K SX SM → ∃ (r : Int32) (SX1 SM1 : aSt), f_X6_fell p1 SX = some (r, SX1) ∧ f_X7_fell p1 SM = some (r, SM1) ∧ Rel K SX1 SM1
def pu_wide (Rel : Option Nat → aSt → aSt → Prop) : Prop := ∀ (K : Option Nat) (SX SM : aSt) (p1 : Int32) (p2 : Int32), Rel K SX SM → ∃ (r : Int32) (SX1 SM1 : aSt), f_X6_wide p1 p2 SX = some (r, SX1) ∧ f_X7_wide p1 p2 SM = some (r, SM1) ∧ Rel K SX1 SM1
def pu_least (Rel : Option Nat → aSt → aSt → Prop) : Prop := ∀ (K : Option Nat) (SX SM : aSt) (p1 : Int32) (p2 : Int32), Rel K SX SM → ∃ (r : Int32) (SX1 SM1 : aSt), f_X6_least p1 p2 SX = some (r, SX1) ∧ f_X7_least p1 p2 SM = some (r, SM1) ∧ Rel K SX1 SM1
def pu_gusts (Rel : Option Nat → aSt → aSt → Prop) : Prop := ∀ (K : Option Nat) (SX SM : aSt) (p1 : Int32), Rel K SX SM → ∃ (r : Int32) (SX1 SM1 : aSt), f_X6_gusts p1 SX = some (r, SX1) ∧ f_X7_gusts p1 SM = some (r, SM1) ∧ Rel K SX1 SM1
def pu_sure (Rel : Option Nat → aSt → aSt → Prop) : Prop := ∀ (K : Option Nat) (SX SM : aSt) (p1 : Int32) (p2 : Int32) (p3 : Int32), Rel K SX SM → ∃ (r : Int64) (SX1 SM1 : aSt), f_X6_sure p1 p2 p3 SX = some (r, SX1) ∧ f_X7_sure p1 p2 p3 SM = some (r, SM1) ∧ Rel K SX1 SM1
def pu_stand (Rel : Option Nat → aSt → aSt → Prop) : Prop := ∀ (K : Option Nat) (SX SM : aSt) (p1 : Int32), Rel K SX SM → ∃ (r : Int64) (SX1 SM1 : aSt), f_X6_stand p1 SX = some (r, SX1) ∧ f_X7_stand p1 SM = some (r, SM1) ∧ Rel K SX1 SM1
def pu_order (Rel : Option Nat → aSt → aSt → Prop) : Prop := ∀ (K : Option Nat) (SX SM : aSt) (p1 : Int32), Rel K SX SM → ∃ (r : Int32) (SX1 SM1 : aSt), f_X6_order p1 SX = some (r, SX1) ∧ f_X7_order p1 SM = some (r, SM1) ∧ Rel K SX1 SM1
def pu_hung (Rel : Option Nat → aSt → aSt → Prop) : Prop := ∀ (K : Option Nat) (SX SM : aSt) , Rel K SX SM → ∃ (r : Int32) (SX1 SM1 : aSt), f_X6_hung  SX = some (r, SX1) ∧ f_X7_hung  SM = some (r, SM1) ∧ Rel K SX1 SM1
def pu_blame (Rel : Option Nat → aSt → aSt → Prop) : Prop := ∀ (K : Option Nat) (SX SM : aSt) (p1 : Int32) (p2 : Int32), Rel K SX SM → ∃ (r : Int32) (SX1 SM1 : aSt), f_X6_blame p1 p2 SX = some (r, SX1) ∧ f_X7_blame p1 p2 SM = some (r, SM1) ∧ Rel K SX1 SM1
def pu_knock (Rel : Option Nat → aSt → aSt → Prop) : Prop := ∀ (K : Option Nat) (SX SM : aSt) (p1 : Int32) (p2 : Int32), Rel K SX SM → ∃ (r : Int32) (SX1 SM1 : aSt), f_X6_knock p1 p2 SX = some (r, SX1) ∧ f_X7_knock p1 p2 SM = some (r, SM1) ∧ Rel K SX1 SM1
def pu_limbs (Rel : Option Nat → aSt → aSt → Prop) : Prop := ∀ (K : Option Nat) (SX SM : aSt) (p1 : Int32), Rel K SX SM → ∃ (r : Int32) (SX1 SM1 : aSt), f_X6_limbs p1 SX = some (r, SX1) ∧ f_X7_limbs p1 SM = some (r, SM1) ∧ Rel K SX1 SM1
def pu_book (Rel : Option Nat → aSt → aSt → Prop) : Prop := ∀ (K : Option Nat) (SX SM : aSt) (p1 : Int32), Rel K SX SM → ∃ (r : Int32) (SX1 SM1 : aSt), f_X6_book p1 SX = some (r, SX1) ∧ f_X7_book p1 SM = some (r, SM1) ∧ Rel K SX1 SM1
def pu_judged (Rel : Option Nat → aSt → aSt → Prop) : Prop := ∀ (K : Option Nat) (SX SM : aSt) (p1 : Int32), Rel K SX SM → ∃ (r : Int32) (SX1 SM1 : aSt), f_X6_judged p1 SX = some (r, SX1) ∧ f_X7_judged p1 SM = some (r, SM1) ∧ Rel K SX1 SM1
def pu_act (Rel : Option Nat → aSt → aSt → Prop) : Prop := ∀ (K : Option Nat) (SX SM : aSt) (p1 : Int32) (p2 : Int32) (p3 : Int32), Rel K SX SM → ∃ (r : Int32) (SX1 SM1 : aSt), f_X6_act p1 p2 p3 SX = some (r, SX1) ∧ f_X7_act p1 p2 p3 SM = some (r, SM1) ∧ Rel K SX1 SM1
def pu_trace (Rel : Option Nat → aSt → aSt → Prop) : Prop := ∀ (K : Option Nat) (SX SM : aSt) (p1 : Int32), Rel K SX SM → ∃ (r : Int32) (SX1 SM1 : aSt), f_X6_trace p1 SX = some (r, SX1) ∧ f_X7_trace p1 SM = some (r, SM1) ∧ Rel K SX1 SM1
def pu_as (Rel : Option Nat → aSt → aSt → Prop) : Prop := ∀ (K : Option Nat) (SX SM : aSt) (p1 : Int32) (p2 : Int32), Rel K SX SM → ∃ (r : Int32) (SX1 SM1 : aSt), f_X6_as p1 p2 SX = some (r, SX1) ∧ f_X7_as p1 p2 SM = some (r, SM1) ∧ Rel K SX1 SM1
def pu_count (Rel : Option Nat → aSt → aSt → Prop) : Prop := ∀ (K : Option Nat) (SX SM : aSt) (p1 : Int32), Rel K SX SM → ∃ (r : Int32) (SX1 SM1 : aSt), f_X6_count p1 SX = some (r, SX1) ∧ f_X7_count p1 SM = some (r, SM1) ∧ Rel K SX1 SM1
def pu_imageN (Rel : Option Nat → aSt → aSt → Prop) : Prop := ∀ (SX SM : aSt), Rel none SX SM → ∃ (SX1 SM1 : aSt), f_X2_copyFrom 34 1 (sxI SX) = some ((), SX1) ∧ f_X7_image SM = some (SX1.1 1 4, SM1) ∧ Rel (some 34) SX1 SM1
def pu_imageK (Rel : Option Nat → aSt → aSt → Prop) : Prop := ∀ (SX SM : aSt), Rel (some 34) SX SM → ∃ (r : Int32) (SX1 SM1 : aSt), f_X6_image_K SX = some (r, SX1) ∧ f_X7_image SM = some (r, SM1) ∧ Rel (some 34) SX1 SM1
def pu_undoN (Rel : Option Nat → aSt → aSt → Prop) : Prop := ∀ (SX SM : aSt), Rel none SX SM → ∃ (r : Int32) (SX1 SM1 : aSt), f_X6_undo_N SX = some (r, SX1) ∧ f_X7_undo SM = some (r, SM1) ∧ Rel none SX1 SM1
def pu_undoK (Rel : Option Nat → aSt → aSt → Prop) : Prop := ∀ (SX SM : aSt), Rel (some 34) SX SM → ∃ (r : Int32) (SX1 SM1 : aSt), f_X6_undo_K SX = some (r, SX1) ∧ f_X7_undo SM = some (r, SM1) ∧ Rel (some 34) SX1 SM1
def aPure (Rel : Option Nat → aSt → aSt → Prop) : Prop := pu_things Rel ∧ pu_feed Rel ∧ pu_wood Rel ∧ pu_told Rel ∧ pu_tree Rel ∧ pu_lean Rel ∧ pu_of Rel ∧ pu_plan Rel ∧ pu_goes Rel ∧ pu_lies Rel ∧ pu_fell Rel ∧ pu_wide Rel ∧ pu_least Rel ∧ pu_gusts Rel ∧ pu_sure Rel ∧ pu_stand Rel ∧ pu_order Rel ∧ pu_hung Rel ∧ pu_blame Rel ∧ pu_knock Rel ∧ pu_limbs Rel ∧ pu_book Rel ∧ pu_judged Rel ∧ pu_act Rel ∧ pu_trace Rel ∧ pu_as Rel ∧ pu_count Rel ∧ pu_imageN Rel ∧ pu_imageK Rel ∧ pu_undoN Rel ∧ pu_undoK Rel
theorem lw_dd_X6_things : yX6_things.cls = RX6 ∧ yX6_things.cls ≠ "java/lang/invoke/MethodHandle" ∧ yX6_things.cls ≠ "java/lang/invoke/VarHandle" ∧ (parseMethodDescriptor yX6_things.desc).map (fun d => d.parameters.length) = some 1 := by decide +kernel
theorem lw_dd_X7_things : yX7_things.cls = RX7 ∧ yX7_things.cls ≠ "java/lang/invoke/MethodHandle" ∧ yX7_things.cls ≠ "java/lang/invoke/VarHandle" ∧ (parseMethodDescriptor yX7_things.desc).map (fun d => d.parameters.length) = some 1 := by decide +kernel
theorem lw_dd_X6_feed : yX6_feed.cls = RX6 ∧ yX6_feed.cls ≠ "java/lang/invoke/MethodHandle" ∧ yX6_feed.cls ≠ "java/lang/invoke/VarHandle" ∧ (parseMethodDescriptor yX6_feed.desc).map (fun d => d.parameters.length) = some 1 := by decide +kernel
theorem lw_dd_X7_feed : yX7_feed.cls = RX7 ∧ yX7_feed.cls ≠ "java/lang/invoke/MethodHandle" ∧ yX7_feed.cls ≠ "java/lang/invoke/VarHandle" ∧ (parseMethodDescriptor yX7_feed.desc).map (fun d => d.parameters.length) = some 1 := by decide +kernel
theorem lw_dd_X6_wood : yX6_wood.cls = RX6 ∧ yX6_wood.cls ≠ "java/lang/invoke/MethodHandle" ∧ yX6_wood.cls ≠ "java/lang/invoke/VarHandle" ∧ (parseMethodDescriptor yX6_wood.desc).map (fun d => d.parameters.length) = some 0 := by decide +kernel
theorem lw_dd_X7_wood : yX7_wood.cls = RX7 ∧ yX7_wood.cls ≠ "java/lang/invoke/MethodHandle" ∧ yX7_wood.cls ≠ "java/lang/invoke/VarHandle" ∧ (parseMethodDescriptor yX7_wood.desc).map (fun d => d.parameters.length) = some 0 := by decide +kernel
theorem lw_dd_X6_told : yX6_told.cls = RX6 ∧ yX6_told.cls ≠ "java/lang/invoke/MethodHandle" ∧ yX6_told.cls ≠ "java/lang/invoke/VarHandle" ∧ (parseMethodDescriptor yX6_told.desc).map (fun d => d.parameters.length) = some 1 := by decide +kernel
theorem lw_dd_X7_told : yX7_told.cls = RX7 ∧ yX7_told.cls ≠ "java/lang/invoke/MethodHandle" ∧ yX7_told.cls ≠ "java/lang/invoke/VarHandle" ∧ (parseMethodDescriptor yX7_told.desc).map (fun d => d.parameters.length) = some 1 := by decide +kernel
theorem lw_dd_X6_tree : yX6_tree.cls = RX6 ∧ yX6_tree.cls ≠ "java/lang/invoke/MethodHandle" ∧ yX6_tree.cls ≠ "java/lang/invoke/VarHandle" ∧ (parseMethodDescriptor yX6_tree.desc).map (fun d => d.parameters.length) = some 4 := by decide +kernel
theorem lw_dd_X7_tree : yX7_tree.cls = RX7 ∧ yX7_tree.cls ≠ "java/lang/invoke/MethodHandle" ∧ yX7_tree.cls ≠ "java/lang/invoke/VarHandle" ∧ (parseMethodDescriptor yX7_tree.desc).map (fun d => d.parameters.length) = some 4 := by decide +kernel
theorem lw_dd_X6_lean : yX6_lean.cls = RX6 ∧ yX6_lean.cls ≠ "java/lang/invoke/MethodHandle" ∧ yX6_lean.cls ≠ "java/lang/invoke/VarHandle" ∧ (parseMethodDescriptor yX6_lean.desc).map (fun d => d.parameters.length) = some 4 := by decide +kernel
theorem lw_dd_X7_lean : yX7_lean.cls = RX7 ∧ yX7_lean.cls ≠ "java/lang/invoke/MethodHandle" ∧ yX7_lean.cls ≠ "java/lang/invoke/VarHandle" ∧ (parseMethodDescriptor yX7_lean.desc).map (fun d => d.parameters.length) = some 4 := by decide +kernel
theorem lw_dd_X6_of : yX6_of.cls = RX6 ∧ yX6_of.cls ≠ "java/lang/invoke/MethodHandle" ∧ yX6_of.cls ≠ "java/lang/invoke/VarHandle" ∧ (parseMethodDescriptor yX6_of.desc).map (fun d => d.parameters.length) = some 2 := by decide +kernel
theorem lw_dd_X7_of : yX7_of.cls = RX7 ∧ yX7_of.cls ≠ "java/lang/invoke/MethodHandle" ∧ yX7_of.cls ≠ "java/lang/invoke/VarHandle" ∧ (parseMethodDescriptor yX7_of.desc).map (fun d => d.parameters.length) = some 2 := by decide +kernel
theorem lw_dd_X6_plan : yX6_plan.cls = RX6 ∧ yX6_plan.cls ≠ "java/lang/invoke/MethodHandle" ∧ yX6_plan.cls ≠ "java/lang/invoke/VarHandle" ∧ (parseMethodDescriptor yX6_plan.desc).map (fun d => d.parameters.length) = some 3 := by decide +kernel
theorem lw_dd_X7_plan : yX7_plan.cls = RX7 ∧ yX7_plan.cls ≠ "java/lang/invoke/MethodHandle" ∧ yX7_plan.cls ≠ "java/lang/invoke/VarHandle" ∧ (parseMethodDescriptor yX7_plan.desc).map (fun d => d.parameters.length) = some 3 := by decide +kernel
theorem lw_dd_X6_goes : yX6_goes.cls = RX6 ∧ yX6_goes.cls ≠ "java/lang/invoke/MethodHandle" ∧ yX6_goes.cls ≠ "java/lang/invoke/VarHandle" ∧ (parseMethodDescriptor yX6_goes.desc).map (fun d => d.parameters.length) = some 2 := by decide +kernel
theorem lw_dd_X7_goes : yX7_goes.cls = RX7 ∧ yX7_goes.cls ≠ "java/lang/invoke/MethodHandle" ∧ yX7_goes.cls ≠ "java/lang/invoke/VarHandle" ∧ (parseMethodDescriptor yX7_goes.desc).map (fun d => d.parameters.length) = some 2 := by decide +kernel
theorem lw_dd_X6_lies : yX6_lies.cls = RX6 ∧ yX6_lies.cls ≠ "java/lang/invoke/MethodHandle" ∧ yX6_lies.cls ≠ "java/lang/invoke/VarHandle" ∧ (parseMethodDescriptor yX6_lies.desc).map (fun d => d.parameters.length) = some 1 := by decide +kernel
theorem lw_dd_X7_lies : yX7_lies.cls = RX7 ∧ yX7_lies.cls ≠ "java/lang/invoke/MethodHandle" ∧ yX7_lies.cls ≠ "java/lang/invoke/VarHandle" ∧ (parseMethodDescriptor yX7_lies.desc).map (fun d => d.parameters.length) = some 1 := by decide +kernel
theorem lw_dd_X6_fell : yX6_fell.cls = RX6 ∧ yX6_fell.cls ≠ "java/lang/invoke/MethodHandle" ∧ yX6_fell.cls ≠ "java/lang/invoke/VarHandle" ∧ (parseMethodDescriptor yX6_fell.desc).map (fun d => d.parameters.length) = some 1 := by decide +kernel
theorem lw_dd_X7_fell : yX7_fell.cls = RX7 ∧ yX7_fell.cls ≠ "java/lang/invoke/MethodHandle" ∧ yX7_fell.cls ≠ "java/lang/invoke/VarHandle" ∧ (parseMethodDescriptor yX7_fell.desc).map (fun d => d.parameters.length) = some 1 := by decide +kernel
theorem lw_dd_X6_wide : yX6_wide.cls = RX6 ∧ yX6_wide.cls ≠ "java/lang/invoke/MethodHandle" ∧ yX6_wide.cls ≠ "java/lang/invoke/VarHandle" ∧ (parseMethodDescriptor yX6_wide.desc).map (fun d => d.parameters.length) = some 2 := by decide +kernel
theorem lw_dd_X7_wide : yX7_wide.cls = RX7 ∧ yX7_wide.cls ≠ "java/lang/invoke/MethodHandle" ∧ yX7_wide.cls ≠ "java/lang/invoke/VarHandle" ∧ (parseMethodDescriptor yX7_wide.desc).map (fun d => d.parameters.length) = some 2 := by decide +kernel
theorem lw_dd_X6_least : yX6_least.cls = RX6 ∧ yX6_least.cls ≠ "java/lang/invoke/MethodHandle" ∧ yX6_least.cls ≠ "java/lang/invoke/VarHandle" ∧ (parseMethodDescriptor yX6_least.desc).map (fun d => d.parameters.length) = some 2 := by decide +kernel
theorem lw_dd_X7_least : yX7_least.cls = RX7 ∧ yX7_least.cls ≠ "java/lang/invoke/MethodHandle" ∧ yX7_least.cls ≠ "java/lang/invoke/VarHandle" ∧ (parseMethodDescriptor yX7_least.desc).map (fun d => d.parameters.length) = some 2 := by decide +kernel
theorem lw_dd_X6_gusts : yX6_gusts.cls = RX6 ∧ yX6_gusts.cls ≠ "java/lang/invoke/MethodHandle" ∧ yX6_gusts.cls ≠ "java/lang/invoke/VarHandle" ∧ (parseMethodDescriptor yX6_gusts.desc).map (fun d => d.parameters.length) = some 1 := by decide +kernel
theorem lw_dd_X7_gusts : yX7_gusts.cls = RX7 ∧ yX7_gusts.cls ≠ "java/lang/invoke/MethodHandle" ∧ yX7_gusts.cls ≠ "java/lang/invoke/VarHandle" ∧ (parseMethodDescriptor yX7_gusts.desc).map (fun d => d.parameters.length) = some 1 := by decide +kernel
theorem lw_dd_X6_sure : yX6_sure.cls = RX6 ∧ yX6_sure.cls ≠ "java/lang/invoke/MethodHandle" ∧ yX6_sure.cls ≠ "java/lang/invoke/VarHandle" ∧ (parseMethodDescriptor yX6_sure.desc).map (fun d => d.parameters.length) = some 3 := by decide +kernel
theorem lw_dd_X7_sure : yX7_sure.cls = RX7 ∧ yX7_sure.cls ≠ "java/lang/invoke/MethodHandle" ∧ yX7_sure.cls ≠ "java/lang/invoke/VarHandle" ∧ (parseMethodDescriptor yX7_sure.desc).map (fun d => d.parameters.length) = some 3 := by decide +kernel
theorem lw_dd_X6_stand : yX6_stand.cls = RX6 ∧ yX6_stand.cls ≠ "java/lang/invoke/MethodHandle" ∧ yX6_stand.cls ≠ "java/lang/invoke/VarHandle" ∧ (parseMethodDescriptor yX6_stand.desc).map (fun d => d.parameters.length) = some 1 := by decide +kernel
theorem lw_dd_X7_stand : yX7_stand.cls = RX7 ∧ yX7_stand.cls ≠ "java/lang/invoke/MethodHandle" ∧ yX7_stand.cls ≠ "java/lang/invoke/VarHandle" ∧ (parseMethodDescriptor yX7_stand.desc).map (fun d => d.parameters.length) = some 1 := by decide +kernel
theorem lw_dd_X6_order : yX6_order.cls = RX6 ∧ yX6_order.cls ≠ "java/lang/invoke/MethodHandle" ∧ yX6_order.cls ≠ "java/lang/invoke/VarHandle" ∧ (parseMethodDescriptor yX6_order.desc).map (fun d => d.parameters.length) = some 1 := by decide +kernel
theorem lw_dd_X7_order : yX7_order.cls = RX7 ∧ yX7_order.cls ≠ "java/lang/invoke/MethodHandle" ∧ yX7_order.cls ≠ "java/lang/invoke/VarHandle" ∧ (parseMethodDescriptor yX7_order.desc).map (fun d => d.parameters.length) = some 1 := by decide +kernel
theorem lw_dd_X6_hung : yX6_hung.cls = RX6 ∧ yX6_hung.cls ≠ "java/lang/invoke/MethodHandle" ∧ yX6_hung.cls ≠ "java/lang/invoke/VarHandle" ∧ (parseMethodDescriptor yX6_hung.desc).map (fun d => d.parameters.length) = some 0 := by decide +kernel
theorem lw_dd_X7_hung : yX7_hung.cls = RX7 ∧ yX7_hung.cls ≠ "java/lang/invoke/MethodHandle" ∧ yX7_hung.cls ≠ "java/lang/invoke/VarHandle" ∧ (parseMethodDescriptor yX7_hung.desc).map (fun d => d.parameters.length) = some 0 := by decide +kernel
theorem lw_dd_X6_blame : yX6_blame.cls = RX6 ∧ yX6_blame.cls ≠ "java/lang/invoke/MethodHandle" ∧ yX6_blame.cls ≠ "java/lang/invoke/VarHandle" ∧ (parseMethodDescriptor yX6_blame.desc).map (fun d => d.parameters.length) = some 2 := by decide +kernel
theorem lw_dd_X7_blame : yX7_blame.cls = RX7 ∧ yX7_blame.cls ≠ "java/lang/invoke/MethodHandle" ∧ yX7_blame.cls ≠ "java/lang/invoke/VarHandle" ∧ (parseMethodDescriptor yX7_blame.desc).map (fun d => d.parameters.length) = some 2 := by decide +kernel
theorem lw_dd_X6_knock : yX6_knock.cls = RX6 ∧ yX6_knock.cls ≠ "java/lang/invoke/MethodHandle" ∧ yX6_knock.cls ≠ "java/lang/invoke/VarHandle" ∧ (parseMethodDescriptor yX6_knock.desc).map (fun d => d.parameters.length) = some 2 := by decide +kernel
theorem lw_dd_X7_knock : yX7_knock.cls = RX7 ∧ yX7_knock.cls ≠ "java/lang/invoke/MethodHandle" ∧ yX7_knock.cls ≠ "java/lang/invoke/VarHandle" ∧ (parseMethodDescriptor yX7_knock.desc).map (fun d => d.parameters.length) = some 2 := by decide +kernel
theorem lw_dd_X6_limbs : yX6_limbs.cls = RX6 ∧ yX6_limbs.cls ≠ "java/lang/invoke/MethodHandle" ∧ yX6_limbs.cls ≠ "java/lang/invoke/VarHandle" ∧ (parseMethodDescriptor yX6_limbs.desc).map (fun d => d.parameters.length) = some 1 := by decide +kernel
theorem lw_dd_X7_limbs : yX7_limbs.cls = RX7 ∧ yX7_limbs.cls ≠ "java/lang/invoke/MethodHandle" ∧ yX7_limbs.cls ≠ "java/lang/invoke/VarHandle" ∧ (parseMethodDescriptor yX7_limbs.desc).map (fun d => d.parameters.length) = some 1 := by decide +kernel
theorem lw_dd_X6_book : yX6_book.cls = RX6 ∧ yX6_book.cls ≠ "java/lang/invoke/MethodHandle" ∧ yX6_book.cls ≠ "java/lang/invoke/VarHandle" ∧ (parseMethodDescriptor yX6_book.desc).map (fun d => d.parameters.length) = some 1 := by decide +kernel
theorem lw_dd_X7_book : yX7_book.cls = RX7 ∧ yX7_book.cls ≠ "java/lang/invoke/MethodHandle" ∧ yX7_book.cls ≠ "java/lang/invoke/VarHandle" ∧ (parseMethodDescriptor yX7_book.desc).map (fun d => d.parameters.length) = some 1 := by decide +kernel
theorem lw_dd_X6_judged : yX6_judged.cls = RX6 ∧ yX6_judged.cls ≠ "java/lang/invoke/MethodHandle" ∧ yX6_judged.cls ≠ "java/lang/invoke/VarHandle" ∧ (parseMethodDescriptor yX6_judged.desc).map (fun d => d.parameters.length) = some 1 := by decide +kernel
theorem lw_dd_X7_judged : yX7_judged.cls = RX7 ∧ yX7_judged.cls ≠ "java/lang/invoke/MethodHandle" ∧ yX7_judged.cls ≠ "java/lang/invoke/VarHandle" ∧ (parseMethodDescriptor yX7_judged.desc).map (fun d => d.parameters.length) = some 1 := by decide +kernel
theorem lw_dd_X6_act : yX6_act.cls = RX6 ∧ yX6_act.cls ≠ "java/lang/invoke/MethodHandle" ∧ yX6_act.cls ≠ "java/lang/invoke/VarHandle" ∧ (parseMethodDescriptor yX6_act.desc).map (fun d => d.parameters.length) = some 3 := by decide +kernel
theorem lw_dd_X7_act : yX7_act.cls = RX7 ∧ yX7_act.cls ≠ "java/lang/invoke/MethodHandle" ∧ yX7_act.cls ≠ "java/lang/invoke/VarHandle" ∧ (parseMethodDescriptor yX7_act.desc).map (fun d => d.parameters.length) = some 3 := by decide +kernel
theorem lw_dd_X6_trace : yX6_trace.cls = RX6 ∧ yX6_trace.cls ≠ "java/lang/invoke/MethodHandle" ∧ yX6_trace.cls ≠ "java/lang/invoke/VarHandle" ∧ (parseMethodDescriptor yX6_trace.desc).map (fun d => d.parameters.length) = some 1 := by decide +kernel
theorem lw_dd_X7_trace : yX7_trace.cls = RX7 ∧ yX7_trace.cls ≠ "java/lang/invoke/MethodHandle" ∧ yX7_trace.cls ≠ "java/lang/invoke/VarHandle" ∧ (parseMethodDescriptor yX7_trace.desc).map (fun d => d.parameters.length) = some 1 := by decide +kernel
theorem lw_dd_X6_as : yX6_as.cls = RX6 ∧ yX6_as.cls ≠ "java/lang/invoke/MethodHandle" ∧ yX6_as.cls ≠ "java/lang/invoke/VarHandle" ∧ (parseMethodDescriptor yX6_as.desc).map (fun d => d.parameters.length) = some 2 := by decide +kernel
theorem lw_dd_X7_as : yX7_as.cls = RX7 ∧ yX7_as.cls ≠ "java/lang/invoke/MethodHandle" ∧ yX7_as.cls ≠ "java/lang/invoke/VarHandle" ∧ (parseMethodDescriptor yX7_as.desc).map (fun d => d.parameters.length) = some 2 := by decide +kernel
theorem lw_dd_X6_image : yX6_image.cls = RX6 ∧ yX6_image.cls ≠ "java/lang/invoke/MethodHandle" ∧ yX6_image.cls ≠ "java/lang/invoke/VarHandle" ∧ (parseMethodDescriptor yX6_image.desc).map (fun d => d.parameters.length) = some 0 := by decide +kernel
theorem lw_dd_X7_image : yX7_image.cls = RX7 ∧ yX7_image.cls ≠ "java/lang/invoke/MethodHandle" ∧ yX7_image.cls ≠ "java/lang/invoke/VarHandle" ∧ (parseMethodDescriptor yX7_image.desc).map (fun d => d.parameters.length) = some 0 := by decide +kernel
theorem lw_dd_X6_undo : yX6_undo.cls = RX6 ∧ yX6_undo.cls ≠ "java/lang/invoke/MethodHandle" ∧ yX6_undo.cls ≠ "java/lang/invoke/VarHandle" ∧ (parseMethodDescriptor yX6_undo.desc).map (fun d => d.parameters.length) = some 0 := by decide +kernel
theorem lw_dd_X7_undo : yX7_undo.cls = RX7 ∧ yX7_undo.cls ≠ "java/lang/invoke/MethodHandle" ∧ yX7_undo.cls ≠ "java/lang/invoke/VarHandle" ∧ (parseMethodDescriptor yX7_undo.desc).map (fun d => d.parameters.length) = some 0 := by decide +kernel
theorem lw_dd_X6_count : yX6_count.cls = RX6 ∧ yX6_count.cls ≠ "java/lang/invoke/MethodHandle" ∧ yX6_count.cls ≠ "java/lang/invoke/VarHandle" ∧ (parseMethodDescriptor yX6_count.desc).map (fun d => d.parameters.length) = some 1 := by decide +kernel
theorem lw_dd_X7_count : yX7_count.cls = RX7 ∧ yX7_count.cls ≠ "java/lang/invoke/MethodHandle" ∧ yX7_count.cls ≠ "java/lang/invoke/VarHandle" ∧ (parseMethodDescriptor yX7_count.desc).map (fun d => d.parameters.length) = some 1 := by decide +kernel
set_option maxRecDepth 20000 in
set_option maxHeartbeats 4000000 in
theorem law_things {p : Program} {l : Launch} {e : Env} {s : State} {m : MethodId} {below : List Frame} {meth : Method} {c : Code} {D : va_G} {ty : Nat → ClassId} {b L : Nat} {xs : Nat → Int32} {Rel : Option Nat → aSt → aSt → Prop} (hx : p.tables.exec = Jvm.exec) (hb : c.code = code) (hml : c.maxLocals = 4) (hown : s.vm.findClass R_law = some m.cls) (htU : ∀ w ∈ wsL_law, w.before #[Value.ref b] s = true) (hX : va_X b L xs s s.heap) (hbl : b < s.heap.size) (hbA : ¬ (fun q : Nat => s.heap.size ≤ q) b) (hK : va_K D vwCl (a_tys ty) s) (hpu : aPure Rel) {K : Option Nat} (hKK : K = none ∨ K = some 34) {ρ μ : Nat → Nat} {SX SM : aSt} {H : Heap} {locs : List Loc} {ls : Array Slot} {x3 : Int32} (h_1 : vp_in (x3 + 1) L) (h_2 : vp_in (x3 + 2) L) (h_3 : vp_in (x3 + 3) L) (h_4 : vp_in (x3 + 4) L) (hl : lv_has ls 4 [(0, .ref b), (1, .ref (ρ 0)), (2, .ref (μ 0)), (3, .int x3)]) (hrel : Rel K SX SM) (hls : lS D ty s K ρ μ SX SM H locs)
    (latch : ∀ (SX SM : aSt) (H : Heap) (locs : List Loc) (K : Option Nat) (ρ : Nat → Nat), (K = none ∨ K = some 34) → Rel K SX SM → lS D ty s K ρ μ SX SM H locs → lv_has ls 4 [(0, .ref b), (1, .ref (ρ 0)), (2, .ref (μ 0)), (3, .int x3)] → W p l e room_1 s m #[Value.ref b] below meth c H locs (cuK K) (suK K) (lw_Z below #[Value.ref b] s) (F0 m 1014 ls [])) : W p l e room_1 s m #[Value.ref b] below meth c H locs (cuK K) (suK K) (lw_Z below #[Value.ref b] s) (F0 m 164 ls []) := by
  obtain ⟨r, SX1, SM1, e1, e2, hrel1⟩ := hpu.1 K SX SM (((xs (x3 + (1 : Int32)).toNatClampNeg).toInt64 <<< ((32 : Int32).toInt64 &&& 63)) ||| ((xs (x3 + (2 : Int32)).toNatClampNeg).toInt64 &&& 4294967295)) hrel
  have hl1 := hls
  have hS := hls.2.2.2.2.2.2.2.1
  refine lv_aload_n hx hb dL_law_164 rfl (lv_at hl 1 rfl) ?_
  refine lv_aload_n hx hb dL_law_165 rfl (lv_at hl 0 rfl) ?_
  refine lv_iload_n hx hb dL_law_166 rfl (lv_at hl 3 rfl) ?_
  refine lv_iconst (v := (1 : Int32)) hx hb dL_law_167 (by decide) ?_
  refine lv_iadd hx hb dL_law_168 ?_
  refine va_sld hx hb hX hbl hbA hS h_1 dL_law_169 ?_
  refine lv_i2l hx hb dL_law_170 rfl ?_
  refine lv_bipush (v := (32 : Int32)) hx hb dL_law_171 (by decide) ?_
  refine lv_lshl hx hb dL_law_173 rfl ?_
  refine lv_aload_n hx hb dL_law_174 rfl (lv_at hl 0 rfl) ?_
  refine lv_iload_n hx hb dL_law_175 rfl (lv_at hl 3 rfl) ?_
  refine lv_iconst (v := (2 : Int32)) hx hb dL_law_176 (by decide) ?_
  refine lv_iadd hx hb dL_law_177 ?_
  refine va_sld hx hb hX hbl hbA hS h_2 dL_law_178 ?_
  refine lv_i2l hx hb dL_law_179 rfl ?_
  refine lv_ldc2 (v := 4294967295) hx hb hown (htU _ (wU_r1 _ (List.mem_of_getElem? (i := 6) rfl))) dL_law_180 ?_
  refine lv_land hx hb dL_law_183 ?_
  refine lv_lor hx hb dL_law_184 ?_
  refine l_call (G := (l, D, ty, ρ, xsh K)) (As := [.long (((xs (x3 + (1 : Int32)).toNatClampNeg).toInt64 <<< ((32 : Int32).toInt64 &&& 63)) ||| ((xs (x3 + (2 : Int32)).toNatClampNeg).toInt64 &&& 4294967295))]) (rest := []) hx hb hml hown htU hK hl1.1 hl1.2.2.1 hl1.2.2.2.2.2.2.2.2.1 hl1.2.2.2.2.1 (fun _ h => h) hl1.2.2.2.2.2.2.2.1 dL_law_185 (aMet_of e1 (m_X6_things (xsh_ft hKK) (((xs (x3 + (1 : Int32)).toNatClampNeg).toInt64 <<< ((32 : Int32).toInt64 &&& 63)) ||| ((xs (x3 + (2 : Int32)).toNatClampNeg).toInt64 &&& 4294967295)) SX)) (gL_V (wU_r4 _ (List.mem_of_getElem? (i := 23) rfl)) (wU_r5 _ (List.mem_of_getElem? (i := 0) rfl)) (wU_r5 _ (List.mem_of_getElem? (i := 1) rfl)) (wU_r1 _ (List.mem_of_getElem? (i := 2) rfl)) (wU_r5 _ (List.mem_of_getElem? (i := 2) rfl))) rfl (xsh_ft (l := l) (D := D) (ty := ty) (ρ := ρ) hKK).1 rfl lw_dd_X6_things rfl hl.1 rfl (Nat.le_of_ble_eq_true rfl) (Nat.le_of_ble_eq_true rfl) (Nat.le_of_ble_eq_true rfl) (cuK_le _) (suK_le _) (fun H1 locs1 hP1 hz1 hk1 hS1 => ?_)
  have hls := hl1.X hP1 hk1 hS1
  clear hl1 hS
  have hl1 := hls
  have hS := hls.2.2.2.2.2.2.2.1
  refine lv_aload_n hx hb dL_law_188 rfl (lv_at hl 2 rfl) ?_
  refine lv_aload_n hx hb dL_law_189 rfl (lv_at hl 0 rfl) ?_
  refine lv_iload_n hx hb dL_law_190 rfl (lv_at hl 3 rfl) ?_
  refine lv_iconst (v := (1 : Int32)) hx hb dL_law_191 (by decide) ?_
  refine lv_iadd hx hb dL_law_192 ?_
  refine va_sld hx hb hX hbl hbA hS h_1 dL_law_193 ?_
  refine lv_i2l hx hb dL_law_194 rfl ?_
  refine lv_bipush (v := (32 : Int32)) hx hb dL_law_195 (by decide) ?_
  refine lv_lshl hx hb dL_law_197 rfl ?_
  refine lv_aload_n hx hb dL_law_198 rfl (lv_at hl 0 rfl) ?_
  refine lv_iload_n hx hb dL_law_199 rfl (lv_at hl 3 rfl) ?_
  refine lv_iconst (v := (2 : Int32)) hx hb dL_law_200 (by decide) ?_
  refine lv_iadd hx hb dL_law_201 ?_
  refine va_sld hx hb hX hbl hbA hS h_2 dL_law_202 ?_
  refine lv_i2l hx hb dL_law_203 rfl ?_
  refine lv_ldc2 (v := 4294967295) hx hb hown (htU _ (wU_r1 _ (List.mem_of_getElem? (i := 6) rfl))) dL_law_204 ?_
  refine lv_land hx hb dL_law_207 ?_
  refine lv_lor hx hb dL_law_208 ?_
  refine l_call (G := (l, D, ty, μ, msh)) (As := [.long (((xs (x3 + (1 : Int32)).toNatClampNeg).toInt64 <<< ((32 : Int32).toInt64 &&& 63)) ||| ((xs (x3 + (2 : Int32)).toNatClampNeg).toInt64 &&& 4294967295))]) (rest := [.int r]) hx hb hml hown htU hK hl1.2.1 hl1.2.2.2.1 hl1.2.2.2.2.2.2.2.2.2 hl1.2.2.2.2.2.1 (fun _ h => h) hl1.2.2.2.2.2.2.2.1 dL_law_209 (aMet_of e2 (m_X7_things msh_ok (((xs (x3 + (1 : Int32)).toNatClampNeg).toInt64 <<< ((32 : Int32).toInt64 &&& 63)) ||| ((xs (x3 + (2 : Int32)).toNatClampNeg).toInt64 &&& 4294967295)) SM)) (gL_V (wU_r5 _ (List.mem_of_getElem? (i := 11) rfl)) (wU_r5 _ (List.mem_of_getElem? (i := 12) rfl)) (wU_r5 _ (List.mem_of_getElem? (i := 13) rfl)) (wU_r1 _ (List.mem_of_getElem? (i := 5) rfl)) (wU_r5 _ (List.mem_of_getElem? (i := 14) rfl))) rfl (msh_ok (l := l) (D := D) (ty := ty) (ρ := μ)).1 rfl lw_dd_X7_things rfl hl.1 rfl (Nat.le_of_ble_eq_true rfl) (Nat.le_of_ble_eq_true rfl) (Nat.le_of_ble_eq_true rfl) (cuK_le _) (suK_le _) (fun H1 locs1 hP1 hz1 hk1 hS1 => ?_)
  have hls := hl1.M hP1 hk1 hS1
  refine lv_icmp_eq (tgt := 1014) hx hb dL_law_212 (by decide) (fun _ => ?_) (fun c9 => absurd rfl c9)
  exact latch _ _ _ _ K ρ hKK hrel1 hls hl
set_option maxRecDepth 20000 in
set_option maxHeartbeats 4000000 in
theorem law_feed {p : Program} {l : Launch} {e : Env} {s : State} {m : MethodId} {below : List Frame} {meth : Method} {c : Code} {D : va_G} {ty : Nat → ClassId} {b L : Nat} {xs : Nat → Int32} {Rel : Option Nat → aSt → aSt → Prop} (hx : p.tables.exec = Jvm.exec) (hb : c.code = code) (hml : c.maxLocals = 4) (hown : s.vm.findClass R_law = some m.cls) (htU : ∀ w ∈ wsL_law, w.before #[Value.ref b] s = true) (hX : va_X b L xs s s.heap) (hbl : b < s.heap.size) (hbA : ¬ (fun q : Nat => s.heap.size ≤ q) b) (hK : va_K D vwCl (a_tys ty) s) (hpu : aPure Rel) {K : Option Nat} (hKK : K = none ∨ K = some 34) {ρ μ : Nat → Nat} {SX SM : aSt} {H : Heap} {locs : List Loc} {ls : Array Slot} {x3 : Int32} (h_1 : vp_in (x3 + 1) L) (h_2 : vp_in (x3 + 2) L) (h_3 : vp_in (x3 + 3) L) (h_4 : vp_in (x3 + 4) L) (hl : lv_has ls 4 [(0, .ref b), (1, .ref (ρ 0)), (2, .ref (μ 0)), (3, .int x3)]) (hrel : Rel K SX SM) (hls : lS D ty s K ρ μ SX SM H locs)
    (latch : ∀ (SX SM : aSt) (H : Heap) (locs : List Loc) (K : Option Nat) (ρ : Nat → Nat), (K = none ∨ K = some 34) → Rel K SX SM → lS D ty s K ρ μ SX SM H locs → lv_has ls 4 [(0, .ref b), (1, .ref (ρ 0)), (2, .ref (μ 0)), (3, .int x3)] → W p l e room_1 s m #[Value.ref b] below meth c H locs (cuK K) (suK K) (lw_Z below #[Value.ref b] s) (F0 m 1014 ls [])) : W p l e room_1 s m #[Value.ref b] below meth c H locs (cuK K) (suK K) (lw_Z below #[Value.ref b] s) (F0 m 217 ls []) := by
  obtain ⟨r, SX1, SM1, e1, e2, hrel1⟩ := hpu.2.1 K SX SM (xs (x3 + (1 : Int32)).toNatClampNeg) hrel
  have hl1 := hls
  have hS := hls.2.2.2.2.2.2.2.1
  refine lv_aload_n hx hb dL_law_217 rfl (lv_at hl 1 rfl) ?_
  refine lv_aload_n hx hb dL_law_218 rfl (lv_at hl 0 rfl) ?_
  refine lv_iload_n hx hb dL_law_219 rfl (lv_at hl 3 rfl) ?_
  refine lv_iconst (v := (1 : Int32)) hx hb dL_law_220 (by decide) ?_
  refine lv_iadd hx hb dL_law_221 ?_
  refine va_sld hx hb hX hbl hbA hS h_1 dL_law_222 ?_
  refine l_call (G := (l, D, ty, ρ, xsh K)) (As := [.int (xs (x3 + (1 : Int32)).toNatClampNeg)]) (rest := []) hx hb hml hown htU hK hl1.1 hl1.2.2.1 hl1.2.2.2.2.2.2.2.2.1 hl1.2.2.2.2.1 (fun _ h => h) hl1.2.2.2.2.2.2.2.1 dL_law_223 (aMet_of e1 (m_X6_feed (xsh_ft hKK) (xs (x3 + (1 : Int32)).toNatClampNeg) SX)) (gL_V (wU_r5 _ (List.mem_of_getElem? (i := 15) rfl)) (wU_r5 _ (List.mem_of_getElem? (i := 16) rfl)) (wU_r5 _ (List.mem_of_getElem? (i := 17) rfl)) (wU_r1 _ (List.mem_of_getElem? (i := 2) rfl)) (wU_r5 _ (List.mem_of_getElem? (i := 18) rfl))) rfl (xsh_ft (l := l) (D := D) (ty := ty) (ρ := ρ) hKK).1 rfl lw_dd_X6_feed rfl hl.1 rfl (Nat.le_of_ble_eq_true rfl) (Nat.le_of_ble_eq_true rfl) (Nat.le_of_ble_eq_true rfl) (cuK_le _) (suK_le _) (fun H1 locs1 hP1 hz1 hk1 hS1 => ?_)
  have hls := hl1.X hP1 hk1 hS1
  clear hl1 hS
  have hl1 := hls
  have hS := hls.2.2.2.2.2.2.2.1
  refine lv_aload_n hx hb dL_law_226 rfl (lv_at hl 2 rfl) ?_
  refine lv_aload_n hx hb dL_law_227 rfl (lv_at hl 0 rfl) ?_
  refine lv_iload_n hx hb dL_law_228 rfl (lv_at hl 3 rfl) ?_
  refine lv_iconst (v := (1 : Int32)) hx hb dL_law_229 (by decide) ?_
  refine lv_iadd hx hb dL_law_230 ?_
  refine va_sld hx hb hX hbl hbA hS h_1 dL_law_231 ?_
  refine l_call (G := (l, D, ty, μ, msh)) (As := [.int (xs (x3 + (1 : Int32)).toNatClampNeg)]) (rest := [.int r]) hx hb hml hown htU hK hl1.2.1 hl1.2.2.2.1 hl1.2.2.2.2.2.2.2.2.2 hl1.2.2.2.2.2.1 (fun _ h => h) hl1.2.2.2.2.2.2.2.1 dL_law_232 (aMet_of e2 (m_X7_feed msh_ok (xs (x3 + (1 : Int32)).toNatClampNeg) SM)) (gL_V (wU_r6 _ (List.mem_of_getElem? (i := 0) rfl)) (wU_r6 _ (List.mem_of_getElem? (i := 1) rfl)) (wU_r6 _ (List.mem_of_getElem? (i := 2) rfl)) (wU_r1 _ (List.mem_of_getElem? (i := 5) rfl)) (wU_r6 _ (List.mem_of_getElem? (i := 3) rfl))) rfl (msh_ok (l := l) (D := D) (ty := ty) (ρ := μ)).1 rfl lw_dd_X7_feed rfl hl.1 rfl (Nat.le_of_ble_eq_true rfl) (Nat.le_of_ble_eq_true rfl) (Nat.le_of_ble_eq_true rfl) (cuK_le _) (suK_le _) (fun H1 locs1 hP1 hz1 hk1 hS1 => ?_)
  have hls := hl1.M hP1 hk1 hS1
  refine lv_icmp_eq (tgt := 1014) hx hb dL_law_235 (by decide) (fun _ => ?_) (fun c9 => absurd rfl c9)
  exact latch _ _ _ _ K ρ hKK hrel1 hls hl
set_option maxRecDepth 20000 in
set_option maxHeartbeats 4000000 in
theorem law_wood {p : Program} {l : Launch} {e : Env} {s : State} {m : MethodId} {below : List Frame} {meth : Method} {c : Code} {D : va_G} {ty : Nat → ClassId} {b L : Nat} {xs : Nat → Int32} {Rel : Option Nat → aSt → aSt → Prop} (hx : p.tables.exec = Jvm.exec) (hb : c.code = code) (hml : c.maxLocals = 4) (hown : s.vm.findClass R_law = some m.cls) (htU : ∀ w ∈ wsL_law, w.before #[Value.ref b] s = true) (hX : va_X b L xs s s.heap) (hbl : b < s.heap.size) (hbA : ¬ (fun q : Nat => s.heap.size ≤ q) b) (hK : va_K D vwCl (a_tys ty) s) (hpu : aPure Rel) {K : Option Nat} (hKK : K = none ∨ K = some 34) {ρ μ : Nat → Nat} {SX SM : aSt} {H : Heap} {locs : List Loc} {ls : Array Slot} {x3 : Int32} (h_1 : vp_in (x3 + 1) L) (h_2 : vp_in (x3 + 2) L) (h_3 : vp_in (x3 + 3) L) (h_4 : vp_in (x3 + 4) L) (hl : lv_has ls 4 [(0, .ref b), (1, .ref (ρ 0)), (2, .ref (μ 0)), (3, .int x3)]) (hrel : Rel K SX SM) (hls : lS D ty s K ρ μ SX SM H locs)
    (latch : ∀ (SX SM : aSt) (H : Heap) (locs : List Loc) (K : Option Nat) (ρ : Nat → Nat), (K = none ∨ K = some 34) → Rel K SX SM → lS D ty s K ρ μ SX SM H locs → lv_has ls 4 [(0, .ref b), (1, .ref (ρ 0)), (2, .ref (μ 0)), (3, .int x3)] → W p l e room_1 s m #[Value.ref b] below meth c H locs (cuK K) (suK K) (lw_Z below #[Value.ref b] s) (F0 m 1014 ls [])) : W p l e room_1 s m #[Value.ref b] below meth c H locs (cuK K) (suK K) (lw_Z below #[Value.ref b] s) (F0 m 240 ls []) := by
  obtain ⟨r, SX1, SM1, e1, e2, hrel1⟩ := hpu.2.2.1 K SX SM  hrel
  have hl1 := hls
  have hS := hls.2.2.2.2.2.2.2.1
  refine lv_aload_n hx hb dL_law_240 rfl (lv_at hl 1 rfl) ?_
  refine l_call (G := (l, D, ty, ρ, xsh K)) (As := []) (rest := []) hx hb hml hown htU hK hl1.1 hl1.2.2.1 hl1.2.2.2.2.2.2.2.2.1 hl1.2.2.2.2.1 (fun _ h => h) hl1.2.2.2.2.2.2.2.1 dL_law_241 (aMet_of e1 (m_X6_wood (xsh_ft hKK)  SX)) (gL_V (wU_r6 _ (List.mem_of_getElem? (i := 7) rfl)) (wU_r6 _ (List.mem_of_getElem? (i := 8) rfl)) (wU_r6 _ (List.mem_of_getElem? (i := 9) rfl)) (wU_r1 _ (List.mem_of_getElem? (i := 2) rfl)) (wU_r6 _ (List.mem_of_getElem? (i := 10) rfl))) rfl (xsh_ft (l := l) (D := D) (ty := ty) (ρ := ρ) hKK).1 rfl lw_dd_X6_wood rfl hl.1 rfl (Nat.le_of_ble_eq_true rfl) (Nat.le_of_ble_eq_true rfl) (Nat.le_of_ble_eq_true rfl) (cuK_le _) (suK_le _) (fun H1 locs1 hP1 hz1 hk1 hS1 => ?_)
  have hls := hl1.X hP1 hk1 hS1
  clear hl1 hS
  have hl1 := hls
  have hS := hls.2.2.2.2.2.2.2.1
  refine lv_aload_n hx hb dL_law_244 rfl (lv_at hl 2 rfl) ?_
  refine l_call (G := (l, D, ty, μ, msh)) (As := []) (rest := [.int r]) hx hb hml hown htU hK hl1.2.1 hl1.2.2.2.1 hl1.2.2.2.2.2.2.2.2.2 hl1.2.2.2.2.2.1 (fun _ h => h) hl1.2.2.2.2.2.2.2.1 dL_law_245 (aMet_of e2 (m_X7_wood msh_ok  SM)) (gL_V (wU_r14 _ (List.mem_of_getElem? (i := 3) rfl)) (wU_r14 _ (List.mem_of_getElem? (i := 4) rfl)) (wU_r14 _ (List.mem_of_getElem? (i := 5) rfl)) (wU_r1 _ (List.mem_of_getElem? (i := 5) rfl)) (wU_r14 _ (List.mem_of_getElem? (i := 6) rfl))) rfl (msh_ok (l := l) (D := D) (ty := ty) (ρ := μ)).1 rfl lw_dd_X7_wood rfl hl.1 rfl (Nat.le_of_ble_eq_true rfl) (Nat.le_of_ble_eq_true rfl) (Nat.le_of_ble_eq_true rfl) (cuK_le _) (suK_le _) (fun H1 locs1 hP1 hz1 hk1 hS1 => ?_)
  have hls := hl1.M hP1 hk1 hS1
  refine lv_icmp_eq (tgt := 1014) hx hb dL_law_248 (by decide) (fun _ => ?_) (fun c9 => absurd rfl c9)
  exact latch _ _ _ _ K ρ hKK hrel1 hls hl
set_option maxRecDepth 20000 in
set_option maxHeartbeats 4000000 in
theorem law_told {p : Program} {l : Launch} {e : Env} {s : State} {m : MethodId} {below : List Frame} {meth : Method} {c : Code} {D : va_G} {ty : Nat → ClassId} {b L : Nat} {xs : Nat → Int32} {Rel : Option Nat → aSt → aSt → Prop} (hx : p.tables.exec = Jvm.exec) (hb : c.code = code) (hml : c.maxLocals = 4) (hown : s.vm.findClass R_law = some m.cls) (htU : ∀ w ∈ wsL_law, w.before #[Value.ref b] s = true) (hX : va_X b L xs s s.heap) (hbl : b < s.heap.size) (hbA : ¬ (fun q : Nat => s.heap.size ≤ q) b) (hK : va_K D vwCl (a_tys ty) s) (hpu : aPure Rel) {K : Option Nat} (hKK : K = none ∨ K = some 34) {ρ μ : Nat → Nat} {SX SM : aSt} {H : Heap} {locs : List Loc} {ls : Array Slot} {x3 : Int32} (h_1 : vp_in (x3 + 1) L) (h_2 : vp_in (x3 + 2) L) (h_3 : vp_in (x3 + 3) L) (h_4 : vp_in (x3 + 4) L) (hl : lv_has ls 4 [(0, .ref b), (1, .ref (ρ 0)), (2, .ref (μ 0)), (3, .int x3)]) (hrel : Rel K SX SM) (hls : lS D ty s K ρ μ SX SM H locs)
    (latch : ∀ (SX SM : aSt) (H : Heap) (locs : List Loc) (K : Option Nat) (ρ : Nat → Nat), (K = none ∨ K = some 34) → Rel K SX SM → lS D ty s K ρ μ SX SM H locs → lv_has ls 4 [(0, .ref b), (1, .ref (ρ 0)), (2, .ref (μ 0)), (3, .int x3)] → W p l e room_1 s m #[Value.ref b] below meth c H locs (cuK K) (suK K) (lw_Z below #[Value.ref b] s) (F0 m 1014 ls [])) : W p l e room_1 s m #[Value.ref b] below meth c H locs (cuK K) (suK K) (lw_Z below #[Value.ref b] s) (F0 m 253 ls []) := by
  obtain ⟨r, SX1, SM1, e1, e2, hrel1⟩ := hpu.2.2.2.1 K SX SM (xs (x3 + (1 : Int32)).toNatClampNeg) hrel
  have hl1 := hls
  have hS := hls.2.2.2.2.2.2.2.1
  refine lv_aload_n hx hb dL_law_253 rfl (lv_at hl 1 rfl) ?_
  refine lv_aload_n hx hb dL_law_254 rfl (lv_at hl 0 rfl) ?_
  refine lv_iload_n hx hb dL_law_255 rfl (lv_at hl 3 rfl) ?_
  refine lv_iconst (v := (1 : Int32)) hx hb dL_law_256 (by decide) ?_
  refine lv_iadd hx hb dL_law_257 ?_
  refine va_sld hx hb hX hbl hbA hS h_1 dL_law_258 ?_
  refine l_call (G := (l, D, ty, ρ, xsh K)) (As := [.int (xs (x3 + (1 : Int32)).toNatClampNeg)]) (rest := []) hx hb hml hown htU hK hl1.1 hl1.2.2.1 hl1.2.2.2.2.2.2.2.2.1 hl1.2.2.2.2.1 (fun _ h => h) hl1.2.2.2.2.2.2.2.1 dL_law_259 (aMet_of e1 (m_X6_told (xsh_ft hKK) (xs (x3 + (1 : Int32)).toNatClampNeg) SX)) (gL_V (wU_r16 _ (List.mem_of_getElem? (i := 14) rfl)) (wU_r16 _ (List.mem_of_getElem? (i := 15) rfl)) (wU_r16 _ (List.mem_of_getElem? (i := 16) rfl)) (wU_r1 _ (List.mem_of_getElem? (i := 2) rfl)) (wU_r16 _ (List.mem_of_getElem? (i := 17) rfl))) rfl (xsh_ft (l := l) (D := D) (ty := ty) (ρ := ρ) hKK).1 rfl lw_dd_X6_told rfl hl.1 rfl (Nat.le_of_ble_eq_true rfl) (Nat.le_of_ble_eq_true rfl) (Nat.le_of_ble_eq_true rfl) (cuK_le _) (suK_le _) (fun H1 locs1 hP1 hz1 hk1 hS1 => ?_)
  have hls := hl1.X hP1 hk1 hS1
  clear hl1 hS
  have hl1 := hls
  have hS := hls.2.2.2.2.2.2.2.1
  refine lv_aload_n hx hb dL_law_262 rfl (lv_at hl 2 rfl) ?_
  refine lv_aload_n hx hb dL_law_263 rfl (lv_at hl 0 rfl) ?_
  refine lv_iload_n hx hb dL_law_264 rfl (lv_at hl 3 rfl) ?_
  refine lv_iconst (v := (1 : Int32)) hx hb dL_law_265 (by decide) ?_
  refine lv_iadd hx hb dL_law_266 ?_
  refine va_sld hx hb hX hbl hbA hS h_1 dL_law_267 ?_
  refine l_call (G := (l, D, ty, μ, msh)) (As := [.int (xs (x3 + (1 : Int32)).toNatClampNeg)]) (rest := [.int r]) hx hb hml hown htU hK hl1.2.1 hl1.2.2.2.1 hl1.2.2.2.2.2.2.2.2.2 hl1.2.2.2.2.2.1 (fun _ h => h) hl1.2.2.2.2.2.2.2.1 dL_law_268 (aMet_of e2 (m_X7_told msh_ok (xs (x3 + (1 : Int32)).toNatClampNeg) SM)) (gL_V (wU_r16 _ (List.mem_of_getElem? (i := 21) rfl)) (wU_r16 _ (List.mem_of_getElem? (i := 22) rfl)) (wU_r16 _ (List.mem_of_getElem? (i := 23) rfl)) (wU_r1 _ (List.mem_of_getElem? (i := 5) rfl)) (wU_r17 _ (List.mem_of_getElem? (i := 0) rfl))) rfl (msh_ok (l := l) (D := D) (ty := ty) (ρ := μ)).1 rfl lw_dd_X7_told rfl hl.1 rfl (Nat.le_of_ble_eq_true rfl) (Nat.le_of_ble_eq_true rfl) (Nat.le_of_ble_eq_true rfl) (cuK_le _) (suK_le _) (fun H1 locs1 hP1 hz1 hk1 hS1 => ?_)
  have hls := hl1.M hP1 hk1 hS1
  refine lv_icmp_eq (tgt := 1014) hx hb dL_law_271 (by decide) (fun _ => ?_) (fun c9 => absurd rfl c9)
  exact latch _ _ _ _ K ρ hKK hrel1 hls hl
set_option maxRecDepth 20000 in
set_option maxHeartbeats 4000000 in
theorem law_tree {p : Program} {l : Launch} {e : Env} {s : State} {m : MethodId} {below : List Frame} {meth : Method} {c : Code} {D : va_G} {ty : Nat → ClassId} {b L : Nat} {xs : Nat → Int32} {Rel : Option Nat → aSt → aSt → Prop} (hx : p.tables.exec = Jvm.exec) (hb : c.code = code) (hml : c.maxLocals = 4) (hown : s.vm.findClass R_law = some m.cls) (htU : ∀ w ∈ wsL_law, w.before #[Value.ref b] s = true) (hX : va_X b L xs s s.heap) (hbl : b < s.heap.size) (hbA : ¬ (fun q : Nat => s.heap.size ≤ q) b) (hK : va_K D vwCl (a_tys ty) s) (hpu : aPure Rel) {K : Option Nat} (hKK : K = none ∨ K = some 34) {ρ μ : Nat → Nat} {SX SM : aSt} {H : Heap} {locs : List Loc} {ls : Array Slot} {x3 : Int32} (h_1 : vp_in (x3 + 1) L) (h_2 : vp_in (x3 + 2) L) (h_3 : vp_in (x3 + 3) L) (h_4 : vp_in (x3 + 4) L) (hl : lv_has ls 4 [(0, .ref b), (1, .ref (ρ 0)), (2, .ref (μ 0)), (3, .int x3)]) (hrel : Rel K SX SM) (hls : lS D ty s K ρ μ SX SM H locs)
    (latch : ∀ (SX SM : aSt) (H : Heap) (locs : List Loc) (K : Option Nat) (ρ : Nat → Nat), (K = none ∨ K = some 34) → Rel K SX SM → lS D ty s K ρ μ SX SM H locs → lv_has ls 4 [(0, .ref b), (1, .ref (ρ 0)), (2, .ref (μ 0)), (3, .int x3)] → W p l e room_1 s m #[Value.ref b] below meth c H locs (cuK K) (suK K) (lw_Z below #[Value.ref b] s) (F0 m 1014 ls [])) : W p l e room_1 s m #[Value.ref b] below meth c H locs (cuK K) (suK K) (lw_Z below #[Value.ref b] s) (F0 m 276 ls []) := by
  obtain ⟨r, SX1, SM1, e1, e2, hrel1⟩ := hpu.2.2.2.2.1 K SX SM (xs (x3 + (1 : Int32)).toNatClampNeg) (xs (x3 + (2 : Int32)).toNatClampNeg) (xs (x3 + (3 : Int32)).toNatClampNeg) (xs (x3 + (4 : Int32)).toNatClampNeg) hrel
  have hl1 := hls
  have hS := hls.2.2.2.2.2.2.2.1
  refine lv_aload_n hx hb dL_law_276 rfl (lv_at hl 1 rfl) ?_
  refine lv_aload_n hx hb dL_law_277 rfl (lv_at hl 0 rfl) ?_
  refine lv_iload_n hx hb dL_law_278 rfl (lv_at hl 3 rfl) ?_
  refine lv_iconst (v := (1 : Int32)) hx hb dL_law_279 (by decide) ?_
  refine lv_iadd hx hb dL_law_280 ?_
  refine va_sld hx hb hX hbl hbA hS h_1 dL_law_281 ?_
  refine lv_aload_n hx hb dL_law_282 rfl (lv_at hl 0 rfl) ?_
  refine lv_iload_n hx hb dL_law_283 rfl (lv_at hl 3 rfl) ?_
  refine lv_iconst (v := (2 : Int32)) hx hb dL_law_284 (by decide) ?_
  refine lv_iadd hx hb dL_law_285 ?_
  refine va_sld hx hb hX hbl hbA hS h_2 dL_law_286 ?_
  refine lv_aload_n hx hb dL_law_287 rfl (lv_at hl 0 rfl) ?_
  refine lv_iload_n hx hb dL_law_288 rfl (lv_at hl 3 rfl) ?_
  refine lv_iconst (v := (3 : Int32)) hx hb dL_law_289 (by decide) ?_
  refine lv_iadd hx hb dL_law_290 ?_
  refine va_sld hx hb hX hbl hbA hS h_3 dL_law_291 ?_
  refine lv_aload_n hx hb dL_law_292 rfl (lv_at hl 0 rfl) ?_
  refine lv_iload_n hx hb dL_law_293 rfl (lv_at hl 3 rfl) ?_
  refine lv_iconst (v := (4 : Int32)) hx hb dL_law_294 (by decide) ?_
  refine lv_iadd hx hb dL_law_295 ?_
  refine va_sld hx hb hX hbl hbA hS h_4 dL_law_296 ?_
  refine l_call (G := (l, D, ty, ρ, xsh K)) (As := [.int (xs (x3 + (1 : Int32)).toNatClampNeg), .int (xs (x3 + (2 : Int32)).toNatClampNeg), .int (xs (x3 + (3 : Int32)).toNatClampNeg), .int (xs (x3 + (4 : Int32)).toNatClampNeg)]) (rest := []) hx hb hml hown htU hK hl1.1 hl1.2.2.1 hl1.2.2.2.2.2.2.2.2.1 hl1.2.2.2.2.1 (fun _ h => h) hl1.2.2.2.2.2.2.2.1 dL_law_297 (aMet_of e1 (m_X6_tree (xsh_ft hKK) (xs (x3 + (1 : Int32)).toNatClampNeg) (xs (x3 + (2 : Int32)).toNatClampNeg) (xs (x3 + (3 : Int32)).toNatClampNeg) (xs (x3 + (4 : Int32)).toNatClampNeg) SX)) (gL_V (wU_r17 _ (List.mem_of_getElem? (i := 5) rfl)) (wU_r17 _ (List.mem_of_getElem? (i := 6) rfl)) (wU_r17 _ (List.mem_of_getElem? (i := 7) rfl)) (wU_r1 _ (List.mem_of_getElem? (i := 2) rfl)) (wU_r17 _ (List.mem_of_getElem? (i := 8) rfl))) rfl (xsh_ft (l := l) (D := D) (ty := ty) (ρ := ρ) hKK).1 rfl lw_dd_X6_tree rfl hl.1 rfl (Nat.le_of_ble_eq_true rfl) (Nat.le_of_ble_eq_true rfl) (Nat.le_of_ble_eq_true rfl) (cuK_le _) (suK_le _) (fun H1 locs1 hP1 hz1 hk1 hS1 => ?_)
  have hls := hl1.X hP1 hk1 hS1
  clear hl1 hS
  have hl1 := hls
  have hS := hls.2.2.2.2.2.2.2.1
  refine lv_aload_n hx hb dL_law_300 rfl (lv_at hl 2 rfl) ?_
  refine lv_aload_n hx hb dL_law_301 rfl (lv_at hl 0 rfl) ?_
  refine lv_iload_n hx hb dL_law_302 rfl (lv_at hl 3 rfl) ?_
  refine lv_iconst (v := (1 : Int32)) hx hb dL_law_303 (by decide) ?_
  refine lv_iadd hx hb dL_law_304 ?_
  refine va_sld hx hb hX hbl hbA hS h_1 dL_law_305 ?_
  refine lv_aload_n hx hb dL_law_306 rfl (lv_at hl 0 rfl) ?_
  refine lv_iload_n hx hb dL_law_307 rfl (lv_at hl 3 rfl) ?_
  refine lv_iconst (v := (2 : Int32)) hx hb dL_law_308 (by decide) ?_
  refine lv_iadd hx hb dL_law_309 ?_
  refine va_sld hx hb hX hbl hbA hS h_2 dL_law_310 ?_
  refine lv_aload_n hx hb dL_law_311 rfl (lv_at hl 0 rfl) ?_
  refine lv_iload_n hx hb dL_law_312 rfl (lv_at hl 3 rfl) ?_
  refine lv_iconst (v := (3 : Int32)) hx hb dL_law_313 (by decide) ?_
  refine lv_iadd hx hb dL_law_314 ?_
  refine va_sld hx hb hX hbl hbA hS h_3 dL_law_315 ?_
  refine lv_aload_n hx hb dL_law_316 rfl (lv_at hl 0 rfl) ?_
  refine lv_iload_n hx hb dL_law_317 rfl (lv_at hl 3 rfl) ?_
  refine lv_iconst (v := (4 : Int32)) hx hb dL_law_318 (by decide) ?_
  refine lv_iadd hx hb dL_law_319 ?_
  refine va_sld hx hb hX hbl hbA hS h_4 dL_law_320 ?_
  refine l_call (G := (l, D, ty, μ, msh)) (As := [.int (xs (x3 + (1 : Int32)).toNatClampNeg), .int (xs (x3 + (2 : Int32)).toNatClampNeg), .int (xs (x3 + (3 : Int32)).toNatClampNeg), .int (xs (x3 + (4 : Int32)).toNatClampNeg)]) (rest := [.int r]) hx hb hml hown htU hK hl1.2.1 hl1.2.2.2.1 hl1.2.2.2.2.2.2.2.2.2 hl1.2.2.2.2.2.1 (fun _ h => h) hl1.2.2.2.2.2.2.2.1 dL_law_321 (aMet_of e2 (m_X7_tree msh_ok (xs (x3 + (1 : Int32)).toNatClampNeg) (xs (x3 + (2 : Int32)).toNatClampNeg) (xs (x3 + (3 : Int32)).toNatClampNeg) (xs (x3 + (4 : Int32)).toNatClampNeg) SM)) (gL_V (wU_r18 _ (List.mem_of_getElem? (i := 6) rfl)) (wU_r18 _ (List.mem_of_getElem? (i := 7) rfl)) (wU_r18 _ (List.mem_of_getElem? (i := 8) rfl)) (wU_r1 _ (List.mem_of_getElem? (i := 5) rfl)) (wU_r18 _ (List.mem_of_getElem? (i := 9) rfl))) rfl (msh_ok (l := l) (D := D) (ty := ty) (ρ := μ)).1 rfl lw_dd_X7_tree rfl hl.1 rfl (Nat.le_of_ble_eq_true rfl) (Nat.le_of_ble_eq_true rfl) (Nat.le_of_ble_eq_true rfl) (cuK_le _) (suK_le _) (fun H1 locs1 hP1 hz1 hk1 hS1 => ?_)
  have hls := hl1.M hP1 hk1 hS1
  refine lv_icmp_eq (tgt := 1014) hx hb dL_law_324 (by decide) (fun _ => ?_) (fun c9 => absurd rfl c9)
  exact latch _ _ _ _ K ρ hKK hrel1 hls hl
set_option maxRecDepth 20000 in
set_option maxHeartbeats 4000000 in
theorem law_lean {p : Program} {l : Launch} {e : Env} {s : State} {m : MethodId} {below : List Frame} {meth : Method} {c : Code} {D : va_G} {ty : Nat → ClassId} {b L : Nat} {xs : Nat → Int32} {Rel : Option Nat → aSt → aSt → Prop} (hx : p.tables.exec = Jvm.exec) (hb : c.code = code) (hml : c.maxLocals = 4) (hown : s.vm.findClass R_law = some m.cls) (htU : ∀ w ∈ wsL_law, w.before #[Value.ref b] s = true) (hX : va_X b L xs s s.heap) (hbl : b < s.heap.size) (hbA : ¬ (fun q : Nat => s.heap.size ≤ q) b) (hK : va_K D vwCl (a_tys ty) s) (hpu : aPure Rel) {K : Option Nat} (hKK : K = none ∨ K = some 34) {ρ μ : Nat → Nat} {SX SM : aSt} {H : Heap} {locs : List Loc} {ls : Array Slot} {x3 : Int32} (h_1 : vp_in (x3 + 1) L) (h_2 : vp_in (x3 + 2) L) (h_3 : vp_in (x3 + 3) L) (h_4 : vp_in (x3 + 4) L) (hl : lv_has ls 4 [(0, .ref b), (1, .ref (ρ 0)), (2, .ref (μ 0)), (3, .int x3)]) (hrel : Rel K SX SM) (hls : lS D ty s K ρ μ SX SM H locs)
    (latch : ∀ (SX SM : aSt) (H : Heap) (locs : List Loc) (K : Option Nat) (ρ : Nat → Nat), (K = none ∨ K = some 34) → Rel K SX SM → lS D ty s K ρ μ SX SM H locs → lv_has ls 4 [(0, .ref b), (1, .ref (ρ 0)), (2, .ref (μ 0)), (3, .int x3)] → W p l e room_1 s m #[Value.ref b] below meth c H locs (cuK K) (suK K) (lw_Z below #[Value.ref b] s) (F0 m 1014 ls [])) : W p l e room_1 s m #[Value.ref b] below meth c H locs (cuK K) (suK K) (lw_Z below #[Value.ref b] s) (F0 m 329 ls []) := by
  obtain ⟨r, SX1, SM1, e1, e2, hrel1⟩ := hpu.2.2.2.2.2.1 K SX SM (xs (x3 + (1 : Int32)).toNatClampNeg) (xs (x3 + (2 : Int32)).toNatClampNeg) (xs (x3 + (3 : Int32)).toNatClampNeg) (xs (x3 + (4 : Int32)).toNatClampNeg) hrel
  have hl1 := hls
  have hS := hls.2.2.2.2.2.2.2.1
  refine lv_aload_n hx hb dL_law_329 rfl (lv_at hl 1 rfl) ?_
  refine lv_aload_n hx hb dL_law_330 rfl (lv_at hl 0 rfl) ?_
  refine lv_iload_n hx hb dL_law_331 rfl (lv_at hl 3 rfl) ?_
  refine lv_iconst (v := (1 : Int32)) hx hb dL_law_332 (by decide) ?_
  refine lv_iadd hx hb dL_law_333 ?_
  refine va_sld hx hb hX hbl hbA hS h_1 dL_law_334 ?_
  refine lv_aload_n hx hb dL_law_335 rfl (lv_at hl 0 rfl) ?_
  refine lv_iload_n hx hb dL_law_336 rfl (lv_at hl 3 rfl) ?_
  refine lv_iconst (v := (2 : Int32)) hx hb dL_law_337 (by decide) ?_
  refine lv_iadd hx hb dL_law_338 ?_
  refine va_sld hx hb hX hbl hbA hS h_2 dL_law_339 ?_
  refine lv_aload_n hx hb dL_law_340 rfl (lv_at hl 0 rfl) ?_
  refine lv_iload_n hx hb dL_law_341 rfl (lv_at hl 3 rfl) ?_
  refine lv_iconst (v := (3 : Int32)) hx hb dL_law_342 (by decide) ?_
  refine lv_iadd hx hb dL_law_343 ?_
  refine va_sld hx hb hX hbl hbA hS h_3 dL_law_344 ?_
  refine lv_aload_n hx hb dL_law_345 rfl (lv_at hl 0 rfl) ?_
  refine lv_iload_n hx hb dL_law_346 rfl (lv_at hl 3 rfl) ?_
  refine lv_iconst (v := (4 : Int32)) hx hb dL_law_347 (by decide) ?_
  refine lv_iadd hx hb dL_law_348 ?_
  refine va_sld hx hb hX hbl hbA hS h_4 dL_law_349 ?_
  refine l_call (G := (l, D, ty, ρ, xsh K)) (As := [.int (xs (x3 + (1 : Int32)).toNatClampNeg), .int (xs (x3 + (2 : Int32)).toNatClampNeg), .int (xs (x3 + (3 : Int32)).toNatClampNeg), .int (xs (x3 + (4 : Int32)).toNatClampNeg)]) (rest := []) hx hb hml hown htU hK hl1.1 hl1.2.2.1 hl1.2.2.2.2.2.2.2.2.1 hl1.2.2.2.2.1 (fun _ h => h) hl1.2.2.2.2.2.2.2.1 dL_law_350 (aMet_of e1 (m_X6_lean (xsh_ft hKK) (xs (x3 + (1 : Int32)).toNatClampNeg) (xs (x3 + (2 : Int32)).toNatClampNeg) (xs (x3 + (3 : Int32)).toNatClampNeg) (xs (x3 + (4 : Int32)).toNatClampNeg) SX)) (gL_V (wU_r18 _ (List.mem_of_getElem? (i := 10) rfl)) (wU_r18 _ (List.mem_of_getElem? (i := 11) rfl)) (wU_r18 _ (List.mem_of_getElem? (i := 12) rfl)) (wU_r1 _ (List.mem_of_getElem? (i := 2) rfl)) (wU_r18 _ (List.mem_of_getElem? (i := 13) rfl))) rfl (xsh_ft (l := l) (D := D) (ty := ty) (ρ := ρ) hKK).1 rfl lw_dd_X6_lean rfl hl.1 rfl (Nat.le_of_ble_eq_true rfl) (Nat.le_of_ble_eq_true rfl) (Nat.le_of_ble_eq_true rfl) (cuK_le _) (suK_le _) (fun H1 locs1 hP1 hz1 hk1 hS1 => ?_)
  have hls := hl1.X hP1 hk1 hS1
  clear hl1 hS
  have hl1 := hls
  have hS := hls.2.2.2.2.2.2.2.1
  refine lv_aload_n hx hb dL_law_353 rfl (lv_at hl 2 rfl) ?_
  refine lv_aload_n hx hb dL_law_354 rfl (lv_at hl 0 rfl) ?_
  refine lv_iload_n hx hb dL_law_355 rfl (lv_at hl 3 rfl) ?_
  refine lv_iconst (v := (1 : Int32)) hx hb dL_law_356 (by decide) ?_
  refine lv_iadd hx hb dL_law_357 ?_
  refine va_sld hx hb hX hbl hbA hS h_1 dL_law_358 ?_
  refine lv_aload_n hx hb dL_law_359 rfl (lv_at hl 0 rfl) ?_
  refine lv_iload_n hx hb dL_law_360 rfl (lv_at hl 3 rfl) ?_
  refine lv_iconst (v := (2 : Int32)) hx hb dL_law_361 (by decide) ?_
  refine lv_iadd hx hb dL_law_362 ?_
  refine va_sld hx hb hX hbl hbA hS h_2 dL_law_363 ?_
  refine lv_aload_n hx hb dL_law_364 rfl (lv_at hl 0 rfl) ?_
  refine lv_iload_n hx hb dL_law_365 rfl (lv_at hl 3 rfl) ?_
  refine lv_iconst (v := (3 : Int32)) hx hb dL_law_366 (by decide) ?_
  refine lv_iadd hx hb dL_law_367 ?_
  refine va_sld hx hb hX hbl hbA hS h_3 dL_law_368 ?_
  refine lv_aload_n hx hb dL_law_369 rfl (lv_at hl 0 rfl) ?_
  refine lv_iload_n hx hb dL_law_370 rfl (lv_at hl 3 rfl) ?_
  refine lv_iconst (v := (4 : Int32)) hx hb dL_law_371 (by decide) ?_
  refine lv_iadd hx hb dL_law_372 ?_
  refine va_sld hx hb hX hbl hbA hS h_4 dL_law_373 ?_
  refine l_call (G := (l, D, ty, μ, msh)) (As := [.int (xs (x3 + (1 : Int32)).toNatClampNeg), .int (xs (x3 + (2 : Int32)).toNatClampNeg), .int (xs (x3 + (3 : Int32)).toNatClampNeg), .int (xs (x3 + (4 : Int32)).toNatClampNeg)]) (rest := [.int r]) hx hb hml hown htU hK hl1.2.1 hl1.2.2.2.1 hl1.2.2.2.2.2.2.2.2.2 hl1.2.2.2.2.2.1 (fun _ h => h) hl1.2.2.2.2.2.2.2.1 dL_law_374 (aMet_of e2 (m_X7_lean msh_ok (xs (x3 + (1 : Int32)).toNatClampNeg) (xs (x3 + (2 : Int32)).toNatClampNeg) (xs (x3 + (3 : Int32)).toNatClampNeg) (xs (x3 + (4 : Int32)).toNatClampNeg) SM)) (gL_V (wU_r18 _ (List.mem_of_getElem? (i := 21) rfl)) (wU_r18 _ (List.mem_of_getElem? (i := 22) rfl)) (wU_r18 _ (List.mem_of_getElem? (i := 23) rfl)) (wU_r1 _ (List.mem_of_getElem? (i := 5) rfl)) (wU_r19 _ (List.mem_of_getElem? (i := 0) rfl))) rfl (msh_ok (l := l) (D := D) (ty := ty) (ρ := μ)).1 rfl lw_dd_X7_lean rfl hl.1 rfl (Nat.le_of_ble_eq_true rfl) (Nat.le_of_ble_eq_true rfl) (Nat.le_of_ble_eq_true rfl) (cuK_le _) (suK_le _) (fun H1 locs1 hP1 hz1 hk1 hS1 => ?_)
  have hls := hl1.M hP1 hk1 hS1
  refine lv_icmp_eq (tgt := 1014) hx hb dL_law_377 (by decide) (fun _ => ?_) (fun c9 => absurd rfl c9)
  exact latch _ _ _ _ K ρ hKK hrel1 hls hl
set_option maxRecDepth 20000 in
set_option maxHeartbeats 4000000 in
theorem law_of {p : Program} {l : Launch} {e : Env} {s : State} {m : MethodId} {below : List Frame} {meth : Method} {c : Code} {D : va_G} {ty : Nat → ClassId} {b L : Nat} {xs : Nat → Int32} {Rel : Option Nat → aSt → aSt → Prop} (hx : p.tables.exec = Jvm.exec) (hb : c.code = code) (hml : c.maxLocals = 4) (hown : s.vm.findClass R_law = some m.cls) (htU : ∀ w ∈ wsL_law, w.before #[Value.ref b] s = true) (hX : va_X b L xs s s.heap) (hbl : b < s.heap.size) (hbA : ¬ (fun q : Nat => s.heap.size ≤ q) b) (hK : va_K D vwCl (a_tys ty) s) (hpu : aPure Rel) {K : Option Nat} (hKK : K = none ∨ K = some 34) {ρ μ : Nat → Nat} {SX SM : aSt} {H : Heap} {locs : List Loc} {ls : Array Slot} {x3 : Int32} (h_1 : vp_in (x3 + 1) L) (h_2 : vp_in (x3 + 2) L) (h_3 : vp_in (x3 + 3) L) (h_4 : vp_in (x3 + 4) L) (hl : lv_has ls 4 [(0, .ref b), (1, .ref (ρ 0)), (2, .ref (μ 0)), (3, .int x3)]) (hrel : Rel K SX SM) (hls : lS D ty s K ρ μ SX SM H locs)
    (latch : ∀ (SX SM : aSt) (H : Heap) (locs : List Loc) (K : Option Nat) (ρ : Nat → Nat), (K = none ∨ K = some 34) → Rel K SX SM → lS D ty s K ρ μ SX SM H locs → lv_has ls 4 [(0, .ref b), (1, .ref (ρ 0)), (2, .ref (μ 0)), (3, .int x3)] → W p l e room_1 s m #[Value.ref b] below meth c H locs (cuK K) (suK K) (lw_Z below #[Value.ref b] s) (F0 m 1014 ls [])) : W p l e room_1 s m #[Value.ref b] below meth c H locs (cuK K) (suK K) (lw_Z below #[Value.ref b] s) (F0 m 382 ls []) := by
  obtain ⟨r, SX1, SM1, e1, e2, hrel1⟩ := hpu.2.2.2.2.2.2.1 K SX SM (xs (x3 + (1 : Int32)).toNatClampNeg) (xs (x3 + (2 : Int32)).toNatClampNeg) hrel
  have hl1 := hls
  have hS := hls.2.2.2.2.2.2.2.1
  refine lv_aload_n hx hb dL_law_382 rfl (lv_at hl 1 rfl) ?_
  refine lv_aload_n hx hb dL_law_383 rfl (lv_at hl 0 rfl) ?_
  refine lv_iload_n hx hb dL_law_384 rfl (lv_at hl 3 rfl) ?_
  refine lv_iconst (v := (1 : Int32)) hx hb dL_law_385 (by decide) ?_
  refine lv_iadd hx hb dL_law_386 ?_
  refine va_sld hx hb hX hbl hbA hS h_1 dL_law_387 ?_
  refine lv_aload_n hx hb dL_law_388 rfl (lv_at hl 0 rfl) ?_
  refine lv_iload_n hx hb dL_law_389 rfl (lv_at hl 3 rfl) ?_
  refine lv_iconst (v := (2 : Int32)) hx hb dL_law_390 (by decide) ?_
  refine lv_iadd hx hb dL_law_391 ?_
  refine va_sld hx hb hX hbl hbA hS h_2 dL_law_392 ?_
  refine l_call (G := (l, D, ty, ρ, xsh K)) (As := [.int (xs (x3 + (1 : Int32)).toNatClampNeg), .int (xs (x3 + (2 : Int32)).toNatClampNeg)]) (rest := []) hx hb hml hown htU hK hl1.1 hl1.2.2.1 hl1.2.2.2.2.2.2.2.2.1 hl1.2.2.2.2.1 (fun _ h => h) hl1.2.2.2.2.2.2.2.1 dL_law_393 (aMet_of e1 (m_X6_of (xsh_ft hKK) (xs (x3 + (1 : Int32)).toNatClampNeg) (xs (x3 + (2 : Int32)).toNatClampNeg) SX)) (gL_V (wU_r19 _ (List.mem_of_getElem? (i := 8) rfl)) (wU_r19 _ (List.mem_of_getElem? (i := 9) rfl)) (wU_r19 _ (List.mem_of_getElem? (i := 10) rfl)) (wU_r1 _ (List.mem_of_getElem? (i := 2) rfl)) (wU_r19 _ (List.mem_of_getElem? (i := 11) rfl))) rfl (xsh_ft (l := l) (D := D) (ty := ty) (ρ := ρ) hKK).1 rfl lw_dd_X6_of rfl hl.1 rfl (Nat.le_of_ble_eq_true rfl) (Nat.le_of_ble_eq_true rfl) (Nat.le_of_ble_eq_true rfl) (cuK_le _) (suK_le _) (fun H1 locs1 hP1 hz1 hk1 hS1 => ?_)
  have hls := hl1.X hP1 hk1 hS1
  clear hl1 hS
  have hl1 := hls
  have hS := hls.2.2.2.2.2.2.2.1
  refine lv_aload_n hx hb dL_law_396 rfl (lv_at hl 2 rfl) ?_
  refine lv_aload_n hx hb dL_law_397 rfl (lv_at hl 0 rfl) ?_
  refine lv_iload_n hx hb dL_law_398 rfl (lv_at hl 3 rfl) ?_
  refine lv_iconst (v := (1 : Int32)) hx hb dL_law_399 (by decide) ?_
  refine lv_iadd hx hb dL_law_400 ?_
  refine va_sld hx hb hX hbl hbA hS h_1 dL_law_401 ?_
  refine lv_aload_n hx hb dL_law_402 rfl (lv_at hl 0 rfl) ?_
  refine lv_iload_n hx hb dL_law_403 rfl (lv_at hl 3 rfl) ?_
  refine lv_iconst (v := (2 : Int32)) hx hb dL_law_404 (by decide) ?_
  refine lv_iadd hx hb dL_law_405 ?_
  refine va_sld hx hb hX hbl hbA hS h_2 dL_law_406 ?_
  refine l_call (G := (l, D, ty, μ, msh)) (As := [.int (xs (x3 + (1 : Int32)).toNatClampNeg), .int (xs (x3 + (2 : Int32)).toNatClampNeg)]) (rest := [.int r]) hx hb hml hown htU hK hl1.2.1 hl1.2.2.2.1 hl1.2.2.2.2.2.2.2.2.2 hl1.2.2.2.2.2.1 (fun _ h => h) hl1.2.2.2.2.2.2.2.1 dL_law_407 (aMet_of e2 (m_X7_of msh_ok (xs (x3 + (1 : Int32)).toNatClampNeg) (xs (x3 + (2 : Int32)).toNatClampNeg) SM)) (gL_V (wU_r19 _ (List.mem_of_getElem? (i := 17) rfl)) (wU_r19 _ (List.mem_of_getElem? (i := 18) rfl)) (wU_r19 _ (List.mem_of_getElem? (i := 19) rfl)) (wU_r1 _ (List.mem_of_getElem? (i := 5) rfl)) (wU_r19 _ (List.mem_of_getElem? (i := 20) rfl))) rfl (msh_ok (l := l) (D := D) (ty := ty) (ρ := μ)).1 rfl lw_dd_X7_of rfl hl.1 rfl (Nat.le_of_ble_eq_true rfl) (Nat.le_of_ble_eq_true rfl) (Nat.le_of_ble_eq_true rfl) (cuK_le _) (suK_le _) (fun H1 locs1 hP1 hz1 hk1 hS1 => ?_)
  have hls := hl1.M hP1 hk1 hS1
  refine lv_icmp_eq (tgt := 1014) hx hb dL_law_410 (by decide) (fun _ => ?_) (fun c9 => absurd rfl c9)
  exact latch _ _ _ _ K ρ hKK hrel1 hls hl
set_option maxRecDepth 20000 in
set_option maxHeartbeats 4000000 in
theorem law_plan {p : Program} {l : Launch} {e : Env} {s : State} {m : MethodId} {below : List Frame} {meth : Method} {c : Code} {D : va_G} {ty : Nat → ClassId} {b L : Nat} {xs : Nat → Int32} {Rel : Option Nat → aSt → aSt → Prop} (hx : p.tables.exec = Jvm.exec) (hb : c.code = code) (hml : c.maxLocals = 4) (hown : s.vm.findClass R_law = some m.cls) (htU : ∀ w ∈ wsL_law, w.before #[Value.ref b] s = true) (hX : va_X b L xs s s.heap) (hbl : b < s.heap.size) (hbA : ¬ (fun q : Nat => s.heap.size ≤ q) b) (hK : va_K D vwCl (a_tys ty) s) (hpu : aPure Rel) {K : Option Nat} (hKK : K = none ∨ K = some 34) {ρ μ : Nat → Nat} {SX SM : aSt} {H : Heap} {locs : List Loc} {ls : Array Slot} {x3 : Int32} (h_1 : vp_in (x3 + 1) L) (h_2 : vp_in (x3 + 2) L) (h_3 : vp_in (x3 + 3) L) (h_4 : vp_in (x3 + 4) L) (hl : lv_has ls 4 [(0, .ref b), (1, .ref (ρ 0)), (2, .ref (μ 0)), (3, .int x3)]) (hrel : Rel K SX SM) (hls : lS D ty s K ρ μ SX SM H locs)
    (latch : ∀ (SX SM : aSt) (H : Heap) (locs : List Loc) (K : Option Nat) (ρ : Nat → Nat), (K = none ∨ K = some 34) → Rel K SX SM → lS D ty s K ρ μ SX SM H locs → lv_has ls 4 [(0, .ref b), (1, .ref (ρ 0)), (2, .ref (μ 0)), (3, .int x3)] → W p l e room_1 s m #[Value.ref b] below meth c H locs (cuK K) (suK K) (lw_Z below #[Value.ref b] s) (F0 m 1014 ls [])) : W p l e room_1 s m #[Value.ref b] below meth c H locs (cuK K) (suK K) (lw_Z below #[Value.ref b] s) (F0 m 415 ls []) := by
  obtain ⟨r, SX1, SM1, e1, e2, hrel1⟩ := hpu.2.2.2.2.2.2.2.1 K SX SM (xs (x3 + (1 : Int32)).toNatClampNeg) (xs (x3 + (2 : Int32)).toNatClampNeg) (xs (x3 + (3 : Int32)).toNatClampNeg) hrel
  have hl1 := hls
  have hS := hls.2.2.2.2.2.2.2.1
  refine lv_aload_n hx hb dL_law_415 rfl (lv_at hl 1 rfl) ?_
  refine lv_aload_n hx hb dL_law_416 rfl (lv_at hl 0 rfl) ?_
  refine lv_iload_n hx hb dL_law_417 rfl (lv_at hl 3 rfl) ?_
  refine lv_iconst (v := (1 : Int32)) hx hb dL_law_418 (by decide) ?_
  refine lv_iadd hx hb dL_law_419 ?_
  refine va_sld hx hb hX hbl hbA hS h_1 dL_law_420 ?_
  refine lv_aload_n hx hb dL_law_421 rfl (lv_at hl 0 rfl) ?_
  refine lv_iload_n hx hb dL_law_422 rfl (lv_at hl 3 rfl) ?_
  refine lv_iconst (v := (2 : Int32)) hx hb dL_law_423 (by decide) ?_
  refine lv_iadd hx hb dL_law_424 ?_
  refine va_sld hx hb hX hbl hbA hS h_2 dL_law_425 ?_
  refine lv_aload_n hx hb dL_law_426 rfl (lv_at hl 0 rfl) ?_
  refine lv_iload_n hx hb dL_law_427 rfl (lv_at hl 3 rfl) ?_
  refine lv_iconst (v := (3 : Int32)) hx hb dL_law_428 (by decide) ?_
  refine lv_iadd hx hb dL_law_429 ?_
  refine va_sld hx hb hX hbl hbA hS h_3 dL_law_430 ?_
  refine l_call (G := (l, D, ty, ρ, xsh K)) (As := [.int (xs (x3 + (1 : Int32)).toNatClampNeg), .int (xs (x3 + (2 : Int32)).toNatClampNeg), .int (xs (x3 + (3 : Int32)).toNatClampNeg)]) (rest := []) hx hb hml hown htU hK hl1.1 hl1.2.2.1 hl1.2.2.2.2.2.2.2.2.1 hl1.2.2.2.2.1 (fun _ h => h) hl1.2.2.2.2.2.2.2.1 dL_law_431 (aMet_of e1 (m_X6_plan (xsh_ft hKK) (xs (x3 + (1 : Int32)).toNatClampNeg) (xs (x3 + (2 : Int32)).toNatClampNeg) (xs (x3 + (3 : Int32)).toNatClampNeg) SX)) (gL_V (wU_r19 _ (List.mem_of_getElem? (i := 21) rfl)) (wU_r19 _ (List.mem_of_getElem? (i := 22) rfl)) (wU_r19 _ (List.mem_of_getElem? (i := 23) rfl)) (wU_r1 _ (List.mem_of_getElem? (i := 2) rfl)) (wU_r20 _ (List.mem_of_getElem? (i := 0) rfl))) rfl (xsh_ft (l := l) (D := D) (ty := ty) (ρ := ρ) hKK).1 rfl lw_dd_X6_plan rfl hl.1 rfl (Nat.le_of_ble_eq_true rfl) (Nat.le_of_ble_eq_true rfl) (Nat.le_of_ble_eq_true rfl) (cuK_le _) (suK_le _) (fun H1 locs1 hP1 hz1 hk1 hS1 => ?_)
  have hls := hl1.X hP1 hk1 hS1
  clear hl1 hS
  have hl1 := hls
  have hS := hls.2.2.2.2.2.2.2.1
  refine lv_aload_n hx hb dL_law_434 rfl (lv_at hl 2 rfl) ?_
  refine lv_aload_n hx hb dL_law_435 rfl (lv_at hl 0 rfl) ?_
  refine lv_iload_n hx hb dL_law_436 rfl (lv_at hl 3 rfl) ?_
  refine lv_iconst (v := (1 : Int32)) hx hb dL_law_437 (by decide) ?_
  refine lv_iadd hx hb dL_law_438 ?_
  refine va_sld hx hb hX hbl hbA hS h_1 dL_law_439 ?_
  refine lv_aload_n hx hb dL_law_440 rfl (lv_at hl 0 rfl) ?_
  refine lv_iload_n hx hb dL_law_441 rfl (lv_at hl 3 rfl) ?_
  refine lv_iconst (v := (2 : Int32)) hx hb dL_law_442 (by decide) ?_
  refine lv_iadd hx hb dL_law_443 ?_
  refine va_sld hx hb hX hbl hbA hS h_2 dL_law_444 ?_
  refine lv_aload_n hx hb dL_law_445 rfl (lv_at hl 0 rfl) ?_
  refine lv_iload_n hx hb dL_law_446 rfl (lv_at hl 3 rfl) ?_
  refine lv_iconst (v := (3 : Int32)) hx hb dL_law_447 (by decide) ?_
  refine lv_iadd hx hb dL_law_448 ?_
  refine va_sld hx hb hX hbl hbA hS h_3 dL_law_449 ?_
  refine l_call (G := (l, D, ty, μ, msh)) (As := [.int (xs (x3 + (1 : Int32)).toNatClampNeg), .int (xs (x3 + (2 : Int32)).toNatClampNeg), .int (xs (x3 + (3 : Int32)).toNatClampNeg)]) (rest := [.int r]) hx hb hml hown htU hK hl1.2.1 hl1.2.2.2.1 hl1.2.2.2.2.2.2.2.2.2 hl1.2.2.2.2.2.1 (fun _ h => h) hl1.2.2.2.2.2.2.2.1 dL_law_450 (aMet_of e2 (m_X7_plan msh_ok (xs (x3 + (1 : Int32)).toNatClampNeg) (xs (x3 + (2 : Int32)).toNatClampNeg) (xs (x3 + (3 : Int32)).toNatClampNeg) SM)) (gL_V (wU_r20 _ (List.mem_of_getElem? (i := 2) rfl)) (wU_r20 _ (List.mem_of_getElem? (i := 3) rfl)) (wU_r20 _ (List.mem_of_getElem? (i := 4) rfl)) (wU_r1 _ (List.mem_of_getElem? (i := 5) rfl)) (wU_r20 _ (List.mem_of_getElem? (i := 5) rfl))) rfl (msh_ok (l := l) (D := D) (ty := ty) (ρ := μ)).1 rfl lw_dd_X7_plan rfl hl.1 rfl (Nat.le_of_ble_eq_true rfl) (Nat.le_of_ble_eq_true rfl) (Nat.le_of_ble_eq_true rfl) (cuK_le _) (suK_le _) (fun H1 locs1 hP1 hz1 hk1 hS1 => ?_)
  have hls := hl1.M hP1 hk1 hS1
  refine lv_icmp_eq (tgt := 1014) hx hb dL_law_453 (by decide) (fun _ => ?_) (fun c9 => absurd rfl c9)
  exact latch _ _ _ _ K ρ hKK hrel1 hls hl
set_option maxRecDepth 20000 in
set_option maxHeartbeats 4000000 in
theorem law_goes {p : Program} {l : Launch} {e : Env} {s : State} {m : MethodId} {below : List Frame} {meth : Method} {c : Code} {D : va_G} {ty : Nat → ClassId} {b L : Nat} {xs : Nat → Int32} {Rel : Option Nat → aSt → aSt → Prop} (hx : p.tables.exec = Jvm.exec) (hb : c.code = code) (hml : c.maxLocals = 4) (hown : s.vm.findClass R_law = some m.cls) (htU : ∀ w ∈ wsL_law, w.before #[Value.ref b] s = true) (hX : va_X b L xs s s.heap) (hbl : b < s.heap.size) (hbA : ¬ (fun q : Nat => s.heap.size ≤ q) b) (hK : va_K D vwCl (a_tys ty) s) (hpu : aPure Rel) {K : Option Nat} (hKK : K = none ∨ K = some 34) {ρ μ : Nat → Nat} {SX SM : aSt} {H : Heap} {locs : List Loc} {ls : Array Slot} {x3 : Int32} (h_1 : vp_in (x3 + 1) L) (h_2 : vp_in (x3 + 2) L) (h_3 : vp_in (x3 + 3) L) (h_4 : vp_in (x3 + 4) L) (hl : lv_has ls 4 [(0, .ref b), (1, .ref (ρ 0)), (2, .ref (μ 0)), (3, .int x3)]) (hrel : Rel K SX SM) (hls : lS D ty s K ρ μ SX SM H locs)
    (latch : ∀ (SX SM : aSt) (H : Heap) (locs : List Loc) (K : Option Nat) (ρ : Nat → Nat), (K = none ∨ K = some 34) → Rel K SX SM → lS D ty s K ρ μ SX SM H locs → lv_has ls 4 [(0, .ref b), (1, .ref (ρ 0)), (2, .ref (μ 0)), (3, .int x3)] → W p l e room_1 s m #[Value.ref b] below meth c H locs (cuK K) (suK K) (lw_Z below #[Value.ref b] s) (F0 m 1014 ls [])) : W p l e room_1 s m #[Value.ref b] below meth c H locs (cuK K) (suK K) (lw_Z below #[Value.ref b] s) (F0 m 458 ls []) := by
  obtain ⟨r, SX1, SM1, e1, e2, hrel1⟩ := hpu.2.2.2.2.2.2.2.2.1 K SX SM (xs (x3 + (1 : Int32)).toNatClampNeg) (xs (x3 + (2 : Int32)).toNatClampNeg) hrel
  have hl1 := hls
  have hS := hls.2.2.2.2.2.2.2.1
  refine lv_aload_n hx hb dL_law_458 rfl (lv_at hl 1 rfl) ?_
  refine lv_aload_n hx hb dL_law_459 rfl (lv_at hl 0 rfl) ?_
  refine lv_iload_n hx hb dL_law_460 rfl (lv_at hl 3 rfl) ?_
  refine lv_iconst (v := (1 : Int32)) hx hb dL_law_461 (by decide) ?_
  refine lv_iadd hx hb dL_law_462 ?_
  refine va_sld hx hb hX hbl hbA hS h_1 dL_law_463 ?_
  refine lv_aload_n hx hb dL_law_464 rfl (lv_at hl 0 rfl) ?_
  refine lv_iload_n hx hb dL_law_465 rfl (lv_at hl 3 rfl) ?_
  refine lv_iconst (v := (2 : Int32)) hx hb dL_law_466 (by decide) ?_
  refine lv_iadd hx hb dL_law_467 ?_
  refine va_sld hx hb hX hbl hbA hS h_2 dL_law_468 ?_
  refine l_call (G := (l, D, ty, ρ, xsh K)) (As := [.int (xs (x3 + (1 : Int32)).toNatClampNeg), .int (xs (x3 + (2 : Int32)).toNatClampNeg)]) (rest := []) hx hb hml hown htU hK hl1.1 hl1.2.2.1 hl1.2.2.2.2.2.2.2.2.1 hl1.2.2.2.2.1 (fun _ h => h) hl1.2.2.2.2.2.2.2.1 dL_law_469 (aMet_of e1 (m_X6_goes (xsh_ft hKK) (xs (x3 + (1 : Int32)).toNatClampNeg) (xs (x3 + (2 : Int32)).toNatClampNeg) SX)) (gL_V (wU_r20 _ (List.mem_of_getElem? (i := 6) rfl)) (wU_r20 _ (List.mem_of_getElem? (i := 7) rfl)) (wU_r20 _ (List.mem_of_getElem? (i := 8) rfl)) (wU_r1 _ (List.mem_of_getElem? (i := 2) rfl)) (wU_r20 _ (List.mem_of_getElem? (i := 9) rfl))) rfl (xsh_ft (l := l) (D := D) (ty := ty) (ρ := ρ) hKK).1 rfl lw_dd_X6_goes rfl hl.1 rfl (Nat.le_of_ble_eq_true rfl) (Nat.le_of_ble_eq_true rfl) (Nat.le_of_ble_eq_true rfl) (cuK_le _) (suK_le _) (fun H1 locs1 hP1 hz1 hk1 hS1 => ?_)
  have hls := hl1.X hP1 hk1 hS1
  clear hl1 hS
  have hl1 := hls
  have hS := hls.2.2.2.2.2.2.2.1
  refine lv_aload_n hx hb dL_law_472 rfl (lv_at hl 2 rfl) ?_
  refine lv_aload_n hx hb dL_law_473 rfl (lv_at hl 0 rfl) ?_
  refine lv_iload_n hx hb dL_law_474 rfl (lv_at hl 3 rfl) ?_
  refine lv_iconst (v := (1 : Int32)) hx hb dL_law_475 (by decide) ?_
  refine lv_iadd hx hb dL_law_476 ?_
  refine va_sld hx hb hX hbl hbA hS h_1 dL_law_477 ?_
  refine lv_aload_n hx hb dL_law_478 rfl (lv_at hl 0 rfl) ?_
  refine lv_iload_n hx hb dL_law_479 rfl (lv_at hl 3 rfl) ?_
  refine lv_iconst (v := (2 : Int32)) hx hb dL_law_480 (by decide) ?_
  refine lv_iadd hx hb dL_law_481 ?_
  refine va_sld hx hb hX hbl hbA hS h_2 dL_law_482 ?_
  refine l_call (G := (l, D, ty, μ, msh)) (As := [.int (xs (x3 + (1 : Int32)).toNatClampNeg), .int (xs (x3 + (2 : Int32)).toNatClampNeg)]) (rest := [.int r]) hx hb hml hown htU hK hl1.2.1 hl1.2.2.2.1 hl1.2.2.2.2.2.2.2.2.2 hl1.2.2.2.2.2.1 (fun _ h => h) hl1.2.2.2.2.2.2.2.1 dL_law_483 (aMet_of e2 (m_X7_goes msh_ok (xs (x3 + (1 : Int32)).toNatClampNeg) (xs (x3 + (2 : Int32)).toNatClampNeg) SM)) (gL_V (wU_r24 _ (List.mem_of_getElem? (i := 21) rfl)) (wU_r24 _ (List.mem_of_getElem? (i := 22) rfl)) (wU_r24 _ (List.mem_of_getElem? (i := 23) rfl)) (wU_r1 _ (List.mem_of_getElem? (i := 5) rfl)) (wU_r25 _ (List.mem_of_getElem? (i := 0) rfl))) rfl (msh_ok (l := l) (D := D) (ty := ty) (ρ := μ)).1 rfl lw_dd_X7_goes rfl hl.1 rfl (Nat.le_of_ble_eq_true rfl) (Nat.le_of_ble_eq_true rfl) (Nat.le_of_ble_eq_true rfl) (cuK_le _) (suK_le _) (fun H1 locs1 hP1 hz1 hk1 hS1 => ?_)
  have hls := hl1.M hP1 hk1 hS1
  refine lv_icmp_eq (tgt := 1014) hx hb dL_law_486 (by decide) (fun _ => ?_) (fun c9 => absurd rfl c9)
  exact latch _ _ _ _ K ρ hKK hrel1 hls hl
set_option maxRecDepth 20000 in
set_option maxHeartbeats 4000000 in
theorem law_lies {p : Program} {l : Launch} {e : Env} {s : State} {m : MethodId} {below : List Frame} {meth : Method} {c : Code} {D : va_G} {ty : Nat → ClassId} {b L : Nat} {xs : Nat → Int32} {Rel : Option Nat → aSt → aSt → Prop} (hx : p.tables.exec = Jvm.exec) (hb : c.code = code) (hml : c.maxLocals = 4) (hown : s.vm.findClass R_law = some m.cls) (htU : ∀ w ∈ wsL_law, w.before #[Value.ref b] s = true) (hX : va_X b L xs s s.heap) (hbl : b < s.heap.size) (hbA : ¬ (fun q : Nat => s.heap.size ≤ q) b) (hK : va_K D vwCl (a_tys ty) s) (hpu : aPure Rel) {K : Option Nat} (hKK : K = none ∨ K = some 34) {ρ μ : Nat → Nat} {SX SM : aSt} {H : Heap} {locs : List Loc} {ls : Array Slot} {x3 : Int32} (h_1 : vp_in (x3 + 1) L) (h_2 : vp_in (x3 + 2) L) (h_3 : vp_in (x3 + 3) L) (h_4 : vp_in (x3 + 4) L) (hl : lv_has ls 4 [(0, .ref b), (1, .ref (ρ 0)), (2, .ref (μ 0)), (3, .int x3)]) (hrel : Rel K SX SM) (hls : lS D ty s K ρ μ SX SM H locs)
    (latch : ∀ (SX SM : aSt) (H : Heap) (locs : List Loc) (K : Option Nat) (ρ : Nat → Nat), (K = none ∨ K = some 34) → Rel K SX SM → lS D ty s K ρ μ SX SM H locs → lv_has ls 4 [(0, .ref b), (1, .ref (ρ 0)), (2, .ref (μ 0)), (3, .int x3)] → W p l e room_1 s m #[Value.ref b] below meth c H locs (cuK K) (suK K) (lw_Z below #[Value.ref b] s) (F0 m 1014 ls [])) : W p l e room_1 s m #[Value.ref b] below meth c H locs (cuK K) (suK K) (lw_Z below #[Value.ref b] s) (F0 m 491 ls []) := by
  obtain ⟨r, SX1, SM1, e1, e2, hrel1⟩ := hpu.2.2.2.2.2.2.2.2.2.1 K SX SM (xs (x3 + (1 : Int32)).toNatClampNeg) hrel
  have hl1 := hls
  have hS := hls.2.2.2.2.2.2.2.1
  refine lv_aload_n hx hb dL_law_491 rfl (lv_at hl 1 rfl) ?_
  refine lv_aload_n hx hb dL_law_492 rfl (lv_at hl 0 rfl) ?_
  refine lv_iload_n hx hb dL_law_493 rfl (lv_at hl 3 rfl) ?_
  refine lv_iconst (v := (1 : Int32)) hx hb dL_law_494 (by decide) ?_
  refine lv_iadd hx hb dL_law_495 ?_
  refine va_sld hx hb hX hbl hbA hS h_1 dL_law_496 ?_
  refine l_call (G := (l, D, ty, ρ, xsh K)) (As := [.int (xs (x3 + (1 : Int32)).toNatClampNeg)]) (rest := []) hx hb hml hown htU hK hl1.1 hl1.2.2.1 hl1.2.2.2.2.2.2.2.2.1 hl1.2.2.2.2.1 (fun _ h => h) hl1.2.2.2.2.2.2.2.1 dL_law_497 (aMet_of e1 (m_X6_lies (xsh_ft hKK) (xs (x3 + (1 : Int32)).toNatClampNeg) SX)) (gL_V (wU_r27 _ (List.mem_of_getElem? (i := 6) rfl)) (wU_r27 _ (List.mem_of_getElem? (i := 7) rfl)) (wU_r27 _ (List.mem_of_getElem? (i := 8) rfl)) (wU_r1 _ (List.mem_of_getElem? (i := 2) rfl)) (wU_r27 _ (List.mem_of_getElem? (i := 9) rfl))) rfl (xsh_ft (l := l) (D := D) (ty := ty) (ρ := ρ) hKK).1 rfl lw_dd_X6_lies rfl hl.1 rfl (Nat.le_of_ble_eq_true rfl) (Nat.le_of_ble_eq_true rfl) (Nat.le_of_ble_eq_true rfl) (cuK_le _) (suK_le _) (fun H1 locs1 hP1 hz1 hk1 hS1 => ?_)
  have hls := hl1.X hP1 hk1 hS1
  clear hl1 hS
  have hl1 := hls
  have hS := hls.2.2.2.2.2.2.2.1
  refine lv_aload_n hx hb dL_law_500 rfl (lv_at hl 2 rfl) ?_
  refine lv_aload_n hx hb dL_law_501 rfl (lv_at hl 0 rfl) ?_
  refine lv_iload_n hx hb dL_law_502 rfl (lv_at hl 3 rfl) ?_
  refine lv_iconst (v := (1 : Int32)) hx hb dL_law_503 (by decide) ?_
  refine lv_iadd hx hb dL_law_504 ?_
  refine va_sld hx hb hX hbl hbA hS h_1 dL_law_505 ?_
  refine l_call (G := (l, D, ty, μ, msh)) (As := [.int (xs (x3 + (1 : Int32)).toNatClampNeg)]) (rest := [.long r]) hx hb hml hown htU hK hl1.2.1 hl1.2.2.2.1 hl1.2.2.2.2.2.2.2.2.2 hl1.2.2.2.2.2.1 (fun _ h => h) hl1.2.2.2.2.2.2.2.1 dL_law_506 (aMet_of e2 (m_X7_lies msh_ok (xs (x3 + (1 : Int32)).toNatClampNeg) SM)) (gL_V (wU_r27 _ (List.mem_of_getElem? (i := 11) rfl)) (wU_r27 _ (List.mem_of_getElem? (i := 12) rfl)) (wU_r27 _ (List.mem_of_getElem? (i := 13) rfl)) (wU_r1 _ (List.mem_of_getElem? (i := 5) rfl)) (wU_r27 _ (List.mem_of_getElem? (i := 14) rfl))) rfl (msh_ok (l := l) (D := D) (ty := ty) (ρ := μ)).1 rfl lw_dd_X7_lies rfl hl.1 rfl (Nat.le_of_ble_eq_true rfl) (Nat.le_of_ble_eq_true rfl) (Nat.le_of_ble_eq_true rfl) (cuK_le _) (suK_le _) (fun H1 locs1 hP1 hz1 hk1 hS1 => ?_)
  have hls := hl1.M hP1 hk1 hS1
  refine W.lcmp hx hb dL_law_509 ?_
  refine lv_if_eq (tgt := 1014) hx hb dL_law_510 (by decide) (fun _ => ?_) (fun c9 => absurd (by simp [lg_cmp]) c9)
  exact latch _ _ _ _ K ρ hKK hrel1 hls hl
set_option maxRecDepth 20000 in
set_option maxHeartbeats 4000000 in
theorem law_fell {p : Program} {l : Launch} {e : Env} {s : State} {m : MethodId} {below : List Frame} {meth : Method} {c : Code} {D : va_G} {ty : Nat → ClassId} {b L : Nat} {xs : Nat → Int32} {Rel : Option Nat → aSt → aSt → Prop} (hx : p.tables.exec = Jvm.exec) (hb : c.code = code) (hml : c.maxLocals = 4) (hown : s.vm.findClass R_law = some m.cls) (htU : ∀ w ∈ wsL_law, w.before #[Value.ref b] s = true) (hX : va_X b L xs s s.heap) (hbl : b < s.heap.size) (hbA : ¬ (fun q : Nat => s.heap.size ≤ q) b) (hK : va_K D vwCl (a_tys ty) s) (hpu : aPure Rel) {K : Option Nat} (hKK : K = none ∨ K = some 34) {ρ μ : Nat → Nat} {SX SM : aSt} {H : Heap} {locs : List Loc} {ls : Array Slot} {x3 : Int32} (h_1 : vp_in (x3 + 1) L) (h_2 : vp_in (x3 + 2) L) (h_3 : vp_in (x3 + 3) L) (h_4 : vp_in (x3 + 4) L) (hl : lv_has ls 4 [(0, .ref b), (1, .ref (ρ 0)), (2, .ref (μ 0)), (3, .int x3)]) (hrel : Rel K SX SM) (hls : lS D ty s K ρ μ SX SM H locs)
    (latch : ∀ (SX SM : aSt) (H : Heap) (locs : List Loc) (K : Option Nat) (ρ : Nat → Nat), (K = none ∨ K = some 34) → Rel K SX SM → lS D ty s K ρ μ SX SM H locs → lv_has ls 4 [(0, .ref b), (1, .ref (ρ 0)), (2, .ref (μ 0)), (3, .int x3)] → W p l e room_1 s m #[Value.ref b] below meth c H locs (cuK K) (suK K) (lw_Z below #[Value.ref b] s) (F0 m 1014 ls [])) : W p l e room_1 s m #[Value.ref b] below meth c H locs (cuK K) (suK K) (lw_Z below #[Value.ref b] s) (F0 m 515 ls []) := by
  obtain ⟨r, SX1, SM1, e1, e2, hrel1⟩ := hpu.2.2.2.2.2.2.2.2.2.2.1 K SX SM (xs (x3 + (1 : Int32)).toNatClampNeg) hrel
  have hl1 := hls
  have hS := hls.2.2.2.2.2.2.2.1
  refine lv_aload_n hx hb dL_law_515 rfl (lv_at hl 1 rfl) ?_
  refine lv_aload_n hx hb dL_law_516 rfl (lv_at hl 0 rfl) ?_
  refine lv_iload_n hx hb dL_law_517 rfl (lv_at hl 3 rfl) ?_
  refine lv_iconst (v := (1 : Int32)) hx hb dL_law_518 (by decide) ?_
  refine lv_iadd hx hb dL_law_519 ?_
  refine va_sld hx hb hX hbl hbA hS h_1 dL_law_520 ?_
  refine l_call (G := (l, D, ty, ρ, xsh K)) (As := [.int (xs (x3 + (1 : Int32)).toNatClampNeg)]) (rest := []) hx hb hml hown htU hK hl1.1 hl1.2.2.1 hl1.2.2.2.2.2.2.2.2.1 hl1.2.2.2.2.1 (fun _ h => h) hl1.2.2.2.2.2.2.2.1 dL_law_521 (aMet_of e1 (m_X6_fell (xsh_ft hKK) (xs (x3 + (1 : Int32)).toNatClampNeg) SX)) (gL_V (wU_r27 _ (List.mem_of_getElem? (i := 16) rfl)) (wU_r27 _ (List.mem_of_getElem? (i := 17) rfl)) (wU_r27 _ (List.mem_of_getElem? (i := 18) rfl)) (wU_r1 _ (List.mem_of_getElem? (i := 2) rfl)) (wU_r27 _ (List.mem_of_getElem? (i := 19) rfl))) rfl (xsh_ft (l := l) (D := D) (ty := ty) (ρ := ρ) hKK).1 rfl lw_dd_X6_fell rfl hl.1 rfl (Nat.le_of_ble_eq_true rfl) (Nat.le_of_ble_eq_true rfl) (Nat.le_of_ble_eq_true rfl) (cuK_le _) (suK_le _) (fun H1 locs1 hP1 hz1 hk1 hS1 => ?_)
  have hls := hl1.X hP1 hk1 hS1
  clear hl1 hS
  have hl1 := hls
  have hS := hls.2.2.2.2.2.2.2.1
  refine lv_aload_n hx hb dL_law_524 rfl (lv_at hl 2 rfl) ?_
  refine lv_aload_n hx hb dL_law_525 rfl (lv_at hl 0 rfl) ?_
  refine lv_iload_n hx hb dL_law_526 rfl (lv_at hl 3 rfl) ?_
  refine lv_iconst (v := (1 : Int32)) hx hb dL_law_527 (by decide) ?_
  refine lv_iadd hx hb dL_law_528 ?_
  refine va_sld hx hb hX hbl hbA hS h_1 dL_law_529 ?_
  refine l_call (G := (l, D, ty, μ, msh)) (As := [.int (xs (x3 + (1 : Int32)).toNatClampNeg)]) (rest := [.int r]) hx hb hml hown htU hK hl1.2.1 hl1.2.2.2.1 hl1.2.2.2.2.2.2.2.2.2 hl1.2.2.2.2.2.1 (fun _ h => h) hl1.2.2.2.2.2.2.2.1 dL_law_530 (aMet_of e2 (m_X7_fell msh_ok (xs (x3 + (1 : Int32)).toNatClampNeg) SM)) (gL_V (wU_r27 _ (List.mem_of_getElem? (i := 21) rfl)) (wU_r27 _ (List.mem_of_getElem? (i := 22) rfl)) (wU_r27 _ (List.mem_of_getElem? (i := 23) rfl)) (wU_r1 _ (List.mem_of_getElem? (i := 5) rfl)) (wU_r28 _ (List.mem_of_getElem? (i := 0) rfl))) rfl (msh_ok (l := l) (D := D) (ty := ty) (ρ := μ)).1 rfl lw_dd_X7_fell rfl hl.1 rfl (Nat.le_of_ble_eq_true rfl) (Nat.le_of_ble_eq_true rfl) (Nat.le_of_ble_eq_true rfl) (cuK_le _) (suK_le _) (fun H1 locs1 hP1 hz1 hk1 hS1 => ?_)
  have hls := hl1.M hP1 hk1 hS1
  refine lv_icmp_eq (tgt := 1014) hx hb dL_law_533 (by decide) (fun _ => ?_) (fun c9 => absurd rfl c9)
  exact latch _ _ _ _ K ρ hKK hrel1 hls hl
set_option maxRecDepth 20000 in
set_option maxHeartbeats 4000000 in
theorem law_wide {p : Program} {l : Launch} {e : Env} {s : State} {m : MethodId} {below : List Frame} {meth : Method} {c : Code} {D : va_G} {ty : Nat → ClassId} {b L : Nat} {xs : Nat → Int32} {Rel : Option Nat → aSt → aSt → Prop} (hx : p.tables.exec = Jvm.exec) (hb : c.code = code) (hml : c.maxLocals = 4) (hown : s.vm.findClass R_law = some m.cls) (htU : ∀ w ∈ wsL_law, w.before #[Value.ref b] s = true) (hX : va_X b L xs s s.heap) (hbl : b < s.heap.size) (hbA : ¬ (fun q : Nat => s.heap.size ≤ q) b) (hK : va_K D vwCl (a_tys ty) s) (hpu : aPure Rel) {K : Option Nat} (hKK : K = none ∨ K = some 34) {ρ μ : Nat → Nat} {SX SM : aSt} {H : Heap} {locs : List Loc} {ls : Array Slot} {x3 : Int32} (h_1 : vp_in (x3 + 1) L) (h_2 : vp_in (x3 + 2) L) (h_3 : vp_in (x3 + 3) L) (h_4 : vp_in (x3 + 4) L) (hl : lv_has ls 4 [(0, .ref b), (1, .ref (ρ 0)), (2, .ref (μ 0)), (3, .int x3)]) (hrel : Rel K SX SM) (hls : lS D ty s K ρ μ SX SM H locs)
    (latch : ∀ (SX SM : aSt) (H : Heap) (locs : List Loc) (K : Option Nat) (ρ : Nat → Nat), (K = none ∨ K = some 34) → Rel K SX SM → lS D ty s K ρ μ SX SM H locs → lv_has ls 4 [(0, .ref b), (1, .ref (ρ 0)), (2, .ref (μ 0)), (3, .int x3)] → W p l e room_1 s m #[Value.ref b] below meth c H locs (cuK K) (suK K) (lw_Z below #[Value.ref b] s) (F0 m 1014 ls [])) : W p l e room_1 s m #[Value.ref b] below meth c H locs (cuK K) (suK K) (lw_Z below #[Value.ref b] s) (F0 m 538 ls []) := by
  obtain ⟨r, SX1, SM1, e1, e2, hrel1⟩ := hpu.2.2.2.2.2.2.2.2.2.2.2.1 K SX SM (xs (x3 + (1 : Int32)).toNatClampNeg) (xs (x3 + (2 : Int32)).toNatClampNeg) hrel
  have hl1 := hls
  have hS := hls.2.2.2.2.2.2.2.1
  refine lv_aload_n hx hb dL_law_538 rfl (lv_at hl 1 rfl) ?_
  refine lv_aload_n hx hb dL_law_539 rfl (lv_at hl 0 rfl) ?_
  refine lv_iload_n hx hb dL_law_540 rfl (lv_at hl 3 rfl) ?_
  refine lv_iconst (v := (1 : Int32)) hx hb dL_law_541 (by decide) ?_
  refine lv_iadd hx hb dL_law_542 ?_
  refine va_sld hx hb hX hbl hbA hS h_1 dL_law_543 ?_
  refine lv_aload_n hx hb dL_law_544 rfl (lv_at hl 0 rfl) ?_
  refine lv_iload_n hx hb dL_law_545 rfl (lv_at hl 3 rfl) ?_
  refine lv_iconst (v := (2 : Int32)) hx hb dL_law_546 (by decide) ?_
  refine lv_iadd hx hb dL_law_547 ?_
  refine va_sld hx hb hX hbl hbA hS h_2 dL_law_548 ?_
  refine l_call (G := (l, D, ty, ρ, xsh K)) (As := [.int (xs (x3 + (1 : Int32)).toNatClampNeg), .int (xs (x3 + (2 : Int32)).toNatClampNeg)]) (rest := []) hx hb hml hown htU hK hl1.1 hl1.2.2.1 hl1.2.2.2.2.2.2.2.2.1 hl1.2.2.2.2.1 (fun _ h => h) hl1.2.2.2.2.2.2.2.1 dL_law_549 (aMet_of e1 (m_X6_wide (xsh_ft hKK) (xs (x3 + (1 : Int32)).toNatClampNeg) (xs (x3 + (2 : Int32)).toNatClampNeg) SX)) (gL_V (wU_r28 _ (List.mem_of_getElem? (i := 1) rfl)) (wU_r28 _ (List.mem_of_getElem? (i := 2) rfl)) (wU_r28 _ (List.mem_of_getElem? (i := 3) rfl)) (wU_r1 _ (List.mem_of_getElem? (i := 2) rfl)) (wU_r28 _ (List.mem_of_getElem? (i := 4) rfl))) rfl (xsh_ft (l := l) (D := D) (ty := ty) (ρ := ρ) hKK).1 rfl lw_dd_X6_wide rfl hl.1 rfl (Nat.le_of_ble_eq_true rfl) (Nat.le_of_ble_eq_true rfl) (Nat.le_of_ble_eq_true rfl) (cuK_le _) (suK_le _) (fun H1 locs1 hP1 hz1 hk1 hS1 => ?_)
  have hls := hl1.X hP1 hk1 hS1
  clear hl1 hS
  have hl1 := hls
  have hS := hls.2.2.2.2.2.2.2.1
  refine lv_aload_n hx hb dL_law_552 rfl (lv_at hl 2 rfl) ?_
  refine lv_aload_n hx hb dL_law_553 rfl (lv_at hl 0 rfl) ?_
  refine lv_iload_n hx hb dL_law_554 rfl (lv_at hl 3 rfl) ?_
  refine lv_iconst (v := (1 : Int32)) hx hb dL_law_555 (by decide) ?_
  refine lv_iadd hx hb dL_law_556 ?_
  refine va_sld hx hb hX hbl hbA hS h_1 dL_law_557 ?_
  refine lv_aload_n hx hb dL_law_558 rfl (lv_at hl 0 rfl) ?_
  refine lv_iload_n hx hb dL_law_559 rfl (lv_at hl 3 rfl) ?_
  refine lv_iconst (v := (2 : Int32)) hx hb dL_law_560 (by decide) ?_
  refine lv_iadd hx hb dL_law_561 ?_
  refine va_sld hx hb hX hbl hbA hS h_2 dL_law_562 ?_
  refine l_call (G := (l, D, ty, μ, msh)) (As := [.int (xs (x3 + (1 : Int32)).toNatClampNeg), .int (xs (x3 + (2 : Int32)).toNatClampNeg)]) (rest := [.int r]) hx hb hml hown htU hK hl1.2.1 hl1.2.2.2.1 hl1.2.2.2.2.2.2.2.2.2 hl1.2.2.2.2.2.1 (fun _ h => h) hl1.2.2.2.2.2.2.2.1 dL_law_563 (aMet_of e2 (m_X7_wide msh_ok (xs (x3 + (1 : Int32)).toNatClampNeg) (xs (x3 + (2 : Int32)).toNatClampNeg) SM)) (gL_V (wU_r28 _ (List.mem_of_getElem? (i := 22) rfl)) (wU_r28 _ (List.mem_of_getElem? (i := 23) rfl)) (wU_r29 _ (List.mem_of_getElem? (i := 0) rfl)) (wU_r1 _ (List.mem_of_getElem? (i := 5) rfl)) (wU_r29 _ (List.mem_of_getElem? (i := 1) rfl))) rfl (msh_ok (l := l) (D := D) (ty := ty) (ρ := μ)).1 rfl lw_dd_X7_wide rfl hl.1 rfl (Nat.le_of_ble_eq_true rfl) (Nat.le_of_ble_eq_true rfl) (Nat.le_of_ble_eq_true rfl) (cuK_le _) (suK_le _) (fun H1 locs1 hP1 hz1 hk1 hS1 => ?_)
  have hls := hl1.M hP1 hk1 hS1
  refine lv_icmp_eq (tgt := 1014) hx hb dL_law_566 (by decide) (fun _ => ?_) (fun c9 => absurd rfl c9)
  exact latch _ _ _ _ K ρ hKK hrel1 hls hl
set_option maxRecDepth 20000 in
set_option maxHeartbeats 4000000 in
theorem law_least {p : Program} {l : Launch} {e : Env} {s : State} {m : MethodId} {below : List Frame} {meth : Method} {c : Code} {D : va_G} {ty : Nat → ClassId} {b L : Nat} {xs : Nat → Int32} {Rel : Option Nat → aSt → aSt → Prop} (hx : p.tables.exec = Jvm.exec) (hb : c.code = code) (hml : c.maxLocals = 4) (hown : s.vm.findClass R_law = some m.cls) (htU : ∀ w ∈ wsL_law, w.before #[Value.ref b] s = true) (hX : va_X b L xs s s.heap) (hbl : b < s.heap.size) (hbA : ¬ (fun q : Nat => s.heap.size ≤ q) b) (hK : va_K D vwCl (a_tys ty) s) (hpu : aPure Rel) {K : Option Nat} (hKK : K = none ∨ K = some 34) {ρ μ : Nat → Nat} {SX SM : aSt} {H : Heap} {locs : List Loc} {ls : Array Slot} {x3 : Int32} (h_1 : vp_in (x3 + 1) L) (h_2 : vp_in (x3 + 2) L) (h_3 : vp_in (x3 + 3) L) (h_4 : vp_in (x3 + 4) L) (hl : lv_has ls 4 [(0, .ref b), (1, .ref (ρ 0)), (2, .ref (μ 0)), (3, .int x3)]) (hrel : Rel K SX SM) (hls : lS D ty s K ρ μ SX SM H locs)
    (latch : ∀ (SX SM : aSt) (H : Heap) (locs : List Loc) (K : Option Nat) (ρ : Nat → Nat), (K = none ∨ K = some 34) → Rel K SX SM → lS D ty s K ρ μ SX SM H locs → lv_has ls 4 [(0, .ref b), (1, .ref (ρ 0)), (2, .ref (μ 0)), (3, .int x3)] → W p l e room_1 s m #[Value.ref b] below meth c H locs (cuK K) (suK K) (lw_Z below #[Value.ref b] s) (F0 m 1014 ls [])) : W p l e room_1 s m #[Value.ref b] below meth c H locs (cuK K) (suK K) (lw_Z below #[Value.ref b] s) (F0 m 571 ls []) := by
  obtain ⟨r, SX1, SM1, e1, e2, hrel1⟩ := hpu.2.2.2.2.2.2.2.2.2.2.2.2.1 K SX SM (xs (x3 + (1 : Int32)).toNatClampNeg) (xs (x3 + (2 : Int32)).toNatClampNeg) hrel
  have hl1 := hls
  have hS := hls.2.2.2.2.2.2.2.1
  refine lv_aload_n hx hb dL_law_571 rfl (lv_at hl 1 rfl) ?_
  refine lv_aload_n hx hb dL_law_572 rfl (lv_at hl 0 rfl) ?_
  refine lv_iload_n hx hb dL_law_573 rfl (lv_at hl 3 rfl) ?_
  refine lv_iconst (v := (1 : Int32)) hx hb dL_law_574 (by decide) ?_
  refine lv_iadd hx hb dL_law_575 ?_
  refine va_sld hx hb hX hbl hbA hS h_1 dL_law_576 ?_
  refine lv_aload_n hx hb dL_law_577 rfl (lv_at hl 0 rfl) ?_
  refine lv_iload_n hx hb dL_law_578 rfl (lv_at hl 3 rfl) ?_
  refine lv_iconst (v := (2 : Int32)) hx hb dL_law_579 (by decide) ?_
  refine lv_iadd hx hb dL_law_580 ?_
  refine va_sld hx hb hX hbl hbA hS h_2 dL_law_581 ?_
  refine l_call (G := (l, D, ty, ρ, xsh K)) (As := [.int (xs (x3 + (1 : Int32)).toNatClampNeg), .int (xs (x3 + (2 : Int32)).toNatClampNeg)]) (rest := []) hx hb hml hown htU hK hl1.1 hl1.2.2.1 hl1.2.2.2.2.2.2.2.2.1 hl1.2.2.2.2.1 (fun _ h => h) hl1.2.2.2.2.2.2.2.1 dL_law_582 (aMet_of e1 (m_X6_least (xsh_ft hKK) (xs (x3 + (1 : Int32)).toNatClampNeg) (xs (x3 + (2 : Int32)).toNatClampNeg) SX)) (gL_V (wU_r29 _ (List.mem_of_getElem? (i := 14) rfl)) (wU_r29 _ (List.mem_of_getElem? (i := 15) rfl)) (wU_r29 _ (List.mem_of_getElem? (i := 16) rfl)) (wU_r1 _ (List.mem_of_getElem? (i := 2) rfl)) (wU_r29 _ (List.mem_of_getElem? (i := 17) rfl))) rfl (xsh_ft (l := l) (D := D) (ty := ty) (ρ := ρ) hKK).1 rfl lw_dd_X6_least rfl hl.1 rfl (Nat.le_of_ble_eq_true rfl) (Nat.le_of_ble_eq_true rfl) (Nat.le_of_ble_eq_true rfl) (cuK_le _) (suK_le _) (fun H1 locs1 hP1 hz1 hk1 hS1 => ?_)
  have hls := hl1.X hP1 hk1 hS1
  clear hl1 hS
  have hl1 := hls
  have hS := hls.2.2.2.2.2.2.2.1
  refine lv_aload_n hx hb dL_law_585 rfl (lv_at hl 2 rfl) ?_
  refine lv_aload_n hx hb dL_law_586 rfl (lv_at hl 0 rfl) ?_
  refine lv_iload_n hx hb dL_law_587 rfl (lv_at hl 3 rfl) ?_
  refine lv_iconst (v := (1 : Int32)) hx hb dL_law_588 (by decide) ?_
  refine lv_iadd hx hb dL_law_589 ?_
  refine va_sld hx hb hX hbl hbA hS h_1 dL_law_590 ?_
  refine lv_aload_n hx hb dL_law_591 rfl (lv_at hl 0 rfl) ?_
  refine lv_iload_n hx hb dL_law_592 rfl (lv_at hl 3 rfl) ?_
  refine lv_iconst (v := (2 : Int32)) hx hb dL_law_593 (by decide) ?_
  refine lv_iadd hx hb dL_law_594 ?_
  refine va_sld hx hb hX hbl hbA hS h_2 dL_law_595 ?_
  refine l_call (G := (l, D, ty, μ, msh)) (As := [.int (xs (x3 + (1 : Int32)).toNatClampNeg), .int (xs (x3 + (2 : Int32)).toNatClampNeg)]) (rest := [.int r]) hx hb hml hown htU hK hl1.2.1 hl1.2.2.2.1 hl1.2.2.2.2.2.2.2.2.2 hl1.2.2.2.2.2.1 (fun _ h => h) hl1.2.2.2.2.2.2.2.1 dL_law_596 (aMet_of e2 (m_X7_least msh_ok (xs (x3 + (1 : Int32)).toNatClampNeg) (xs (x3 + (2 : Int32)).toNatClampNeg) SM)) (gL_V (wU_r29 _ (List.mem_of_getElem? (i := 22) rfl)) (wU_r29 _ (List.mem_of_getElem? (i := 23) rfl)) (wU_r30 _ (List.mem_of_getElem? (i := 0) rfl)) (wU_r1 _ (List.mem_of_getElem? (i := 5) rfl)) (wU_r30 _ (List.mem_of_getElem? (i := 1) rfl))) rfl (msh_ok (l := l) (D := D) (ty := ty) (ρ := μ)).1 rfl lw_dd_X7_least rfl hl.1 rfl (Nat.le_of_ble_eq_true rfl) (Nat.le_of_ble_eq_true rfl) (Nat.le_of_ble_eq_true rfl) (cuK_le _) (suK_le _) (fun H1 locs1 hP1 hz1 hk1 hS1 => ?_)
  have hls := hl1.M hP1 hk1 hS1
  refine lv_icmp_eq (tgt := 1014) hx hb dL_law_599 (by decide) (fun _ => ?_) (fun c9 => absurd rfl c9)
  exact latch _ _ _ _ K ρ hKK hrel1 hls hl
set_option maxRecDepth 20000 in
set_option maxHeartbeats 4000000 in
theorem law_gusts {p : Program} {l : Launch} {e : Env} {s : State} {m : MethodId} {below : List Frame} {meth : Method} {c : Code} {D : va_G} {ty : Nat → ClassId} {b L : Nat} {xs : Nat → Int32} {Rel : Option Nat → aSt → aSt → Prop} (hx : p.tables.exec = Jvm.exec) (hb : c.code = code) (hml : c.maxLocals = 4) (hown : s.vm.findClass R_law = some m.cls) (htU : ∀ w ∈ wsL_law, w.before #[Value.ref b] s = true) (hX : va_X b L xs s s.heap) (hbl : b < s.heap.size) (hbA : ¬ (fun q : Nat => s.heap.size ≤ q) b) (hK : va_K D vwCl (a_tys ty) s) (hpu : aPure Rel) {K : Option Nat} (hKK : K = none ∨ K = some 34) {ρ μ : Nat → Nat} {SX SM : aSt} {H : Heap} {locs : List Loc} {ls : Array Slot} {x3 : Int32} (h_1 : vp_in (x3 + 1) L) (h_2 : vp_in (x3 + 2) L) (h_3 : vp_in (x3 + 3) L) (h_4 : vp_in (x3 + 4) L) (hl : lv_has ls 4 [(0, .ref b), (1, .ref (ρ 0)), (2, .ref (μ 0)), (3, .int x3)]) (hrel : Rel K SX SM) (hls : lS D ty s K ρ μ SX SM H locs)
    (latch : ∀ (SX SM : aSt) (H : Heap) (locs : List Loc) (K : Option Nat) (ρ : Nat → Nat), (K = none ∨ K = some 34) → Rel K SX SM → lS D ty s K ρ μ SX SM H locs → lv_has ls 4 [(0, .ref b), (1, .ref (ρ 0)), (2, .ref (μ 0)), (3, .int x3)] → W p l e room_1 s m #[Value.ref b] below meth c H locs (cuK K) (suK K) (lw_Z below #[Value.ref b] s) (F0 m 1014 ls [])) : W p l e room_1 s m #[Value.ref b] below meth c H locs (cuK K) (suK K) (lw_Z below #[Value.ref b] s) (F0 m 604 ls []) := by
  obtain ⟨r, SX1, SM1, e1, e2, hrel1⟩ := hpu.2.2.2.2.2.2.2.2.2.2.2.2.2.1 K SX SM (xs (x3 + (1 : Int32)).toNatClampNeg) hrel
  have hl1 := hls
  have hS := hls.2.2.2.2.2.2.2.1
  refine lv_aload_n hx hb dL_law_604 rfl (lv_at hl 1 rfl) ?_
  refine lv_aload_n hx hb dL_law_605 rfl (lv_at hl 0 rfl) ?_
  refine lv_iload_n hx hb dL_law_606 rfl (lv_at hl 3 rfl) ?_
  refine lv_iconst (v := (1 : Int32)) hx hb dL_law_607 (by decide) ?_
  refine lv_iadd hx hb dL_law_608 ?_
  refine va_sld hx hb hX hbl hbA hS h_1 dL_law_609 ?_
  refine l_call (G := (l, D, ty, ρ, xsh K)) (As := [.int (xs (x3 + (1 : Int32)).toNatClampNeg)]) (rest := []) hx hb hml hown htU hK hl1.1 hl1.2.2.1 hl1.2.2.2.2.2.2.2.2.1 hl1.2.2.2.2.1 (fun _ h => h) hl1.2.2.2.2.2.2.2.1 dL_law_610 (aMet_of e1 (m_X6_gusts (xsh_ft hKK) (xs (x3 + (1 : Int32)).toNatClampNeg) SX)) (gL_V (wU_r30 _ (List.mem_of_getElem? (i := 2) rfl)) (wU_r30 _ (List.mem_of_getElem? (i := 3) rfl)) (wU_r30 _ (List.mem_of_getElem? (i := 4) rfl)) (wU_r1 _ (List.mem_of_getElem? (i := 2) rfl)) (wU_r30 _ (List.mem_of_getElem? (i := 5) rfl))) rfl (xsh_ft (l := l) (D := D) (ty := ty) (ρ := ρ) hKK).1 rfl lw_dd_X6_gusts rfl hl.1 rfl (Nat.le_of_ble_eq_true rfl) (Nat.le_of_ble_eq_true rfl) (Nat.le_of_ble_eq_true rfl) (cuK_le _) (suK_le _) (fun H1 locs1 hP1 hz1 hk1 hS1 => ?_)
  have hls := hl1.X hP1 hk1 hS1
  clear hl1 hS
  have hl1 := hls
  have hS := hls.2.2.2.2.2.2.2.1
  refine lv_aload_n hx hb dL_law_613 rfl (lv_at hl 2 rfl) ?_
  refine lv_aload_n hx hb dL_law_614 rfl (lv_at hl 0 rfl) ?_
  refine lv_iload_n hx hb dL_law_615 rfl (lv_at hl 3 rfl) ?_
  refine lv_iconst (v := (1 : Int32)) hx hb dL_law_616 (by decide) ?_
  refine lv_iadd hx hb dL_law_617 ?_
  refine va_sld hx hb hX hbl hbA hS h_1 dL_law_618 ?_
  refine l_call (G := (l, D, ty, μ, msh)) (As := [.int (xs (x3 + (1 : Int32)).toNatClampNeg)]) (rest := [.int r]) hx hb hml hown htU hK hl1.2.1 hl1.2.2.2.1 hl1.2.2.2.2.2.2.2.2.2 hl1.2.2.2.2.2.1 (fun _ h => h) hl1.2.2.2.2.2.2.2.1 dL_law_619 (aMet_of e2 (m_X7_gusts msh_ok (xs (x3 + (1 : Int32)).toNatClampNeg) SM)) (gL_V (wU_r30 _ (List.mem_of_getElem? (i := 6) rfl)) (wU_r30 _ (List.mem_of_getElem? (i := 7) rfl)) (wU_r30 _ (List.mem_of_getElem? (i := 8) rfl)) (wU_r1 _ (List.mem_of_getElem? (i := 5) rfl)) (wU_r30 _ (List.mem_of_getElem? (i := 9) rfl))) rfl (msh_ok (l := l) (D := D) (ty := ty) (ρ := μ)).1 rfl lw_dd_X7_gusts rfl hl.1 rfl (Nat.le_of_ble_eq_true rfl) (Nat.le_of_ble_eq_true rfl) (Nat.le_of_ble_eq_true rfl) (cuK_le _) (suK_le _) (fun H1 locs1 hP1 hz1 hk1 hS1 => ?_)
  have hls := hl1.M hP1 hk1 hS1
  refine lv_icmp_eq (tgt := 1014) hx hb dL_law_622 (by decide) (fun _ => ?_) (fun c9 => absurd rfl c9)
  exact latch _ _ _ _ K ρ hKK hrel1 hls hl
set_option maxRecDepth 20000 in
set_option maxHeartbeats 4000000 in
theorem law_sure {p : Program} {l : Launch} {e : Env} {s : State} {m : MethodId} {below : List Frame} {meth : Method} {c : Code} {D : va_G} {ty : Nat → ClassId} {b L : Nat} {xs : Nat → Int32} {Rel : Option Nat → aSt → aSt → Prop} (hx : p.tables.exec = Jvm.exec) (hb : c.code = code) (hml : c.maxLocals = 4) (hown : s.vm.findClass R_law = some m.cls) (htU : ∀ w ∈ wsL_law, w.before #[Value.ref b] s = true) (hX : va_X b L xs s s.heap) (hbl : b < s.heap.size) (hbA : ¬ (fun q : Nat => s.heap.size ≤ q) b) (hK : va_K D vwCl (a_tys ty) s) (hpu : aPure Rel) {K : Option Nat} (hKK : K = none ∨ K = some 34) {ρ μ : Nat → Nat} {SX SM : aSt} {H : Heap} {locs : List Loc} {ls : Array Slot} {x3 : Int32} (h_1 : vp_in (x3 + 1) L) (h_2 : vp_in (x3 + 2) L) (h_3 : vp_in (x3 + 3) L) (h_4 : vp_in (x3 + 4) L) (hl : lv_has ls 4 [(0, .ref b), (1, .ref (ρ 0)), (2, .ref (μ 0)), (3, .int x3)]) (hrel : Rel K SX SM) (hls : lS D ty s K ρ μ SX SM H locs)
    (latch : ∀ (SX SM : aSt) (H : Heap) (locs : List Loc) (K : Option Nat) (ρ : Nat → Nat), (K = none ∨ K = some 34) → Rel K SX SM → lS D ty s K ρ μ SX SM H locs → lv_has ls 4 [(0, .ref b), (1, .ref (ρ 0)), (2, .ref (μ 0)), (3, .int x3)] → W p l e room_1 s m #[Value.ref b] below meth c H locs (cuK K) (suK K) (lw_Z below #[Value.ref b] s) (F0 m 1014 ls [])) : W p l e room_1 s m #[Value.ref b] below meth c H locs (cuK K) (suK K) (lw_Z below #[Value.ref b] s) (F0 m 627 ls []) := by
  obtain ⟨r, SX1, SM1, e1, e2, hrel1⟩ := hpu.2.2.2.2.2.2.2.2.2.2.2.2.2.2.1 K SX SM (xs (x3 + (1 : Int32)).toNatClampNeg) (xs (x3 + (2 : Int32)).toNatClampNeg) (xs (x3 + (3 : Int32)).toNatClampNeg) hrel
  have hl1 := hls
  have hS := hls.2.2.2.2.2.2.2.1
  refine lv_aload_n hx hb dL_law_627 rfl (lv_at hl 1 rfl) ?_
  refine lv_aload_n hx hb dL_law_628 rfl (lv_at hl 0 rfl) ?_
  refine lv_iload_n hx hb dL_law_629 rfl (lv_at hl 3 rfl) ?_
  refine lv_iconst (v := (1 : Int32)) hx hb dL_law_630 (by decide) ?_
  refine lv_iadd hx hb dL_law_631 ?_
  refine va_sld hx hb hX hbl hbA hS h_1 dL_law_632 ?_
  refine lv_aload_n hx hb dL_law_633 rfl (lv_at hl 0 rfl) ?_
  refine lv_iload_n hx hb dL_law_634 rfl (lv_at hl 3 rfl) ?_
  refine lv_iconst (v := (2 : Int32)) hx hb dL_law_635 (by decide) ?_
  refine lv_iadd hx hb dL_law_636 ?_
  refine va_sld hx hb hX hbl hbA hS h_2 dL_law_637 ?_
  refine lv_aload_n hx hb dL_law_638 rfl (lv_at hl 0 rfl) ?_
  refine lv_iload_n hx hb dL_law_639 rfl (lv_at hl 3 rfl) ?_
  refine lv_iconst (v := (3 : Int32)) hx hb dL_law_640 (by decide) ?_
  refine lv_iadd hx hb dL_law_641 ?_
  refine va_sld hx hb hX hbl hbA hS h_3 dL_law_642 ?_
  refine l_call (G := (l, D, ty, ρ, xsh K)) (As := [.int (xs (x3 + (1 : Int32)).toNatClampNeg), .int (xs (x3 + (2 : Int32)).toNatClampNeg), .int (xs (x3 + (3 : Int32)).toNatClampNeg)]) (rest := []) hx hb hml hown htU hK hl1.1 hl1.2.2.1 hl1.2.2.2.2.2.2.2.2.1 hl1.2.2.2.2.1 (fun _ h => h) hl1.2.2.2.2.2.2.2.1 dL_law_643 (aMet_of e1 (m_X6_sure (xsh_ft hKK) (xs (x3 + (1 : Int32)).toNatClampNeg) (xs (x3 + (2 : Int32)).toNatClampNeg) (xs (x3 + (3 : Int32)).toNatClampNeg) SX)) (gL_V (wU_r30 _ (List.mem_of_getElem? (i := 10) rfl)) (wU_r30 _ (List.mem_of_getElem? (i := 11) rfl)) (wU_r30 _ (List.mem_of_getElem? (i := 12) rfl)) (wU_r1 _ (List.mem_of_getElem? (i := 2) rfl)) (wU_r30 _ (List.mem_of_getElem? (i := 13) rfl))) rfl (xsh_ft (l := l) (D := D) (ty := ty) (ρ := ρ) hKK).1 rfl lw_dd_X6_sure rfl hl.1 rfl (Nat.le_of_ble_eq_true rfl) (Nat.le_of_ble_eq_true rfl) (Nat.le_of_ble_eq_true rfl) (cuK_le _) (suK_le _) (fun H1 locs1 hP1 hz1 hk1 hS1 => ?_)
  have hls := hl1.X hP1 hk1 hS1
  clear hl1 hS
  have hl1 := hls
  have hS := hls.2.2.2.2.2.2.2.1
  refine lv_aload_n hx hb dL_law_646 rfl (lv_at hl 2 rfl) ?_
  refine lv_aload_n hx hb dL_law_647 rfl (lv_at hl 0 rfl) ?_
  refine lv_iload_n hx hb dL_law_648 rfl (lv_at hl 3 rfl) ?_
  refine lv_iconst (v := (1 : Int32)) hx hb dL_law_649 (by decide) ?_
  refine lv_iadd hx hb dL_law_650 ?_
  refine va_sld hx hb hX hbl hbA hS h_1 dL_law_651 ?_
  refine lv_aload_n hx hb dL_law_652 rfl (lv_at hl 0 rfl) ?_
  refine lv_iload_n hx hb dL_law_653 rfl (lv_at hl 3 rfl) ?_
  refine lv_iconst (v := (2 : Int32)) hx hb dL_law_654 (by decide) ?_
  refine lv_iadd hx hb dL_law_655 ?_
  refine va_sld hx hb hX hbl hbA hS h_2 dL_law_656 ?_
  refine lv_aload_n hx hb dL_law_657 rfl (lv_at hl 0 rfl) ?_
  refine lv_iload_n hx hb dL_law_658 rfl (lv_at hl 3 rfl) ?_
  refine lv_iconst (v := (3 : Int32)) hx hb dL_law_659 (by decide) ?_
  refine lv_iadd hx hb dL_law_660 ?_
  refine va_sld hx hb hX hbl hbA hS h_3 dL_law_661 ?_
  refine l_call (G := (l, D, ty, μ, msh)) (As := [.int (xs (x3 + (1 : Int32)).toNatClampNeg), .int (xs (x3 + (2 : Int32)).toNatClampNeg), .int (xs (x3 + (3 : Int32)).toNatClampNeg)]) (rest := [.long r]) hx hb hml hown htU hK hl1.2.1 hl1.2.2.2.1 hl1.2.2.2.2.2.2.2.2.2 hl1.2.2.2.2.2.1 (fun _ h => h) hl1.2.2.2.2.2.2.2.1 dL_law_662 (aMet_of e2 (m_X7_sure msh_ok (xs (x3 + (1 : Int32)).toNatClampNeg) (xs (x3 + (2 : Int32)).toNatClampNeg) (xs (x3 + (3 : Int32)).toNatClampNeg) SM)) (gL_V (wU_r30 _ (List.mem_of_getElem? (i := 22) rfl)) (wU_r30 _ (List.mem_of_getElem? (i := 23) rfl)) (wU_r31 _ (List.mem_of_getElem? (i := 0) rfl)) (wU_r1 _ (List.mem_of_getElem? (i := 5) rfl)) (wU_r31 _ (List.mem_of_getElem? (i := 1) rfl))) rfl (msh_ok (l := l) (D := D) (ty := ty) (ρ := μ)).1 rfl lw_dd_X7_sure rfl hl.1 rfl (Nat.le_of_ble_eq_true rfl) (Nat.le_of_ble_eq_true rfl) (Nat.le_of_ble_eq_true rfl) (cuK_le _) (suK_le _) (fun H1 locs1 hP1 hz1 hk1 hS1 => ?_)
  have hls := hl1.M hP1 hk1 hS1
  refine W.lcmp hx hb dL_law_665 ?_
  refine lv_if_eq (tgt := 1014) hx hb dL_law_666 (by decide) (fun _ => ?_) (fun c9 => absurd (by simp [lg_cmp]) c9)
  exact latch _ _ _ _ K ρ hKK hrel1 hls hl
set_option maxRecDepth 20000 in
set_option maxHeartbeats 4000000 in
theorem law_stand {p : Program} {l : Launch} {e : Env} {s : State} {m : MethodId} {below : List Frame} {meth : Method} {c : Code} {D : va_G} {ty : Nat → ClassId} {b L : Nat} {xs : Nat → Int32} {Rel : Option Nat → aSt → aSt → Prop} (hx : p.tables.exec = Jvm.exec) (hb : c.code = code) (hml : c.maxLocals = 4) (hown : s.vm.findClass R_law = some m.cls) (htU : ∀ w ∈ wsL_law, w.before #[Value.ref b] s = true) (hX : va_X b L xs s s.heap) (hbl : b < s.heap.size) (hbA : ¬ (fun q : Nat => s.heap.size ≤ q) b) (hK : va_K D vwCl (a_tys ty) s) (hpu : aPure Rel) {K : Option Nat} (hKK : K = none ∨ K = some 34) {ρ μ : Nat → Nat} {SX SM : aSt} {H : Heap} {locs : List Loc} {ls : Array Slot} {x3 : Int32} (h_1 : vp_in (x3 + 1) L) (h_2 : vp_in (x3 + 2) L) (h_3 : vp_in (x3 + 3) L) (h_4 : vp_in (x3 + 4) L) (hl : lv_has ls 4 [(0, .ref b), (1, .ref (ρ 0)), (2, .ref (μ 0)), (3, .int x3)]) (hrel : Rel K SX SM) (hls : lS D ty s K ρ μ SX SM H locs)
    (latch : ∀ (SX SM : aSt) (H : Heap) (locs : List Loc) (K : Option Nat) (ρ : Nat → Nat), (K = none ∨ K = some 34) → Rel K SX SM → lS D ty s K ρ μ SX SM H locs → lv_has ls 4 [(0, .ref b), (1, .ref (ρ 0)), (2, .ref (μ 0)), (3, .int x3)] → W p l e room_1 s m #[Value.ref b] below meth c H locs (cuK K) (suK K) (lw_Z below #[Value.ref b] s) (F0 m 1014 ls [])) : W p l e room_1 s m #[Value.ref b] below meth c H locs (cuK K) (suK K) (lw_Z below #[Value.ref b] s) (F0 m 671 ls []) := by
  obtain ⟨r, SX1, SM1, e1, e2, hrel1⟩ := hpu.2.2.2.2.2.2.2.2.2.2.2.2.2.2.2.1 K SX SM (xs (x3 + (1 : Int32)).toNatClampNeg) hrel
  have hl1 := hls
  have hS := hls.2.2.2.2.2.2.2.1
  refine lv_aload_n hx hb dL_law_671 rfl (lv_at hl 1 rfl) ?_
  refine lv_aload_n hx hb dL_law_672 rfl (lv_at hl 0 rfl) ?_
  refine lv_iload_n hx hb dL_law_673 rfl (lv_at hl 3 rfl) ?_
  refine lv_iconst (v := (1 : Int32)) hx hb dL_law_674 (by decide) ?_
  refine lv_iadd hx hb dL_law_675 ?_
  refine va_sld hx hb hX hbl hbA hS h_1 dL_law_676 ?_
  refine l_call (G := (l, D, ty, ρ, xsh K)) (As := [.int (xs (x3 + (1 : Int32)).toNatClampNeg)]) (rest := []) hx hb hml hown htU hK hl1.1 hl1.2.2.1 hl1.2.2.2.2.2.2.2.2.1 hl1.2.2.2.2.1 (fun _ h => h) hl1.2.2.2.2.2.2.2.1 dL_law_677 (aMet_of e1 (m_X6_stand (xsh_ft hKK) (xs (x3 + (1 : Int32)).toNatClampNeg) SX)) (gL_V (wU_r31 _ (List.mem_of_getElem? (i := 13) rfl)) (wU_r31 _ (List.mem_of_getElem? (i := 14) rfl)) (wU_r31 _ (List.mem_of_getElem? (i := 15) rfl)) (wU_r1 _ (List.mem_of_getElem? (i := 2) rfl)) (wU_r31 _ (List.mem_of_getElem? (i := 16) rfl))) rfl (xsh_ft (l := l) (D := D) (ty := ty) (ρ := ρ) hKK).1 rfl lw_dd_X6_stand rfl hl.1 rfl (Nat.le_of_ble_eq_true rfl) (Nat.le_of_ble_eq_true rfl) (Nat.le_of_ble_eq_true rfl) (cuK_le _) (suK_le _) (fun H1 locs1 hP1 hz1 hk1 hS1 => ?_)
  have hls := hl1.X hP1 hk1 hS1
  clear hl1 hS
  have hl1 := hls
  have hS := hls.2.2.2.2.2.2.2.1
  refine lv_aload_n hx hb dL_law_680 rfl (lv_at hl 2 rfl) ?_
  refine lv_aload_n hx hb dL_law_681 rfl (lv_at hl 0 rfl) ?_
  refine lv_iload_n hx hb dL_law_682 rfl (lv_at hl 3 rfl) ?_
  refine lv_iconst (v := (1 : Int32)) hx hb dL_law_683 (by decide) ?_
  refine lv_iadd hx hb dL_law_684 ?_
  refine va_sld hx hb hX hbl hbA hS h_1 dL_law_685 ?_
  refine l_call (G := (l, D, ty, μ, msh)) (As := [.int (xs (x3 + (1 : Int32)).toNatClampNeg)]) (rest := [.long r]) hx hb hml hown htU hK hl1.2.1 hl1.2.2.2.1 hl1.2.2.2.2.2.2.2.2.2 hl1.2.2.2.2.2.1 (fun _ h => h) hl1.2.2.2.2.2.2.2.1 dL_law_686 (aMet_of e2 (m_X7_stand msh_ok (xs (x3 + (1 : Int32)).toNatClampNeg) SM)) (gL_V (wU_r32 _ (List.mem_of_getElem? (i := 2) rfl)) (wU_r32 _ (List.mem_of_getElem? (i := 3) rfl)) (wU_r32 _ (List.mem_of_getElem? (i := 4) rfl)) (wU_r1 _ (List.mem_of_getElem? (i := 5) rfl)) (wU_r32 _ (List.mem_of_getElem? (i := 5) rfl))) rfl (msh_ok (l := l) (D := D) (ty := ty) (ρ := μ)).1 rfl lw_dd_X7_stand rfl hl.1 rfl (Nat.le_of_ble_eq_true rfl) (Nat.le_of_ble_eq_true rfl) (Nat.le_of_ble_eq_true rfl) (cuK_le _) (suK_le _) (fun H1 locs1 hP1 hz1 hk1 hS1 => ?_)
  have hls := hl1.M hP1 hk1 hS1
  refine W.lcmp hx hb dL_law_689 ?_
  refine lv_if_eq (tgt := 1014) hx hb dL_law_690 (by decide) (fun _ => ?_) (fun c9 => absurd (by simp [lg_cmp]) c9)
  exact latch _ _ _ _ K ρ hKK hrel1 hls hl
set_option maxRecDepth 20000 in
set_option maxHeartbeats 4000000 in
theorem law_order {p : Program} {l : Launch} {e : Env} {s : State} {m : MethodId} {below : List Frame} {meth : Method} {c : Code} {D : va_G} {ty : Nat → ClassId} {b L : Nat} {xs : Nat → Int32} {Rel : Option Nat → aSt → aSt → Prop} (hx : p.tables.exec = Jvm.exec) (hb : c.code = code) (hml : c.maxLocals = 4) (hown : s.vm.findClass R_law = some m.cls) (htU : ∀ w ∈ wsL_law, w.before #[Value.ref b] s = true) (hX : va_X b L xs s s.heap) (hbl : b < s.heap.size) (hbA : ¬ (fun q : Nat => s.heap.size ≤ q) b) (hK : va_K D vwCl (a_tys ty) s) (hpu : aPure Rel) {K : Option Nat} (hKK : K = none ∨ K = some 34) {ρ μ : Nat → Nat} {SX SM : aSt} {H : Heap} {locs : List Loc} {ls : Array Slot} {x3 : Int32} (h_1 : vp_in (x3 + 1) L) (h_2 : vp_in (x3 + 2) L) (h_3 : vp_in (x3 + 3) L) (h_4 : vp_in (x3 + 4) L) (hl : lv_has ls 4 [(0, .ref b), (1, .ref (ρ 0)), (2, .ref (μ 0)), (3, .int x3)]) (hrel : Rel K SX SM) (hls : lS D ty s K ρ μ SX SM H locs)
    (latch : ∀ (SX SM : aSt) (H : Heap) (locs : List Loc) (K : Option Nat) (ρ : Nat → Nat), (K = none ∨ K = some 34) → Rel K SX SM → lS D ty s K ρ μ SX SM H locs → lv_has ls 4 [(0, .ref b), (1, .ref (ρ 0)), (2, .ref (μ 0)), (3, .int x3)] → W p l e room_1 s m #[Value.ref b] below meth c H locs (cuK K) (suK K) (lw_Z below #[Value.ref b] s) (F0 m 1014 ls [])) : W p l e room_1 s m #[Value.ref b] below meth c H locs (cuK K) (suK K) (lw_Z below #[Value.ref b] s) (F0 m 695 ls []) := by
  obtain ⟨r, SX1, SM1, e1, e2, hrel1⟩ := hpu.2.2.2.2.2.2.2.2.2.2.2.2.2.2.2.2.1 K SX SM (xs (x3 + (1 : Int32)).toNatClampNeg) hrel
  have hl1 := hls
  have hS := hls.2.2.2.2.2.2.2.1
  refine lv_aload_n hx hb dL_law_695 rfl (lv_at hl 1 rfl) ?_
  refine lv_aload_n hx hb dL_law_696 rfl (lv_at hl 0 rfl) ?_
  refine lv_iload_n hx hb dL_law_697 rfl (lv_at hl 3 rfl) ?_
  refine lv_iconst (v := (1 : Int32)) hx hb dL_law_698 (by decide) ?_
  refine lv_iadd hx hb dL_law_699 ?_
  refine va_sld hx hb hX hbl hbA hS h_1 dL_law_700 ?_
  refine l_call (G := (l, D, ty, ρ, xsh K)) (As := [.int (xs (x3 + (1 : Int32)).toNatClampNeg)]) (rest := []) hx hb hml hown htU hK hl1.1 hl1.2.2.1 hl1.2.2.2.2.2.2.2.2.1 hl1.2.2.2.2.1 (fun _ h => h) hl1.2.2.2.2.2.2.2.1 dL_law_701 (aMet_of e1 (m_X6_order (xsh_ft hKK) (xs (x3 + (1 : Int32)).toNatClampNeg) SX)) (gL_V (wU_r32 _ (List.mem_of_getElem? (i := 6) rfl)) (wU_r32 _ (List.mem_of_getElem? (i := 7) rfl)) (wU_r32 _ (List.mem_of_getElem? (i := 8) rfl)) (wU_r1 _ (List.mem_of_getElem? (i := 2) rfl)) (wU_r32 _ (List.mem_of_getElem? (i := 9) rfl))) rfl (xsh_ft (l := l) (D := D) (ty := ty) (ρ := ρ) hKK).1 rfl lw_dd_X6_order rfl hl.1 rfl (Nat.le_of_ble_eq_true rfl) (Nat.le_of_ble_eq_true rfl) (Nat.le_of_ble_eq_true rfl) (cuK_le _) (suK_le _) (fun H1 locs1 hP1 hz1 hk1 hS1 => ?_)
  have hls := hl1.X hP1 hk1 hS1
  clear hl1 hS
  have hl1 := hls
  have hS := hls.2.2.2.2.2.2.2.1
  refine lv_aload_n hx hb dL_law_704 rfl (lv_at hl 2 rfl) ?_
  refine lv_aload_n hx hb dL_law_705 rfl (lv_at hl 0 rfl) ?_
  refine lv_iload_n hx hb dL_law_706 rfl (lv_at hl 3 rfl) ?_
  refine lv_iconst (v := (1 : Int32)) hx hb dL_law_707 (by decide) ?_
  refine lv_iadd hx hb dL_law_708 ?_
  refine va_sld hx hb hX hbl hbA hS h_1 dL_law_709 ?_
  refine l_call (G := (l, D, ty, μ, msh)) (As := [.int (xs (x3 + (1 : Int32)).toNatClampNeg)]) (rest := [.int r]) hx hb hml hown htU hK hl1.2.1 hl1.2.2.2.1 hl1.2.2.2.2.2.2.2.2.2 hl1.2.2.2.2.2.1 (fun _ h => h) hl1.2.2.2.2.2.2.2.1 dL_law_710 (aMet_of e2 (m_X7_order msh_ok (xs (x3 + (1 : Int32)).toNatClampNeg) SM)) (gL_V (wU_r32 _ (List.mem_of_getElem? (i := 23) rfl)) (wU_r33 _ (List.mem_of_getElem? (i := 0) rfl)) (wU_r33 _ (List.mem_of_getElem? (i := 1) rfl)) (wU_r1 _ (List.mem_of_getElem? (i := 5) rfl)) (wU_r33 _ (List.mem_of_getElem? (i := 2) rfl))) rfl (msh_ok (l := l) (D := D) (ty := ty) (ρ := μ)).1 rfl lw_dd_X7_order rfl hl.1 rfl (Nat.le_of_ble_eq_true rfl) (Nat.le_of_ble_eq_true rfl) (Nat.le_of_ble_eq_true rfl) (cuK_le _) (suK_le _) (fun H1 locs1 hP1 hz1 hk1 hS1 => ?_)
  have hls := hl1.M hP1 hk1 hS1
  refine lv_icmp_eq (tgt := 1014) hx hb dL_law_713 (by decide) (fun _ => ?_) (fun c9 => absurd rfl c9)
  exact latch _ _ _ _ K ρ hKK hrel1 hls hl
set_option maxRecDepth 20000 in
set_option maxHeartbeats 4000000 in
theorem law_hung {p : Program} {l : Launch} {e : Env} {s : State} {m : MethodId} {below : List Frame} {meth : Method} {c : Code} {D : va_G} {ty : Nat → ClassId} {b L : Nat} {xs : Nat → Int32} {Rel : Option Nat → aSt → aSt → Prop} (hx : p.tables.exec = Jvm.exec) (hb : c.code = code) (hml : c.maxLocals = 4) (hown : s.vm.findClass R_law = some m.cls) (htU : ∀ w ∈ wsL_law, w.before #[Value.ref b] s = true) (hX : va_X b L xs s s.heap) (hbl : b < s.heap.size) (hbA : ¬ (fun q : Nat => s.heap.size ≤ q) b) (hK : va_K D vwCl (a_tys ty) s) (hpu : aPure Rel) {K : Option Nat} (hKK : K = none ∨ K = some 34) {ρ μ : Nat → Nat} {SX SM : aSt} {H : Heap} {locs : List Loc} {ls : Array Slot} {x3 : Int32} (h_1 : vp_in (x3 + 1) L) (h_2 : vp_in (x3 + 2) L) (h_3 : vp_in (x3 + 3) L) (h_4 : vp_in (x3 + 4) L) (hl : lv_has ls 4 [(0, .ref b), (1, .ref (ρ 0)), (2, .ref (μ 0)), (3, .int x3)]) (hrel : Rel K SX SM) (hls : lS D ty s K ρ μ SX SM H locs)
    (latch : ∀ (SX SM : aSt) (H : Heap) (locs : List Loc) (K : Option Nat) (ρ : Nat → Nat), (K = none ∨ K = some 34) → Rel K SX SM → lS D ty s K ρ μ SX SM H locs → lv_has ls 4 [(0, .ref b), (1, .ref (ρ 0)), (2, .ref (μ 0)), (3, .int x3)] → W p l e room_1 s m #[Value.ref b] below meth c H locs (cuK K) (suK K) (lw_Z below #[Value.ref b] s) (F0 m 1014 ls [])) : W p l e room_1 s m #[Value.ref b] below meth c H locs (cuK K) (suK K) (lw_Z below #[Value.ref b] s) (F0 m 718 ls []) := by
  obtain ⟨r, SX1, SM1, e1, e2, hrel1⟩ := hpu.2.2.2.2.2.2.2.2.2.2.2.2.2.2.2.2.2.1 K SX SM  hrel
  have hl1 := hls
  have hS := hls.2.2.2.2.2.2.2.1
  refine lv_aload_n hx hb dL_law_718 rfl (lv_at hl 1 rfl) ?_
  refine l_call (G := (l, D, ty, ρ, xsh K)) (As := []) (rest := []) hx hb hml hown htU hK hl1.1 hl1.2.2.1 hl1.2.2.2.2.2.2.2.2.1 hl1.2.2.2.2.1 (fun _ h => h) hl1.2.2.2.2.2.2.2.1 dL_law_719 (aMet_of e1 (m_X6_hung (xsh_ft hKK)  SX)) (gL_V (wU_r33 _ (List.mem_of_getElem? (i := 11) rfl)) (wU_r33 _ (List.mem_of_getElem? (i := 12) rfl)) (wU_r33 _ (List.mem_of_getElem? (i := 13) rfl)) (wU_r1 _ (List.mem_of_getElem? (i := 2) rfl)) (wU_r33 _ (List.mem_of_getElem? (i := 14) rfl))) rfl (xsh_ft (l := l) (D := D) (ty := ty) (ρ := ρ) hKK).1 rfl lw_dd_X6_hung rfl hl.1 rfl (Nat.le_of_ble_eq_true rfl) (Nat.le_of_ble_eq_true rfl) (Nat.le_of_ble_eq_true rfl) (cuK_le _) (suK_le _) (fun H1 locs1 hP1 hz1 hk1 hS1 => ?_)
  have hls := hl1.X hP1 hk1 hS1
  clear hl1 hS
  have hl1 := hls
  have hS := hls.2.2.2.2.2.2.2.1
  refine lv_aload_n hx hb dL_law_722 rfl (lv_at hl 2 rfl) ?_
  refine l_call (G := (l, D, ty, μ, msh)) (As := []) (rest := [.int r]) hx hb hml hown htU hK hl1.2.1 hl1.2.2.2.1 hl1.2.2.2.2.2.2.2.2.2 hl1.2.2.2.2.2.1 (fun _ h => h) hl1.2.2.2.2.2.2.2.1 dL_law_723 (aMet_of e2 (m_X7_hung msh_ok  SM)) (gL_V (wU_r33 _ (List.mem_of_getElem? (i := 15) rfl)) (wU_r33 _ (List.mem_of_getElem? (i := 16) rfl)) (wU_r33 _ (List.mem_of_getElem? (i := 17) rfl)) (wU_r1 _ (List.mem_of_getElem? (i := 5) rfl)) (wU_r33 _ (List.mem_of_getElem? (i := 18) rfl))) rfl (msh_ok (l := l) (D := D) (ty := ty) (ρ := μ)).1 rfl lw_dd_X7_hung rfl hl.1 rfl (Nat.le_of_ble_eq_true rfl) (Nat.le_of_ble_eq_true rfl) (Nat.le_of_ble_eq_true rfl) (cuK_le _) (suK_le _) (fun H1 locs1 hP1 hz1 hk1 hS1 => ?_)
  have hls := hl1.M hP1 hk1 hS1
  refine lv_icmp_eq (tgt := 1014) hx hb dL_law_726 (by decide) (fun _ => ?_) (fun c9 => absurd rfl c9)
  exact latch _ _ _ _ K ρ hKK hrel1 hls hl
set_option maxRecDepth 20000 in
set_option maxHeartbeats 4000000 in
theorem law_blame {p : Program} {l : Launch} {e : Env} {s : State} {m : MethodId} {below : List Frame} {meth : Method} {c : Code} {D : va_G} {ty : Nat → ClassId} {b L : Nat} {xs : Nat → Int32} {Rel : Option Nat → aSt → aSt → Prop} (hx : p.tables.exec = Jvm.exec) (hb : c.code = code) (hml : c.maxLocals = 4) (hown : s.vm.findClass R_law = some m.cls) (htU : ∀ w ∈ wsL_law, w.before #[Value.ref b] s = true) (hX : va_X b L xs s s.heap) (hbl : b < s.heap.size) (hbA : ¬ (fun q : Nat => s.heap.size ≤ q) b) (hK : va_K D vwCl (a_tys ty) s) (hpu : aPure Rel) {K : Option Nat} (hKK : K = none ∨ K = some 34) {ρ μ : Nat → Nat} {SX SM : aSt} {H : Heap} {locs : List Loc} {ls : Array Slot} {x3 : Int32} (h_1 : vp_in (x3 + 1) L) (h_2 : vp_in (x3 + 2) L) (h_3 : vp_in (x3 + 3) L) (h_4 : vp_in (x3 + 4) L) (hl : lv_has ls 4 [(0, .ref b), (1, .ref (ρ 0)), (2, .ref (μ 0)), (3, .int x3)]) (hrel : Rel K SX SM) (hls : lS D ty s K ρ μ SX SM H locs)
    (latch : ∀ (SX SM : aSt) (H : Heap) (locs : List Loc) (K : Option Nat) (ρ : Nat → Nat), (K = none ∨ K = some 34) → Rel K SX SM → lS D ty s K ρ μ SX SM H locs → lv_has ls 4 [(0, .ref b), (1, .ref (ρ 0)), (2, .ref (μ 0)), (3, .int x3)] → W p l e room_1 s m #[Value.ref b] below meth c H locs (cuK K) (suK K) (lw_Z below #[Value.ref b] s) (F0 m 1014 ls [])) : W p l e room_1 s m #[Value.ref b] below meth c H locs (cuK K) (suK K) (lw_Z below #[Value.ref b] s) (F0 m 731 ls []) := by
  obtain ⟨r, SX1, SM1, e1, e2, hrel1⟩ := hpu.2.2.2.2.2.2.2.2.2.2.2.2.2.2.2.2.2.2.1 K SX SM (xs (x3 + (1 : Int32)).toNatClampNeg) (xs (x3 + (2 : Int32)).toNatClampNeg) hrel
  have hl1 := hls
  have hS := hls.2.2.2.2.2.2.2.1
  refine lv_aload_n hx hb dL_law_731 rfl (lv_at hl 1 rfl) ?_
  refine lv_aload_n hx hb dL_law_732 rfl (lv_at hl 0 rfl) ?_
  refine lv_iload_n hx hb dL_law_733 rfl (lv_at hl 3 rfl) ?_
  refine lv_iconst (v := (1 : Int32)) hx hb dL_law_734 (by decide) ?_
  refine lv_iadd hx hb dL_law_735 ?_
  refine va_sld hx hb hX hbl hbA hS h_1 dL_law_736 ?_
  refine lv_aload_n hx hb dL_law_737 rfl (lv_at hl 0 rfl) ?_
  refine lv_iload_n hx hb dL_law_738 rfl (lv_at hl 3 rfl) ?_
  refine lv_iconst (v := (2 : Int32)) hx hb dL_law_739 (by decide) ?_
  refine lv_iadd hx hb dL_law_740 ?_
  refine va_sld hx hb hX hbl hbA hS h_2 dL_law_741 ?_
  refine l_call (G := (l, D, ty, ρ, xsh K)) (As := [.int (xs (x3 + (1 : Int32)).toNatClampNeg), .int (xs (x3 + (2 : Int32)).toNatClampNeg)]) (rest := []) hx hb hml hown htU hK hl1.1 hl1.2.2.1 hl1.2.2.2.2.2.2.2.2.1 hl1.2.2.2.2.1 (fun _ h => h) hl1.2.2.2.2.2.2.2.1 dL_law_742 (aMet_of e1 (m_X6_blame (xsh_ft hKK) (xs (x3 + (1 : Int32)).toNatClampNeg) (xs (x3 + (2 : Int32)).toNatClampNeg) SX)) (gL_V (wU_r33 _ (List.mem_of_getElem? (i := 19) rfl)) (wU_r33 _ (List.mem_of_getElem? (i := 20) rfl)) (wU_r33 _ (List.mem_of_getElem? (i := 21) rfl)) (wU_r1 _ (List.mem_of_getElem? (i := 2) rfl)) (wU_r33 _ (List.mem_of_getElem? (i := 22) rfl))) rfl (xsh_ft (l := l) (D := D) (ty := ty) (ρ := ρ) hKK).1 rfl lw_dd_X6_blame rfl hl.1 rfl (Nat.le_of_ble_eq_true rfl) (Nat.le_of_ble_eq_true rfl) (Nat.le_of_ble_eq_true rfl) (cuK_le _) (suK_le _) (fun H1 locs1 hP1 hz1 hk1 hS1 => ?_)
  have hls := hl1.X hP1 hk1 hS1
  clear hl1 hS
  have hl1 := hls
  have hS := hls.2.2.2.2.2.2.2.1
  refine lv_aload_n hx hb dL_law_745 rfl (lv_at hl 2 rfl) ?_
  refine lv_aload_n hx hb dL_law_746 rfl (lv_at hl 0 rfl) ?_
  refine lv_iload_n hx hb dL_law_747 rfl (lv_at hl 3 rfl) ?_
  refine lv_iconst (v := (1 : Int32)) hx hb dL_law_748 (by decide) ?_
  refine lv_iadd hx hb dL_law_749 ?_
  refine va_sld hx hb hX hbl hbA hS h_1 dL_law_750 ?_
  refine lv_aload_n hx hb dL_law_751 rfl (lv_at hl 0 rfl) ?_
  refine lv_iload_n hx hb dL_law_752 rfl (lv_at hl 3 rfl) ?_
  refine lv_iconst (v := (2 : Int32)) hx hb dL_law_753 (by decide) ?_
  refine lv_iadd hx hb dL_law_754 ?_
  refine va_sld hx hb hX hbl hbA hS h_2 dL_law_755 ?_
  refine l_call (G := (l, D, ty, μ, msh)) (As := [.int (xs (x3 + (1 : Int32)).toNatClampNeg), .int (xs (x3 + (2 : Int32)).toNatClampNeg)]) (rest := [.int r]) hx hb hml hown htU hK hl1.2.1 hl1.2.2.2.1 hl1.2.2.2.2.2.2.2.2.2 hl1.2.2.2.2.2.1 (fun _ h => h) hl1.2.2.2.2.2.2.2.1 dL_law_756 (aMet_of e2 (m_X7_blame msh_ok (xs (x3 + (1 : Int32)).toNatClampNeg) (xs (x3 + (2 : Int32)).toNatClampNeg) SM)) (gL_V (wU_r33 _ (List.mem_of_getElem? (i := 23) rfl)) (wU_r34 _ (List.mem_of_getElem? (i := 0) rfl)) (wU_r34 _ (List.mem_of_getElem? (i := 1) rfl)) (wU_r1 _ (List.mem_of_getElem? (i := 5) rfl)) (wU_r34 _ (List.mem_of_getElem? (i := 2) rfl))) rfl (msh_ok (l := l) (D := D) (ty := ty) (ρ := μ)).1 rfl lw_dd_X7_blame rfl hl.1 rfl (Nat.le_of_ble_eq_true rfl) (Nat.le_of_ble_eq_true rfl) (Nat.le_of_ble_eq_true rfl) (cuK_le _) (suK_le _) (fun H1 locs1 hP1 hz1 hk1 hS1 => ?_)
  have hls := hl1.M hP1 hk1 hS1
  refine lv_icmp_eq (tgt := 1014) hx hb dL_law_759 (by decide) (fun _ => ?_) (fun c9 => absurd rfl c9)
  exact latch _ _ _ _ K ρ hKK hrel1 hls hl
set_option maxRecDepth 20000 in
set_option maxHeartbeats 4000000 in
theorem law_knock {p : Program} {l : Launch} {e : Env} {s : State} {m : MethodId} {below : List Frame} {meth : Method} {c : Code} {D : va_G} {ty : Nat → ClassId} {b L : Nat} {xs : Nat → Int32} {Rel : Option Nat → aSt → aSt → Prop} (hx : p.tables.exec = Jvm.exec) (hb : c.code = code) (hml : c.maxLocals = 4) (hown : s.vm.findClass R_law = some m.cls) (htU : ∀ w ∈ wsL_law, w.before #[Value.ref b] s = true) (hX : va_X b L xs s s.heap) (hbl : b < s.heap.size) (hbA : ¬ (fun q : Nat => s.heap.size ≤ q) b) (hK : va_K D vwCl (a_tys ty) s) (hpu : aPure Rel) {K : Option Nat} (hKK : K = none ∨ K = some 34) {ρ μ : Nat → Nat} {SX SM : aSt} {H : Heap} {locs : List Loc} {ls : Array Slot} {x3 : Int32} (h_1 : vp_in (x3 + 1) L) (h_2 : vp_in (x3 + 2) L) (h_3 : vp_in (x3 + 3) L) (h_4 : vp_in (x3 + 4) L) (hl : lv_has ls 4 [(0, .ref b), (1, .ref (ρ 0)), (2, .ref (μ 0)), (3, .int x3)]) (hrel : Rel K SX SM) (hls : lS D ty s K ρ μ SX SM H locs)
    (latch : ∀ (SX SM : aSt) (H : Heap) (locs : List Loc) (K : Option Nat) (ρ : Nat → Nat), (K = none ∨ K = some 34) → Rel K SX SM → lS D ty s K ρ μ SX SM H locs → lv_has ls 4 [(0, .ref b), (1, .ref (ρ 0)), (2, .ref (μ 0)), (3, .int x3)] → W p l e room_1 s m #[Value.ref b] below meth c H locs (cuK K) (suK K) (lw_Z below #[Value.ref b] s) (F0 m 1014 ls [])) : W p l e room_1 s m #[Value.ref b] below meth c H locs (cuK K) (suK K) (lw_Z below #[Value.ref b] s) (F0 m 764 ls []) := by
  obtain ⟨r, SX1, SM1, e1, e2, hrel1⟩ := hpu.2.2.2.2.2.2.2.2.2.2.2.2.2.2.2.2.2.2.2.1 K SX SM (xs (x3 + (1 : Int32)).toNatClampNeg) (xs (x3 + (2 : Int32)).toNatClampNeg) hrel
  have hl1 := hls
  have hS := hls.2.2.2.2.2.2.2.1
  refine lv_aload_n hx hb dL_law_764 rfl (lv_at hl 1 rfl) ?_
  refine lv_aload_n hx hb dL_law_765 rfl (lv_at hl 0 rfl) ?_
  refine lv_iload_n hx hb dL_law_766 rfl (lv_at hl 3 rfl) ?_
  refine lv_iconst (v := (1 : Int32)) hx hb dL_law_767 (by decide) ?_
  refine lv_iadd hx hb dL_law_768 ?_
  refine va_sld hx hb hX hbl hbA hS h_1 dL_law_769 ?_
  refine lv_aload_n hx hb dL_law_770 rfl (lv_at hl 0 rfl) ?_
  refine lv_iload_n hx hb dL_law_771 rfl (lv_at hl 3 rfl) ?_
  refine lv_iconst (v := (2 : Int32)) hx hb dL_law_772 (by decide) ?_
  refine lv_iadd hx hb dL_law_773 ?_
  refine va_sld hx hb hX hbl hbA hS h_2 dL_law_774 ?_
  refine l_call (G := (l, D, ty, ρ, xsh K)) (As := [.int (xs (x3 + (1 : Int32)).toNatClampNeg), .int (xs (x3 + (2 : Int32)).toNatClampNeg)]) (rest := []) hx hb hml hown htU hK hl1.1 hl1.2.2.1 hl1.2.2.2.2.2.2.2.2.1 hl1.2.2.2.2.1 (fun _ h => h) hl1.2.2.2.2.2.2.2.1 dL_law_775 (aMet_of e1 (m_X6_knock (xsh_ft hKK) (xs (x3 + (1 : Int32)).toNatClampNeg) (xs (x3 + (2 : Int32)).toNatClampNeg) SX)) (gL_V (wU_r34 _ (List.mem_of_getElem? (i := 3) rfl)) (wU_r34 _ (List.mem_of_getElem? (i := 4) rfl)) (wU_r34 _ (List.mem_of_getElem? (i := 5) rfl)) (wU_r1 _ (List.mem_of_getElem? (i := 2) rfl)) (wU_r34 _ (List.mem_of_getElem? (i := 6) rfl))) rfl (xsh_ft (l := l) (D := D) (ty := ty) (ρ := ρ) hKK).1 rfl lw_dd_X6_knock rfl hl.1 rfl (Nat.le_of_ble_eq_true rfl) (Nat.le_of_ble_eq_true rfl) (Nat.le_of_ble_eq_true rfl) (cuK_le _) (suK_le _) (fun H1 locs1 hP1 hz1 hk1 hS1 => ?_)
  have hls := hl1.X hP1 hk1 hS1
  clear hl1 hS
  have hl1 := hls
  have hS := hls.2.2.2.2.2.2.2.1
  refine lv_aload_n hx hb dL_law_778 rfl (lv_at hl 2 rfl) ?_
  refine lv_aload_n hx hb dL_law_779 rfl (lv_at hl 0 rfl) ?_
  refine lv_iload_n hx hb dL_law_780 rfl (lv_at hl 3 rfl) ?_
  refine lv_iconst (v := (1 : Int32)) hx hb dL_law_781 (by decide) ?_
  refine lv_iadd hx hb dL_law_782 ?_
  refine va_sld hx hb hX hbl hbA hS h_1 dL_law_783 ?_
  refine lv_aload_n hx hb dL_law_784 rfl (lv_at hl 0 rfl) ?_
  refine lv_iload_n hx hb dL_law_785 rfl (lv_at hl 3 rfl) ?_
  refine lv_iconst (v := (2 : Int32)) hx hb dL_law_786 (by decide) ?_
  refine lv_iadd hx hb dL_law_787 ?_
  refine va_sld hx hb hX hbl hbA hS h_2 dL_law_788 ?_
  refine l_call (G := (l, D, ty, μ, msh)) (As := [.int (xs (x3 + (1 : Int32)).toNatClampNeg), .int (xs (x3 + (2 : Int32)).toNatClampNeg)]) (rest := [.int r]) hx hb hml hown htU hK hl1.2.1 hl1.2.2.2.1 hl1.2.2.2.2.2.2.2.2.2 hl1.2.2.2.2.2.1 (fun _ h => h) hl1.2.2.2.2.2.2.2.1 dL_law_789 (aMet_of e2 (m_X7_knock msh_ok (xs (x3 + (1 : Int32)).toNatClampNeg) (xs (x3 + (2 : Int32)).toNatClampNeg) SM)) (gL_V (wU_r34 _ (List.mem_of_getElem? (i := 7) rfl)) (wU_r34 _ (List.mem_of_getElem? (i := 8) rfl)) (wU_r34 _ (List.mem_of_getElem? (i := 9) rfl)) (wU_r1 _ (List.mem_of_getElem? (i := 5) rfl)) (wU_r34 _ (List.mem_of_getElem? (i := 10) rfl))) rfl (msh_ok (l := l) (D := D) (ty := ty) (ρ := μ)).1 rfl lw_dd_X7_knock rfl hl.1 rfl (Nat.le_of_ble_eq_true rfl) (Nat.le_of_ble_eq_true rfl) (Nat.le_of_ble_eq_true rfl) (cuK_le _) (suK_le _) (fun H1 locs1 hP1 hz1 hk1 hS1 => ?_)
  have hls := hl1.M hP1 hk1 hS1
  refine lv_icmp_eq (tgt := 1014) hx hb dL_law_792 (by decide) (fun _ => ?_) (fun c9 => absurd rfl c9)
  exact latch _ _ _ _ K ρ hKK hrel1 hls hl
set_option maxRecDepth 20000 in
set_option maxHeartbeats 4000000 in
theorem law_limbs {p : Program} {l : Launch} {e : Env} {s : State} {m : MethodId} {below : List Frame} {meth : Method} {c : Code} {D : va_G} {ty : Nat → ClassId} {b L : Nat} {xs : Nat → Int32} {Rel : Option Nat → aSt → aSt → Prop} (hx : p.tables.exec = Jvm.exec) (hb : c.code = code) (hml : c.maxLocals = 4) (hown : s.vm.findClass R_law = some m.cls) (htU : ∀ w ∈ wsL_law, w.before #[Value.ref b] s = true) (hX : va_X b L xs s s.heap) (hbl : b < s.heap.size) (hbA : ¬ (fun q : Nat => s.heap.size ≤ q) b) (hK : va_K D vwCl (a_tys ty) s) (hpu : aPure Rel) {K : Option Nat} (hKK : K = none ∨ K = some 34) {ρ μ : Nat → Nat} {SX SM : aSt} {H : Heap} {locs : List Loc} {ls : Array Slot} {x3 : Int32} (h_1 : vp_in (x3 + 1) L) (h_2 : vp_in (x3 + 2) L) (h_3 : vp_in (x3 + 3) L) (h_4 : vp_in (x3 + 4) L) (hl : lv_has ls 4 [(0, .ref b), (1, .ref (ρ 0)), (2, .ref (μ 0)), (3, .int x3)]) (hrel : Rel K SX SM) (hls : lS D ty s K ρ μ SX SM H locs)
    (latch : ∀ (SX SM : aSt) (H : Heap) (locs : List Loc) (K : Option Nat) (ρ : Nat → Nat), (K = none ∨ K = some 34) → Rel K SX SM → lS D ty s K ρ μ SX SM H locs → lv_has ls 4 [(0, .ref b), (1, .ref (ρ 0)), (2, .ref (μ 0)), (3, .int x3)] → W p l e room_1 s m #[Value.ref b] below meth c H locs (cuK K) (suK K) (lw_Z below #[Value.ref b] s) (F0 m 1014 ls [])) : W p l e room_1 s m #[Value.ref b] below meth c H locs (cuK K) (suK K) (lw_Z below #[Value.ref b] s) (F0 m 797 ls []) := by
  obtain ⟨r, SX1, SM1, e1, e2, hrel1⟩ := hpu.2.2.2.2.2.2.2.2.2.2.2.2.2.2.2.2.2.2.2.2.1 K SX SM (xs (x3 + (1 : Int32)).toNatClampNeg) hrel
  have hl1 := hls
  have hS := hls.2.2.2.2.2.2.2.1
  refine lv_aload_n hx hb dL_law_797 rfl (lv_at hl 1 rfl) ?_
  refine lv_aload_n hx hb dL_law_798 rfl (lv_at hl 0 rfl) ?_
  refine lv_iload_n hx hb dL_law_799 rfl (lv_at hl 3 rfl) ?_
  refine lv_iconst (v := (1 : Int32)) hx hb dL_law_800 (by decide) ?_
  refine lv_iadd hx hb dL_law_801 ?_
  refine va_sld hx hb hX hbl hbA hS h_1 dL_law_802 ?_
  refine l_call (G := (l, D, ty, ρ, xsh K)) (As := [.int (xs (x3 + (1 : Int32)).toNatClampNeg)]) (rest := []) hx hb hml hown htU hK hl1.1 hl1.2.2.1 hl1.2.2.2.2.2.2.2.2.1 hl1.2.2.2.2.1 (fun _ h => h) hl1.2.2.2.2.2.2.2.1 dL_law_803 (aMet_of e1 (m_X6_limbs (xsh_ft hKK) (xs (x3 + (1 : Int32)).toNatClampNeg) SX)) (gL_V (wU_r34 _ (List.mem_of_getElem? (i := 11) rfl)) (wU_r34 _ (List.mem_of_getElem? (i := 12) rfl)) (wU_r34 _ (List.mem_of_getElem? (i := 13) rfl)) (wU_r1 _ (List.mem_of_getElem? (i := 2) rfl)) (wU_r34 _ (List.mem_of_getElem? (i := 14) rfl))) rfl (xsh_ft (l := l) (D := D) (ty := ty) (ρ := ρ) hKK).1 rfl lw_dd_X6_limbs rfl hl.1 rfl (Nat.le_of_ble_eq_true rfl) (Nat.le_of_ble_eq_true rfl) (Nat.le_of_ble_eq_true rfl) (cuK_le _) (suK_le _) (fun H1 locs1 hP1 hz1 hk1 hS1 => ?_)
  have hls := hl1.X hP1 hk1 hS1
  clear hl1 hS
  have hl1 := hls
  have hS := hls.2.2.2.2.2.2.2.1
  refine lv_aload_n hx hb dL_law_806 rfl (lv_at hl 2 rfl) ?_
  refine lv_aload_n hx hb dL_law_807 rfl (lv_at hl 0 rfl) ?_
  refine lv_iload_n hx hb dL_law_808 rfl (lv_at hl 3 rfl) ?_
  refine lv_iconst (v := (1 : Int32)) hx hb dL_law_809 (by decide) ?_
  refine lv_iadd hx hb dL_law_810 ?_
  refine va_sld hx hb hX hbl hbA hS h_1 dL_law_811 ?_
  refine l_call (G := (l, D, ty, μ, msh)) (As := [.int (xs (x3 + (1 : Int32)).toNatClampNeg)]) (rest := [.int r]) hx hb hml hown htU hK hl1.2.1 hl1.2.2.2.1 hl1.2.2.2.2.2.2.2.2.2 hl1.2.2.2.2.2.1 (fun _ h => h) hl1.2.2.2.2.2.2.2.1 dL_law_812 (aMet_of e2 (m_X7_limbs msh_ok (xs (x3 + (1 : Int32)).toNatClampNeg) SM)) (gL_V (wU_r34 _ (List.mem_of_getElem? (i := 15) rfl)) (wU_r34 _ (List.mem_of_getElem? (i := 16) rfl)) (wU_r34 _ (List.mem_of_getElem? (i := 17) rfl)) (wU_r1 _ (List.mem_of_getElem? (i := 5) rfl)) (wU_r34 _ (List.mem_of_getElem? (i := 18) rfl))) rfl (msh_ok (l := l) (D := D) (ty := ty) (ρ := μ)).1 rfl lw_dd_X7_limbs rfl hl.1 rfl (Nat.le_of_ble_eq_true rfl) (Nat.le_of_ble_eq_true rfl) (Nat.le_of_ble_eq_true rfl) (cuK_le _) (suK_le _) (fun H1 locs1 hP1 hz1 hk1 hS1 => ?_)
  have hls := hl1.M hP1 hk1 hS1
  refine lv_icmp_eq (tgt := 1014) hx hb dL_law_815 (by decide) (fun _ => ?_) (fun c9 => absurd rfl c9)
  exact latch _ _ _ _ K ρ hKK hrel1 hls hl
set_option maxRecDepth 20000 in
set_option maxHeartbeats 4000000 in
theorem law_book {p : Program} {l : Launch} {e : Env} {s : State} {m : MethodId} {below : List Frame} {meth : Method} {c : Code} {D : va_G} {ty : Nat → ClassId} {b L : Nat} {xs : Nat → Int32} {Rel : Option Nat → aSt → aSt → Prop} (hx : p.tables.exec = Jvm.exec) (hb : c.code = code) (hml : c.maxLocals = 4) (hown : s.vm.findClass R_law = some m.cls) (htU : ∀ w ∈ wsL_law, w.before #[Value.ref b] s = true) (hX : va_X b L xs s s.heap) (hbl : b < s.heap.size) (hbA : ¬ (fun q : Nat => s.heap.size ≤ q) b) (hK : va_K D vwCl (a_tys ty) s) (hpu : aPure Rel) {K : Option Nat} (hKK : K = none ∨ K = some 34) {ρ μ : Nat → Nat} {SX SM : aSt} {H : Heap} {locs : List Loc} {ls : Array Slot} {x3 : Int32} (h_1 : vp_in (x3 + 1) L) (h_2 : vp_in (x3 + 2) L) (h_3 : vp_in (x3 + 3) L) (h_4 : vp_in (x3 + 4) L) (hl : lv_has ls 4 [(0, .ref b), (1, .ref (ρ 0)), (2, .ref (μ 0)), (3, .int x3)]) (hrel : Rel K SX SM) (hls : lS D ty s K ρ μ SX SM H locs)
    (latch : ∀ (SX SM : aSt) (H : Heap) (locs : List Loc) (K : Option Nat) (ρ : Nat → Nat), (K = none ∨ K = some 34) → Rel K SX SM → lS D ty s K ρ μ SX SM H locs → lv_has ls 4 [(0, .ref b), (1, .ref (ρ 0)), (2, .ref (μ 0)), (3, .int x3)] → W p l e room_1 s m #[Value.ref b] below meth c H locs (cuK K) (suK K) (lw_Z below #[Value.ref b] s) (F0 m 1014 ls [])) : W p l e room_1 s m #[Value.ref b] below meth c H locs (cuK K) (suK K) (lw_Z below #[Value.ref b] s) (F0 m 820 ls []) := by
  obtain ⟨r, SX1, SM1, e1, e2, hrel1⟩ := hpu.2.2.2.2.2.2.2.2.2.2.2.2.2.2.2.2.2.2.2.2.2.1 K SX SM (xs (x3 + (1 : Int32)).toNatClampNeg) hrel
  have hl1 := hls
  have hS := hls.2.2.2.2.2.2.2.1
  refine lv_aload_n hx hb dL_law_820 rfl (lv_at hl 1 rfl) ?_
  refine lv_aload_n hx hb dL_law_821 rfl (lv_at hl 0 rfl) ?_
  refine lv_iload_n hx hb dL_law_822 rfl (lv_at hl 3 rfl) ?_
  refine lv_iconst (v := (1 : Int32)) hx hb dL_law_823 (by decide) ?_
  refine lv_iadd hx hb dL_law_824 ?_
  refine va_sld hx hb hX hbl hbA hS h_1 dL_law_825 ?_
  refine l_call (G := (l, D, ty, ρ, xsh K)) (As := [.int (xs (x3 + (1 : Int32)).toNatClampNeg)]) (rest := []) hx hb hml hown htU hK hl1.1 hl1.2.2.1 hl1.2.2.2.2.2.2.2.2.1 hl1.2.2.2.2.1 (fun _ h => h) hl1.2.2.2.2.2.2.2.1 dL_law_826 (aMet_of e1 (m_X6_book (xsh_ft hKK) (xs (x3 + (1 : Int32)).toNatClampNeg) SX)) (gL_V (wU_r34 _ (List.mem_of_getElem? (i := 19) rfl)) (wU_r34 _ (List.mem_of_getElem? (i := 20) rfl)) (wU_r34 _ (List.mem_of_getElem? (i := 21) rfl)) (wU_r1 _ (List.mem_of_getElem? (i := 2) rfl)) (wU_r34 _ (List.mem_of_getElem? (i := 22) rfl))) rfl (xsh_ft (l := l) (D := D) (ty := ty) (ρ := ρ) hKK).1 rfl lw_dd_X6_book rfl hl.1 rfl (Nat.le_of_ble_eq_true rfl) (Nat.le_of_ble_eq_true rfl) (Nat.le_of_ble_eq_true rfl) (cuK_le _) (suK_le _) (fun H1 locs1 hP1 hz1 hk1 hS1 => ?_)
  have hls := hl1.X hP1 hk1 hS1
  clear hl1 hS
  have hl1 := hls
  have hS := hls.2.2.2.2.2.2.2.1
  refine lv_aload_n hx hb dL_law_829 rfl (lv_at hl 2 rfl) ?_
  refine lv_aload_n hx hb dL_law_830 rfl (lv_at hl 0 rfl) ?_
  refine lv_iload_n hx hb dL_law_831 rfl (lv_at hl 3 rfl) ?_
  refine lv_iconst (v := (1 : Int32)) hx hb dL_law_832 (by decide) ?_
  refine lv_iadd hx hb dL_law_833 ?_
  refine va_sld hx hb hX hbl hbA hS h_1 dL_law_834 ?_
  refine l_call (G := (l, D, ty, μ, msh)) (As := [.int (xs (x3 + (1 : Int32)).toNatClampNeg)]) (rest := [.int r]) hx hb hml hown htU hK hl1.2.1 hl1.2.2.2.1 hl1.2.2.2.2.2.2.2.2.2 hl1.2.2.2.2.2.1 (fun _ h => h) hl1.2.2.2.2.2.2.2.1 dL_law_835 (aMet_of e2 (m_X7_book msh_ok (xs (x3 + (1 : Int32)).toNatClampNeg) SM)) (gL_V (wU_r35 _ (List.mem_of_getElem? (i := 1) rfl)) (wU_r35 _ (List.mem_of_getElem? (i := 2) rfl)) (wU_r35 _ (List.mem_of_getElem? (i := 3) rfl)) (wU_r1 _ (List.mem_of_getElem? (i := 5) rfl)) (wU_r35 _ (List.mem_of_getElem? (i := 4) rfl))) rfl (msh_ok (l := l) (D := D) (ty := ty) (ρ := μ)).1 rfl lw_dd_X7_book rfl hl.1 rfl (Nat.le_of_ble_eq_true rfl) (Nat.le_of_ble_eq_true rfl) (Nat.le_of_ble_eq_true rfl) (cuK_le _) (suK_le _) (fun H1 locs1 hP1 hz1 hk1 hS1 => ?_)
  have hls := hl1.M hP1 hk1 hS1
  refine lv_icmp_eq (tgt := 1014) hx hb dL_law_838 (by decide) (fun _ => ?_) (fun c9 => absurd rfl c9)
  exact latch _ _ _ _ K ρ hKK hrel1 hls hl
set_option maxRecDepth 20000 in
set_option maxHeartbeats 4000000 in
theorem law_judged {p : Program} {l : Launch} {e : Env} {s : State} {m : MethodId} {below : List Frame} {meth : Method} {c : Code} {D : va_G} {ty : Nat → ClassId} {b L : Nat} {xs : Nat → Int32} {Rel : Option Nat → aSt → aSt → Prop} (hx : p.tables.exec = Jvm.exec) (hb : c.code = code) (hml : c.maxLocals = 4) (hown : s.vm.findClass R_law = some m.cls) (htU : ∀ w ∈ wsL_law, w.before #[Value.ref b] s = true) (hX : va_X b L xs s s.heap) (hbl : b < s.heap.size) (hbA : ¬ (fun q : Nat => s.heap.size ≤ q) b) (hK : va_K D vwCl (a_tys ty) s) (hpu : aPure Rel) {K : Option Nat} (hKK : K = none ∨ K = some 34) {ρ μ : Nat → Nat} {SX SM : aSt} {H : Heap} {locs : List Loc} {ls : Array Slot} {x3 : Int32} (h_1 : vp_in (x3 + 1) L) (h_2 : vp_in (x3 + 2) L) (h_3 : vp_in (x3 + 3) L) (h_4 : vp_in (x3 + 4) L) (hl : lv_has ls 4 [(0, .ref b), (1, .ref (ρ 0)), (2, .ref (μ 0)), (3, .int x3)]) (hrel : Rel K SX SM) (hls : lS D ty s K ρ μ SX SM H locs)
    (latch : ∀ (SX SM : aSt) (H : Heap) (locs : List Loc) (K : Option Nat) (ρ : Nat → Nat), (K = none ∨ K = some 34) → Rel K SX SM → lS D ty s K ρ μ SX SM H locs → lv_has ls 4 [(0, .ref b), (1, .ref (ρ 0)), (2, .ref (μ 0)), (3, .int x3)] → W p l e room_1 s m #[Value.ref b] below meth c H locs (cuK K) (suK K) (lw_Z below #[Value.ref b] s) (F0 m 1014 ls [])) : W p l e room_1 s m #[Value.ref b] below meth c H locs (cuK K) (suK K) (lw_Z below #[Value.ref b] s) (F0 m 843 ls []) := by
  obtain ⟨r, SX1, SM1, e1, e2, hrel1⟩ := hpu.2.2.2.2.2.2.2.2.2.2.2.2.2.2.2.2.2.2.2.2.2.2.1 K SX SM (xs (x3 + (1 : Int32)).toNatClampNeg) hrel
  have hl1 := hls
  have hS := hls.2.2.2.2.2.2.2.1
  refine lv_aload_n hx hb dL_law_843 rfl (lv_at hl 1 rfl) ?_
  refine lv_aload_n hx hb dL_law_844 rfl (lv_at hl 0 rfl) ?_
  refine lv_iload_n hx hb dL_law_845 rfl (lv_at hl 3 rfl) ?_
  refine lv_iconst (v := (1 : Int32)) hx hb dL_law_846 (by decide) ?_
  refine lv_iadd hx hb dL_law_847 ?_
  refine va_sld hx hb hX hbl hbA hS h_1 dL_law_848 ?_
  refine l_call (G := (l, D, ty, ρ, xsh K)) (As := [.int (xs (x3 + (1 : Int32)).toNatClampNeg)]) (rest := []) hx hb hml hown htU hK hl1.1 hl1.2.2.1 hl1.2.2.2.2.2.2.2.2.1 hl1.2.2.2.2.1 (fun _ h => h) hl1.2.2.2.2.2.2.2.1 dL_law_849 (aMet_of e1 (m_X6_judged (xsh_ft hKK) (xs (x3 + (1 : Int32)).toNatClampNeg) SX)) (gL_V (wU_r35 _ (List.mem_of_getElem? (i := 5) rfl)) (wU_r35 _ (List.mem_of_getElem? (i := 6) rfl)) (wU_r35 _ (List.mem_of_getElem? (i := 7) rfl)) (wU_r1 _ (List.mem_of_getElem? (i := 2) rfl)) (wU_r35 _ (List.mem_of_getElem? (i := 8) rfl))) rfl (xsh_ft (l := l) (D := D) (ty := ty) (ρ := ρ) hKK).1 rfl lw_dd_X6_judged rfl hl.1 rfl (Nat.le_of_ble_eq_true rfl) (Nat.le_of_ble_eq_true rfl) (Nat.le_of_ble_eq_true rfl) (cuK_le _) (suK_le _) (fun H1 locs1 hP1 hz1 hk1 hS1 => ?_)
  have hls := hl1.X hP1 hk1 hS1
  clear hl1 hS
  have hl1 := hls
  have hS := hls.2.2.2.2.2.2.2.1
  refine lv_aload_n hx hb dL_law_852 rfl (lv_at hl 2 rfl) ?_
  refine lv_aload_n hx hb dL_law_853 rfl (lv_at hl 0 rfl) ?_
  refine lv_iload_n hx hb dL_law_854 rfl (lv_at hl 3 rfl) ?_
  refine lv_iconst (v := (1 : Int32)) hx hb dL_law_855 (by decide) ?_
  refine lv_iadd hx hb dL_law_856 ?_
  refine va_sld hx hb hX hbl hbA hS h_1 dL_law_857 ?_
  refine l_call (G := (l, D, ty, μ, msh)) (As := [.int (xs (x3 + (1 : Int32)).toNatClampNeg)]) (rest := [.int r]) hx hb hml hown htU hK hl1.2.1 hl1.2.2.2.1 hl1.2.2.2.2.2.2.2.2.2 hl1.2.2.2.2.2.1 (fun _ h => h) hl1.2.2.2.2.2.2.2.1 dL_law_858 (aMet_of e2 (m_X7_judged msh_ok (xs (x3 + (1 : Int32)).toNatClampNeg) SM)) (gL_V (wU_r35 _ (List.mem_of_getElem? (i := 9) rfl)) (wU_r35 _ (List.mem_of_getElem? (i := 10) rfl)) (wU_r35 _ (List.mem_of_getElem? (i := 11) rfl)) (wU_r1 _ (List.mem_of_getElem? (i := 5) rfl)) (wU_r35 _ (List.mem_of_getElem? (i := 12) rfl))) rfl (msh_ok (l := l) (D := D) (ty := ty) (ρ := μ)).1 rfl lw_dd_X7_judged rfl hl.1 rfl (Nat.le_of_ble_eq_true rfl) (Nat.le_of_ble_eq_true rfl) (Nat.le_of_ble_eq_true rfl) (cuK_le _) (suK_le _) (fun H1 locs1 hP1 hz1 hk1 hS1 => ?_)
  have hls := hl1.M hP1 hk1 hS1
  refine lv_icmp_eq (tgt := 1014) hx hb dL_law_861 (by decide) (fun _ => ?_) (fun c9 => absurd rfl c9)
  exact latch _ _ _ _ K ρ hKK hrel1 hls hl
set_option maxRecDepth 20000 in
set_option maxHeartbeats 4000000 in
theorem law_act {p : Program} {l : Launch} {e : Env} {s : State} {m : MethodId} {below : List Frame} {meth : Method} {c : Code} {D : va_G} {ty : Nat → ClassId} {b L : Nat} {xs : Nat → Int32} {Rel : Option Nat → aSt → aSt → Prop} (hx : p.tables.exec = Jvm.exec) (hb : c.code = code) (hml : c.maxLocals = 4) (hown : s.vm.findClass R_law = some m.cls) (htU : ∀ w ∈ wsL_law, w.before #[Value.ref b] s = true) (hX : va_X b L xs s s.heap) (hbl : b < s.heap.size) (hbA : ¬ (fun q : Nat => s.heap.size ≤ q) b) (hK : va_K D vwCl (a_tys ty) s) (hpu : aPure Rel) {K : Option Nat} (hKK : K = none ∨ K = some 34) {ρ μ : Nat → Nat} {SX SM : aSt} {H : Heap} {locs : List Loc} {ls : Array Slot} {x3 : Int32} (h_1 : vp_in (x3 + 1) L) (h_2 : vp_in (x3 + 2) L) (h_3 : vp_in (x3 + 3) L) (h_4 : vp_in (x3 + 4) L) (hl : lv_has ls 4 [(0, .ref b), (1, .ref (ρ 0)), (2, .ref (μ 0)), (3, .int x3)]) (hrel : Rel K SX SM) (hls : lS D ty s K ρ μ SX SM H locs)
    (latch : ∀ (SX SM : aSt) (H : Heap) (locs : List Loc) (K : Option Nat) (ρ : Nat → Nat), (K = none ∨ K = some 34) → Rel K SX SM → lS D ty s K ρ μ SX SM H locs → lv_has ls 4 [(0, .ref b), (1, .ref (ρ 0)), (2, .ref (μ 0)), (3, .int x3)] → W p l e room_1 s m #[Value.ref b] below meth c H locs (cuK K) (suK K) (lw_Z below #[Value.ref b] s) (F0 m 1014 ls [])) : W p l e room_1 s m #[Value.ref b] below meth c H locs (cuK K) (suK K) (lw_Z below #[Value.ref b] s) (F0 m 866 ls []) := by
  obtain ⟨r, SX1, SM1, e1, e2, hrel1⟩ := hpu.2.2.2.2.2.2.2.2.2.2.2.2.2.2.2.2.2.2.2.2.2.2.2.1 K SX SM (xs (x3 + (1 : Int32)).toNatClampNeg) (xs (x3 + (2 : Int32)).toNatClampNeg) (xs (x3 + (3 : Int32)).toNatClampNeg) hrel
  have hl1 := hls
  have hS := hls.2.2.2.2.2.2.2.1
  refine lv_aload_n hx hb dL_law_866 rfl (lv_at hl 1 rfl) ?_
  refine lv_aload_n hx hb dL_law_867 rfl (lv_at hl 0 rfl) ?_
  refine lv_iload_n hx hb dL_law_868 rfl (lv_at hl 3 rfl) ?_
  refine lv_iconst (v := (1 : Int32)) hx hb dL_law_869 (by decide) ?_
  refine lv_iadd hx hb dL_law_870 ?_
  refine va_sld hx hb hX hbl hbA hS h_1 dL_law_871 ?_
  refine lv_aload_n hx hb dL_law_872 rfl (lv_at hl 0 rfl) ?_
  refine lv_iload_n hx hb dL_law_873 rfl (lv_at hl 3 rfl) ?_
  refine lv_iconst (v := (2 : Int32)) hx hb dL_law_874 (by decide) ?_
  refine lv_iadd hx hb dL_law_875 ?_
  refine va_sld hx hb hX hbl hbA hS h_2 dL_law_876 ?_
  refine lv_aload_n hx hb dL_law_877 rfl (lv_at hl 0 rfl) ?_
  refine lv_iload_n hx hb dL_law_878 rfl (lv_at hl 3 rfl) ?_
  refine lv_iconst (v := (3 : Int32)) hx hb dL_law_879 (by decide) ?_
  refine lv_iadd hx hb dL_law_880 ?_
  refine va_sld hx hb hX hbl hbA hS h_3 dL_law_881 ?_
  refine l_call (G := (l, D, ty, ρ, xsh K)) (As := [.int (xs (x3 + (1 : Int32)).toNatClampNeg), .int (xs (x3 + (2 : Int32)).toNatClampNeg), .int (xs (x3 + (3 : Int32)).toNatClampNeg)]) (rest := []) hx hb hml hown htU hK hl1.1 hl1.2.2.1 hl1.2.2.2.2.2.2.2.2.1 hl1.2.2.2.2.1 (fun _ h => h) hl1.2.2.2.2.2.2.2.1 dL_law_882 (aMet_of e1 (m_X6_act (xsh_ft hKK) (xs (x3 + (1 : Int32)).toNatClampNeg) (xs (x3 + (2 : Int32)).toNatClampNeg) (xs (x3 + (3 : Int32)).toNatClampNeg) SX)) (gL_V (wU_r35 _ (List.mem_of_getElem? (i := 13) rfl)) (wU_r35 _ (List.mem_of_getElem? (i := 14) rfl)) (wU_r35 _ (List.mem_of_getElem? (i := 15) rfl)) (wU_r1 _ (List.mem_of_getElem? (i := 2) rfl)) (wU_r35 _ (List.mem_of_getElem? (i := 16) rfl))) rfl (xsh_ft (l := l) (D := D) (ty := ty) (ρ := ρ) hKK).1 rfl lw_dd_X6_act rfl hl.1 rfl (Nat.le_of_ble_eq_true rfl) (Nat.le_of_ble_eq_true rfl) (Nat.le_of_ble_eq_true rfl) (cuK_le _) (suK_le _) (fun H1 locs1 hP1 hz1 hk1 hS1 => ?_)
  have hls := hl1.X hP1 hk1 hS1
  clear hl1 hS
  have hl1 := hls
  have hS := hls.2.2.2.2.2.2.2.1
  refine lv_aload_n hx hb dL_law_885 rfl (lv_at hl 2 rfl) ?_
  refine lv_aload_n hx hb dL_law_886 rfl (lv_at hl 0 rfl) ?_
  refine lv_iload_n hx hb dL_law_887 rfl (lv_at hl 3 rfl) ?_
  refine lv_iconst (v := (1 : Int32)) hx hb dL_law_888 (by decide) ?_
  refine lv_iadd hx hb dL_law_889 ?_
  refine va_sld hx hb hX hbl hbA hS h_1 dL_law_890 ?_
  refine lv_aload_n hx hb dL_law_891 rfl (lv_at hl 0 rfl) ?_
  refine lv_iload_n hx hb dL_law_892 rfl (lv_at hl 3 rfl) ?_
  refine lv_iconst (v := (2 : Int32)) hx hb dL_law_893 (by decide) ?_
  refine lv_iadd hx hb dL_law_894 ?_
  refine va_sld hx hb hX hbl hbA hS h_2 dL_law_895 ?_
  refine lv_aload_n hx hb dL_law_896 rfl (lv_at hl 0 rfl) ?_
  refine lv_iload_n hx hb dL_law_897 rfl (lv_at hl 3 rfl) ?_
  refine lv_iconst (v := (3 : Int32)) hx hb dL_law_898 (by decide) ?_
  refine lv_iadd hx hb dL_law_899 ?_
  refine va_sld hx hb hX hbl hbA hS h_3 dL_law_900 ?_
  refine l_call (G := (l, D, ty, μ, msh)) (As := [.int (xs (x3 + (1 : Int32)).toNatClampNeg), .int (xs (x3 + (2 : Int32)).toNatClampNeg), .int (xs (x3 + (3 : Int32)).toNatClampNeg)]) (rest := [.int r]) hx hb hml hown htU hK hl1.2.1 hl1.2.2.2.1 hl1.2.2.2.2.2.2.2.2.2 hl1.2.2.2.2.2.1 (fun _ h => h) hl1.2.2.2.2.2.2.2.1 dL_law_901 (aMet_of e2 (m_X7_act msh_ok (xs (x3 + (1 : Int32)).toNatClampNeg) (xs (x3 + (2 : Int32)).toNatClampNeg) (xs (x3 + (3 : Int32)).toNatClampNeg) SM)) (gL_V (wU_r36 _ (List.mem_of_getElem? (i := 18) rfl)) (wU_r36 _ (List.mem_of_getElem? (i := 19) rfl)) (wU_r36 _ (List.mem_of_getElem? (i := 20) rfl)) (wU_r1 _ (List.mem_of_getElem? (i := 5) rfl)) (wU_r36 _ (List.mem_of_getElem? (i := 21) rfl))) rfl (msh_ok (l := l) (D := D) (ty := ty) (ρ := μ)).1 rfl lw_dd_X7_act rfl hl.1 rfl (Nat.le_of_ble_eq_true rfl) (Nat.le_of_ble_eq_true rfl) (Nat.le_of_ble_eq_true rfl) (cuK_le _) (suK_le _) (fun H1 locs1 hP1 hz1 hk1 hS1 => ?_)
  have hls := hl1.M hP1 hk1 hS1
  refine lv_icmp_eq (tgt := 1014) hx hb dL_law_904 (by decide) (fun _ => ?_) (fun c9 => absurd rfl c9)
  exact latch _ _ _ _ K ρ hKK hrel1 hls hl
set_option maxRecDepth 20000 in
set_option maxHeartbeats 4000000 in
theorem law_trace {p : Program} {l : Launch} {e : Env} {s : State} {m : MethodId} {below : List Frame} {meth : Method} {c : Code} {D : va_G} {ty : Nat → ClassId} {b L : Nat} {xs : Nat → Int32} {Rel : Option Nat → aSt → aSt → Prop} (hx : p.tables.exec = Jvm.exec) (hb : c.code = code) (hml : c.maxLocals = 4) (hown : s.vm.findClass R_law = some m.cls) (htU : ∀ w ∈ wsL_law, w.before #[Value.ref b] s = true) (hX : va_X b L xs s s.heap) (hbl : b < s.heap.size) (hbA : ¬ (fun q : Nat => s.heap.size ≤ q) b) (hK : va_K D vwCl (a_tys ty) s) (hpu : aPure Rel) {K : Option Nat} (hKK : K = none ∨ K = some 34) {ρ μ : Nat → Nat} {SX SM : aSt} {H : Heap} {locs : List Loc} {ls : Array Slot} {x3 : Int32} (h_1 : vp_in (x3 + 1) L) (h_2 : vp_in (x3 + 2) L) (h_3 : vp_in (x3 + 3) L) (h_4 : vp_in (x3 + 4) L) (hl : lv_has ls 4 [(0, .ref b), (1, .ref (ρ 0)), (2, .ref (μ 0)), (3, .int x3)]) (hrel : Rel K SX SM) (hls : lS D ty s K ρ μ SX SM H locs)
    (latch : ∀ (SX SM : aSt) (H : Heap) (locs : List Loc) (K : Option Nat) (ρ : Nat → Nat), (K = none ∨ K = some 34) → Rel K SX SM → lS D ty s K ρ μ SX SM H locs → lv_has ls 4 [(0, .ref b), (1, .ref (ρ 0)), (2, .ref (μ 0)), (3, .int x3)] → W p l e room_1 s m #[Value.ref b] below meth c H locs (cuK K) (suK K) (lw_Z below #[Value.ref b] s) (F0 m 1014 ls [])) : W p l e room_1 s m #[Value.ref b] below meth c H locs (cuK K) (suK K) (lw_Z below #[Value.ref b] s) (F0 m 909 ls []) := by
  obtain ⟨r, SX1, SM1, e1, e2, hrel1⟩ := hpu.2.2.2.2.2.2.2.2.2.2.2.2.2.2.2.2.2.2.2.2.2.2.2.2.1 K SX SM (xs (x3 + (1 : Int32)).toNatClampNeg) hrel
  have hl1 := hls
  have hS := hls.2.2.2.2.2.2.2.1
  refine lv_aload_n hx hb dL_law_909 rfl (lv_at hl 1 rfl) ?_
  refine lv_aload_n hx hb dL_law_910 rfl (lv_at hl 0 rfl) ?_
  refine lv_iload_n hx hb dL_law_911 rfl (lv_at hl 3 rfl) ?_
  refine lv_iconst (v := (1 : Int32)) hx hb dL_law_912 (by decide) ?_
  refine lv_iadd hx hb dL_law_913 ?_
  refine va_sld hx hb hX hbl hbA hS h_1 dL_law_914 ?_
  refine l_call (G := (l, D, ty, ρ, xsh K)) (As := [.int (xs (x3 + (1 : Int32)).toNatClampNeg)]) (rest := []) hx hb hml hown htU hK hl1.1 hl1.2.2.1 hl1.2.2.2.2.2.2.2.2.1 hl1.2.2.2.2.1 (fun _ h => h) hl1.2.2.2.2.2.2.2.1 dL_law_915 (aMet_of e1 (m_X6_trace (xsh_ft hKK) (xs (x3 + (1 : Int32)).toNatClampNeg) SX)) (gL_V (wU_r38 _ (List.mem_of_getElem? (i := 9) rfl)) (wU_r38 _ (List.mem_of_getElem? (i := 10) rfl)) (wU_r38 _ (List.mem_of_getElem? (i := 11) rfl)) (wU_r1 _ (List.mem_of_getElem? (i := 2) rfl)) (wU_r38 _ (List.mem_of_getElem? (i := 12) rfl))) rfl (xsh_ft (l := l) (D := D) (ty := ty) (ρ := ρ) hKK).1 rfl lw_dd_X6_trace rfl hl.1 rfl (Nat.le_of_ble_eq_true rfl) (Nat.le_of_ble_eq_true rfl) (Nat.le_of_ble_eq_true rfl) (cuK_le _) (suK_le _) (fun H1 locs1 hP1 hz1 hk1 hS1 => ?_)
  have hls := hl1.X hP1 hk1 hS1
  clear hl1 hS
  have hl1 := hls
  have hS := hls.2.2.2.2.2.2.2.1
  refine lv_aload_n hx hb dL_law_918 rfl (lv_at hl 2 rfl) ?_
  refine lv_aload_n hx hb dL_law_919 rfl (lv_at hl 0 rfl) ?_
  refine lv_iload_n hx hb dL_law_920 rfl (lv_at hl 3 rfl) ?_
  refine lv_iconst (v := (1 : Int32)) hx hb dL_law_921 (by decide) ?_
  refine lv_iadd hx hb dL_law_922 ?_
  refine va_sld hx hb hX hbl hbA hS h_1 dL_law_923 ?_
  refine l_call (G := (l, D, ty, μ, msh)) (As := [.int (xs (x3 + (1 : Int32)).toNatClampNeg)]) (rest := [.int r]) hx hb hml hown htU hK hl1.2.1 hl1.2.2.2.1 hl1.2.2.2.2.2.2.2.2.2 hl1.2.2.2.2.2.1 (fun _ h => h) hl1.2.2.2.2.2.2.2.1 dL_law_924 (aMet_of e2 (m_X7_trace msh_ok (xs (x3 + (1 : Int32)).toNatClampNeg) SM)) (gL_V (wU_r38 _ (List.mem_of_getElem? (i := 14) rfl)) (wU_r38 _ (List.mem_of_getElem? (i := 15) rfl)) (wU_r38 _ (List.mem_of_getElem? (i := 16) rfl)) (wU_r1 _ (List.mem_of_getElem? (i := 5) rfl)) (wU_r38 _ (List.mem_of_getElem? (i := 17) rfl))) rfl (msh_ok (l := l) (D := D) (ty := ty) (ρ := μ)).1 rfl lw_dd_X7_trace rfl hl.1 rfl (Nat.le_of_ble_eq_true rfl) (Nat.le_of_ble_eq_true rfl) (Nat.le_of_ble_eq_true rfl) (cuK_le _) (suK_le _) (fun H1 locs1 hP1 hz1 hk1 hS1 => ?_)
  have hls := hl1.M hP1 hk1 hS1
  refine lv_icmp_eq (tgt := 1014) hx hb dL_law_927 (by decide) (fun _ => ?_) (fun c9 => absurd rfl c9)
  exact latch _ _ _ _ K ρ hKK hrel1 hls hl
set_option maxRecDepth 20000 in
set_option maxHeartbeats 4000000 in
theorem law_as {p : Program} {l : Launch} {e : Env} {s : State} {m : MethodId} {below : List Frame} {meth : Method} {c : Code} {D : va_G} {ty : Nat → ClassId} {b L : Nat} {xs : Nat → Int32} {Rel : Option Nat → aSt → aSt → Prop} (hx : p.tables.exec = Jvm.exec) (hb : c.code = code) (hml : c.maxLocals = 4) (hown : s.vm.findClass R_law = some m.cls) (htU : ∀ w ∈ wsL_law, w.before #[Value.ref b] s = true) (hX : va_X b L xs s s.heap) (hbl : b < s.heap.size) (hbA : ¬ (fun q : Nat => s.heap.size ≤ q) b) (hK : va_K D vwCl (a_tys ty) s) (hpu : aPure Rel) {K : Option Nat} (hKK : K = none ∨ K = some 34) {ρ μ : Nat → Nat} {SX SM : aSt} {H : Heap} {locs : List Loc} {ls : Array Slot} {x3 : Int32} (h_1 : vp_in (x3 + 1) L) (h_2 : vp_in (x3 + 2) L) (h_3 : vp_in (x3 + 3) L) (h_4 : vp_in (x3 + 4) L) (hl : lv_has ls 4 [(0, .ref b), (1, .ref (ρ 0)), (2, .ref (μ 0)), (3, .int x3)]) (hrel : Rel K SX SM) (hls : lS D ty s K ρ μ SX SM H locs)
    (latch : ∀ (SX SM : aSt) (H : Heap) (locs : List Loc) (K : Option Nat) (ρ : Nat → Nat), (K = none ∨ K = some 34) → Rel K SX SM → lS D ty s K ρ μ SX SM H locs → lv_has ls 4 [(0, .ref b), (1, .ref (ρ 0)), (2, .ref (μ 0)), (3, .int x3)] → W p l e room_1 s m #[Value.ref b] below meth c H locs (cuK K) (suK K) (lw_Z below #[Value.ref b] s) (F0 m 1014 ls [])) : W p l e room_1 s m #[Value.ref b] below meth c H locs (cuK K) (suK K) (lw_Z below #[Value.ref b] s) (F0 m 932 ls []) := by
  obtain ⟨r, SX1, SM1, e1, e2, hrel1⟩ := hpu.2.2.2.2.2.2.2.2.2.2.2.2.2.2.2.2.2.2.2.2.2.2.2.2.2.1 K SX SM (xs (x3 + (1 : Int32)).toNatClampNeg) (xs (x3 + (2 : Int32)).toNatClampNeg) hrel
  have hl1 := hls
  have hS := hls.2.2.2.2.2.2.2.1
  refine lv_aload_n hx hb dL_law_932 rfl (lv_at hl 1 rfl) ?_
  refine lv_aload_n hx hb dL_law_933 rfl (lv_at hl 0 rfl) ?_
  refine lv_iload_n hx hb dL_law_934 rfl (lv_at hl 3 rfl) ?_
  refine lv_iconst (v := (1 : Int32)) hx hb dL_law_935 (by decide) ?_
  refine lv_iadd hx hb dL_law_936 ?_
  refine va_sld hx hb hX hbl hbA hS h_1 dL_law_937 ?_
  refine lv_aload_n hx hb dL_law_938 rfl (lv_at hl 0 rfl) ?_
  refine lv_iload_n hx hb dL_law_939 rfl (lv_at hl 3 rfl) ?_
  refine lv_iconst (v := (2 : Int32)) hx hb dL_law_940 (by decide) ?_
  refine lv_iadd hx hb dL_law_941 ?_
  refine va_sld hx hb hX hbl hbA hS h_2 dL_law_942 ?_
  refine l_call (G := (l, D, ty, ρ, xsh K)) (As := [.int (xs (x3 + (1 : Int32)).toNatClampNeg), .int (xs (x3 + (2 : Int32)).toNatClampNeg)]) (rest := []) hx hb hml hown htU hK hl1.1 hl1.2.2.1 hl1.2.2.2.2.2.2.2.2.1 hl1.2.2.2.2.1 (fun _ h => h) hl1.2.2.2.2.2.2.2.1 dL_law_943 (aMet_of e1 (m_X6_as (xsh_ft hKK) (xs (x3 + (1 : Int32)).toNatClampNeg) (xs (x3 + (2 : Int32)).toNatClampNeg) SX)) (gL_V (wU_r38 _ (List.mem_of_getElem? (i := 18) rfl)) (wU_r38 _ (List.mem_of_getElem? (i := 19) rfl)) (wU_r38 _ (List.mem_of_getElem? (i := 20) rfl)) (wU_r1 _ (List.mem_of_getElem? (i := 2) rfl)) (wU_r38 _ (List.mem_of_getElem? (i := 21) rfl))) rfl (xsh_ft (l := l) (D := D) (ty := ty) (ρ := ρ) hKK).1 rfl lw_dd_X6_as rfl hl.1 rfl (Nat.le_of_ble_eq_true rfl) (Nat.le_of_ble_eq_true rfl) (Nat.le_of_ble_eq_true rfl) (cuK_le _) (suK_le _) (fun H1 locs1 hP1 hz1 hk1 hS1 => ?_)
  have hls := hl1.X hP1 hk1 hS1
  clear hl1 hS
  have hl1 := hls
  have hS := hls.2.2.2.2.2.2.2.1
  refine lv_aload_n hx hb dL_law_946 rfl (lv_at hl 2 rfl) ?_
  refine lv_aload_n hx hb dL_law_947 rfl (lv_at hl 0 rfl) ?_
  refine lv_iload_n hx hb dL_law_948 rfl (lv_at hl 3 rfl) ?_
  refine lv_iconst (v := (1 : Int32)) hx hb dL_law_949 (by decide) ?_
  refine lv_iadd hx hb dL_law_950 ?_
  refine va_sld hx hb hX hbl hbA hS h_1 dL_law_951 ?_
  refine lv_aload_n hx hb dL_law_952 rfl (lv_at hl 0 rfl) ?_
  refine lv_iload_n hx hb dL_law_953 rfl (lv_at hl 3 rfl) ?_
  refine lv_iconst (v := (2 : Int32)) hx hb dL_law_954 (by decide) ?_
  refine lv_iadd hx hb dL_law_955 ?_
  refine va_sld hx hb hX hbl hbA hS h_2 dL_law_956 ?_
  refine l_call (G := (l, D, ty, μ, msh)) (As := [.int (xs (x3 + (1 : Int32)).toNatClampNeg), .int (xs (x3 + (2 : Int32)).toNatClampNeg)]) (rest := [.int r]) hx hb hml hown htU hK hl1.2.1 hl1.2.2.2.1 hl1.2.2.2.2.2.2.2.2.2 hl1.2.2.2.2.2.1 (fun _ h => h) hl1.2.2.2.2.2.2.2.1 dL_law_957 (aMet_of e2 (m_X7_as msh_ok (xs (x3 + (1 : Int32)).toNatClampNeg) (xs (x3 + (2 : Int32)).toNatClampNeg) SM)) (gL_V (wU_r39 _ (List.mem_of_getElem? (i := 2) rfl)) (wU_r39 _ (List.mem_of_getElem? (i := 3) rfl)) (wU_r39 _ (List.mem_of_getElem? (i := 4) rfl)) (wU_r1 _ (List.mem_of_getElem? (i := 5) rfl)) (wU_r39 _ (List.mem_of_getElem? (i := 5) rfl))) rfl (msh_ok (l := l) (D := D) (ty := ty) (ρ := μ)).1 rfl lw_dd_X7_as rfl hl.1 rfl (Nat.le_of_ble_eq_true rfl) (Nat.le_of_ble_eq_true rfl) (Nat.le_of_ble_eq_true rfl) (cuK_le _) (suK_le _) (fun H1 locs1 hP1 hz1 hk1 hS1 => ?_)
  have hls := hl1.M hP1 hk1 hS1
  refine lv_icmp_eq (tgt := 1014) hx hb dL_law_960 (by decide) (fun _ => ?_) (fun c9 => absurd rfl c9)
  exact latch _ _ _ _ K ρ hKK hrel1 hls hl
set_option maxRecDepth 20000 in
set_option maxHeartbeats 4000000 in
theorem law_imageK {p : Program} {l : Launch} {e : Env} {s : State} {m : MethodId} {below : List Frame} {meth : Method} {c : Code} {D : va_G} {ty : Nat → ClassId} {b L : Nat} {xs : Nat → Int32} {Rel : Option Nat → aSt → aSt → Prop} (hx : p.tables.exec = Jvm.exec) (hb : c.code = code) (hml : c.maxLocals = 4) (hown : s.vm.findClass R_law = some m.cls) (htU : ∀ w ∈ wsL_law, w.before #[Value.ref b] s = true) (hX : va_X b L xs s s.heap) (hbl : b < s.heap.size) (hbA : ¬ (fun q : Nat => s.heap.size ≤ q) b) (hK : va_K D vwCl (a_tys ty) s) (hpu : aPure Rel) {K : Option Nat} (hKK : K = some 34) {ρ μ : Nat → Nat} {SX SM : aSt} {H : Heap} {locs : List Loc} {ls : Array Slot} {x3 : Int32} (h_1 : vp_in (x3 + 1) L) (h_2 : vp_in (x3 + 2) L) (h_3 : vp_in (x3 + 3) L) (h_4 : vp_in (x3 + 4) L) (hl : lv_has ls 4 [(0, .ref b), (1, .ref (ρ 0)), (2, .ref (μ 0)), (3, .int x3)]) (hrel : Rel K SX SM) (hls : lS D ty s K ρ μ SX SM H locs)
    (latch : ∀ (SX SM : aSt) (H : Heap) (locs : List Loc) (K : Option Nat) (ρ : Nat → Nat), (K = none ∨ K = some 34) → Rel K SX SM → lS D ty s K ρ μ SX SM H locs → lv_has ls 4 [(0, .ref b), (1, .ref (ρ 0)), (2, .ref (μ 0)), (3, .int x3)] → W p l e room_1 s m #[Value.ref b] below meth c H locs (cuK K) (suK K) (lw_Z below #[Value.ref b] s) (F0 m 1014 ls [])) : W p l e room_1 s m #[Value.ref b] below meth c H locs (cuK K) (suK K) (lw_Z below #[Value.ref b] s) (F0 m 965 ls []) := by
  subst hKK
  have hKK : (some 34 : Option Nat) = none ∨ (some 34 : Option Nat) = some 34 := by first | exact Or.inl rfl | exact Or.inr rfl
  obtain ⟨r, SX1, SM1, e1, e2, hrel1⟩ := hpu.2.2.2.2.2.2.2.2.2.2.2.2.2.2.2.2.2.2.2.2.2.2.2.2.2.2.2.2.1 SX SM  hrel
  have hl1 := hls
  have hS := hls.2.2.2.2.2.2.2.1
  refine lv_aload_n hx hb dL_law_965 rfl (lv_at hl 1 rfl) ?_
  refine l_call (G := (l, D, ty, ρ, xsh (some 34))) (As := []) (rest := []) hx hb hml hown htU hK hl1.1 hl1.2.2.1 hl1.2.2.2.2.2.2.2.2.1 hl1.2.2.2.2.1 (fun _ h => h) hl1.2.2.2.2.2.2.2.1 dL_law_966 (aMet_of e1 (m_X6_image_K (xsh_ft hKK)  SX)) (gL_V (wU_r39 _ (List.mem_of_getElem? (i := 6) rfl)) (wU_r39 _ (List.mem_of_getElem? (i := 7) rfl)) (wU_r39 _ (List.mem_of_getElem? (i := 8) rfl)) (wU_r1 _ (List.mem_of_getElem? (i := 2) rfl)) (wU_r39 _ (List.mem_of_getElem? (i := 9) rfl))) rfl (xsh_ft (l := l) (D := D) (ty := ty) (ρ := ρ) hKK).1 rfl lw_dd_X6_image rfl hl.1 rfl (Nat.le_of_ble_eq_true rfl) (Nat.le_of_ble_eq_true rfl) (Nat.le_of_ble_eq_true rfl) (cuK_le _) (suK_le _) (fun H1 locs1 hP1 hz1 hk1 hS1 => ?_)
  have hls := hl1.X hP1 hk1 hS1
  clear hl1 hS
  have hl1 := hls
  have hS := hls.2.2.2.2.2.2.2.1
  refine lv_aload_n hx hb dL_law_969 rfl (lv_at hl 2 rfl) ?_
  refine l_call (G := (l, D, ty, μ, msh)) (As := []) (rest := [.int r]) hx hb hml hown htU hK hl1.2.1 hl1.2.2.2.1 hl1.2.2.2.2.2.2.2.2.2 hl1.2.2.2.2.2.1 (fun _ h => h) hl1.2.2.2.2.2.2.2.1 dL_law_970 (aMet_of e2 (m_X7_image msh_ok  SM)) (gL_V (wU_r39 _ (List.mem_of_getElem? (i := 21) rfl)) (wU_r39 _ (List.mem_of_getElem? (i := 22) rfl)) (wU_r39 _ (List.mem_of_getElem? (i := 23) rfl)) (wU_r1 _ (List.mem_of_getElem? (i := 5) rfl)) (wU_r40 _ (List.mem_of_getElem? (i := 0) rfl))) rfl (msh_ok (l := l) (D := D) (ty := ty) (ρ := μ)).1 rfl lw_dd_X7_image rfl hl.1 rfl (Nat.le_of_ble_eq_true rfl) (Nat.le_of_ble_eq_true rfl) (Nat.le_of_ble_eq_true rfl) (cuK_le _) (suK_le _) (fun H1 locs1 hP1 hz1 hk1 hS1 => ?_)
  have hls := hl1.M hP1 hk1 hS1
  refine lv_icmp_eq (tgt := 1014) hx hb dL_law_973 (by decide) (fun _ => ?_) (fun c9 => absurd rfl c9)
  exact latch _ _ _ _ _ ρ hKK hrel1 hls hl
set_option maxRecDepth 20000 in
set_option maxHeartbeats 4000000 in
theorem law_undoN {p : Program} {l : Launch} {e : Env} {s : State} {m : MethodId} {below : List Frame} {meth : Method} {c : Code} {D : va_G} {ty : Nat → ClassId} {b L : Nat} {xs : Nat → Int32} {Rel : Option Nat → aSt → aSt → Prop} (hx : p.tables.exec = Jvm.exec) (hb : c.code = code) (hml : c.maxLocals = 4) (hown : s.vm.findClass R_law = some m.cls) (htU : ∀ w ∈ wsL_law, w.before #[Value.ref b] s = true) (hX : va_X b L xs s s.heap) (hbl : b < s.heap.size) (hbA : ¬ (fun q : Nat => s.heap.size ≤ q) b) (hK : va_K D vwCl (a_tys ty) s) (hpu : aPure Rel) {K : Option Nat} (hKK : K = none) {ρ μ : Nat → Nat} {SX SM : aSt} {H : Heap} {locs : List Loc} {ls : Array Slot} {x3 : Int32} (h_1 : vp_in (x3 + 1) L) (h_2 : vp_in (x3 + 2) L) (h_3 : vp_in (x3 + 3) L) (h_4 : vp_in (x3 + 4) L) (hl : lv_has ls 4 [(0, .ref b), (1, .ref (ρ 0)), (2, .ref (μ 0)), (3, .int x3)]) (hrel : Rel K SX SM) (hls : lS D ty s K ρ μ SX SM H locs)
    (latch : ∀ (SX SM : aSt) (H : Heap) (locs : List Loc) (K : Option Nat) (ρ : Nat → Nat), (K = none ∨ K = some 34) → Rel K SX SM → lS D ty s K ρ μ SX SM H locs → lv_has ls 4 [(0, .ref b), (1, .ref (ρ 0)), (2, .ref (μ 0)), (3, .int x3)] → W p l e room_1 s m #[Value.ref b] below meth c H locs (cuK K) (suK K) (lw_Z below #[Value.ref b] s) (F0 m 1014 ls [])) : W p l e room_1 s m #[Value.ref b] below meth c H locs (cuK K) (suK K) (lw_Z below #[Value.ref b] s) (F0 m 978 ls []) := by
  subst hKK
  have hKK : (none : Option Nat) = none ∨ (none : Option Nat) = some 34 := by first | exact Or.inl rfl | exact Or.inr rfl
  obtain ⟨r, SX1, SM1, e1, e2, hrel1⟩ := hpu.2.2.2.2.2.2.2.2.2.2.2.2.2.2.2.2.2.2.2.2.2.2.2.2.2.2.2.2.2.1 SX SM  hrel
  have hl1 := hls
  have hS := hls.2.2.2.2.2.2.2.1
  refine lv_aload_n hx hb dL_law_978 rfl (lv_at hl 1 rfl) ?_
  refine l_call (G := (l, D, ty, ρ, xsh (none))) (As := []) (rest := []) hx hb hml hown htU hK hl1.1 hl1.2.2.1 hl1.2.2.2.2.2.2.2.2.1 hl1.2.2.2.2.1 (fun _ h => h) hl1.2.2.2.2.2.2.2.1 dL_law_979 (aMet_of e1 (m_X6_undo_N (xsh_ft hKK)  SX)) (gL_V (wU_r40 _ (List.mem_of_getElem? (i := 2) rfl)) (wU_r40 _ (List.mem_of_getElem? (i := 3) rfl)) (wU_r40 _ (List.mem_of_getElem? (i := 4) rfl)) (wU_r1 _ (List.mem_of_getElem? (i := 2) rfl)) (wU_r40 _ (List.mem_of_getElem? (i := 5) rfl))) rfl (xsh_ft (l := l) (D := D) (ty := ty) (ρ := ρ) hKK).1 rfl lw_dd_X6_undo rfl hl.1 rfl (Nat.le_of_ble_eq_true rfl) (Nat.le_of_ble_eq_true rfl) (Nat.le_of_ble_eq_true rfl) (cuK_le _) (suK_le _) (fun H1 locs1 hP1 hz1 hk1 hS1 => ?_)
  have hls := hl1.X hP1 hk1 hS1
  clear hl1 hS
  have hl1 := hls
  have hS := hls.2.2.2.2.2.2.2.1
  refine lv_aload_n hx hb dL_law_982 rfl (lv_at hl 2 rfl) ?_
  refine l_call (G := (l, D, ty, μ, msh)) (As := []) (rest := [.int r]) hx hb hml hown htU hK hl1.2.1 hl1.2.2.2.1 hl1.2.2.2.2.2.2.2.2.2 hl1.2.2.2.2.2.1 (fun _ h => h) hl1.2.2.2.2.2.2.2.1 dL_law_983 (aMet_of e2 (m_X7_undo msh_ok  SM)) (gL_V (wU_r40 _ (List.mem_of_getElem? (i := 6) rfl)) (wU_r40 _ (List.mem_of_getElem? (i := 7) rfl)) (wU_r40 _ (List.mem_of_getElem? (i := 8) rfl)) (wU_r1 _ (List.mem_of_getElem? (i := 5) rfl)) (wU_r40 _ (List.mem_of_getElem? (i := 9) rfl))) rfl (msh_ok (l := l) (D := D) (ty := ty) (ρ := μ)).1 rfl lw_dd_X7_undo rfl hl.1 rfl (Nat.le_of_ble_eq_true rfl) (Nat.le_of_ble_eq_true rfl) (Nat.le_of_ble_eq_true rfl) (cuK_le _) (suK_le _) (fun H1 locs1 hP1 hz1 hk1 hS1 => ?_)
  have hls := hl1.M hP1 hk1 hS1
  refine lv_icmp_eq (tgt := 1014) hx hb dL_law_986 (by decide) (fun _ => ?_) (fun c9 => absurd rfl c9)
  exact latch _ _ _ _ _ ρ hKK hrel1 hls hl
set_option maxRecDepth 20000 in
set_option maxHeartbeats 4000000 in
theorem law_undoK {p : Program} {l : Launch} {e : Env} {s : State} {m : MethodId} {below : List Frame} {meth : Method} {c : Code} {D : va_G} {ty : Nat → ClassId} {b L : Nat} {xs : Nat → Int32} {Rel : Option Nat → aSt → aSt → Prop} (hx : p.tables.exec = Jvm.exec) (hb : c.code = code) (hml : c.maxLocals = 4) (hown : s.vm.findClass R_law = some m.cls) (htU : ∀ w ∈ wsL_law, w.before #[Value.ref b] s = true) (hX : va_X b L xs s s.heap) (hbl : b < s.heap.size) (hbA : ¬ (fun q : Nat => s.heap.size ≤ q) b) (hK : va_K D vwCl (a_tys ty) s) (hpu : aPure Rel) {K : Option Nat} (hKK : K = some 34) {ρ μ : Nat → Nat} {SX SM : aSt} {H : Heap} {locs : List Loc} {ls : Array Slot} {x3 : Int32} (h_1 : vp_in (x3 + 1) L) (h_2 : vp_in (x3 + 2) L) (h_3 : vp_in (x3 + 3) L) (h_4 : vp_in (x3 + 4) L) (hl : lv_has ls 4 [(0, .ref b), (1, .ref (ρ 0)), (2, .ref (μ 0)), (3, .int x3)]) (hrel : Rel K SX SM) (hls : lS D ty s K ρ μ SX SM H locs)
    (latch : ∀ (SX SM : aSt) (H : Heap) (locs : List Loc) (K : Option Nat) (ρ : Nat → Nat), (K = none ∨ K = some 34) → Rel K SX SM → lS D ty s K ρ μ SX SM H locs → lv_has ls 4 [(0, .ref b), (1, .ref (ρ 0)), (2, .ref (μ 0)), (3, .int x3)] → W p l e room_1 s m #[Value.ref b] below meth c H locs (cuK K) (suK K) (lw_Z below #[Value.ref b] s) (F0 m 1014 ls [])) : W p l e room_1 s m #[Value.ref b] below meth c H locs (cuK K) (suK K) (lw_Z below #[Value.ref b] s) (F0 m 978 ls []) := by
  subst hKK
  have hKK : (some 34 : Option Nat) = none ∨ (some 34 : Option Nat) = some 34 := by first | exact Or.inl rfl | exact Or.inr rfl
  obtain ⟨r, SX1, SM1, e1, e2, hrel1⟩ := hpu.2.2.2.2.2.2.2.2.2.2.2.2.2.2.2.2.2.2.2.2.2.2.2.2.2.2.2.2.2.2 SX SM  hrel
  have hl1 := hls
  have hS := hls.2.2.2.2.2.2.2.1
  refine lv_aload_n hx hb dL_law_978 rfl (lv_at hl 1 rfl) ?_
  refine l_call (G := (l, D, ty, ρ, xsh (some 34))) (As := []) (rest := []) hx hb hml hown htU hK hl1.1 hl1.2.2.1 hl1.2.2.2.2.2.2.2.2.1 hl1.2.2.2.2.1 (fun _ h => h) hl1.2.2.2.2.2.2.2.1 dL_law_979 (aMet_of e1 (m_X6_undo_K (xsh_ft hKK)  SX)) (gL_V (wU_r40 _ (List.mem_of_getElem? (i := 2) rfl)) (wU_r40 _ (List.mem_of_getElem? (i := 3) rfl)) (wU_r40 _ (List.mem_of_getElem? (i := 4) rfl)) (wU_r1 _ (List.mem_of_getElem? (i := 2) rfl)) (wU_r40 _ (List.mem_of_getElem? (i := 5) rfl))) rfl (xsh_ft (l := l) (D := D) (ty := ty) (ρ := ρ) hKK).1 rfl lw_dd_X6_undo rfl hl.1 rfl (Nat.le_of_ble_eq_true rfl) (Nat.le_of_ble_eq_true rfl) (Nat.le_of_ble_eq_true rfl) (cuK_le _) (suK_le _) (fun H1 locs1 hP1 hz1 hk1 hS1 => ?_)
  have hls := hl1.X hP1 hk1 hS1
  clear hl1 hS
  have hl1 := hls
  have hS := hls.2.2.2.2.2.2.2.1
  refine lv_aload_n hx hb dL_law_982 rfl (lv_at hl 2 rfl) ?_
  refine l_call (G := (l, D, ty, μ, msh)) (As := []) (rest := [.int r]) hx hb hml hown htU hK hl1.2.1 hl1.2.2.2.1 hl1.2.2.2.2.2.2.2.2.2 hl1.2.2.2.2.2.1 (fun _ h => h) hl1.2.2.2.2.2.2.2.1 dL_law_983 (aMet_of e2 (m_X7_undo msh_ok  SM)) (gL_V (wU_r40 _ (List.mem_of_getElem? (i := 6) rfl)) (wU_r40 _ (List.mem_of_getElem? (i := 7) rfl)) (wU_r40 _ (List.mem_of_getElem? (i := 8) rfl)) (wU_r1 _ (List.mem_of_getElem? (i := 5) rfl)) (wU_r40 _ (List.mem_of_getElem? (i := 9) rfl))) rfl (msh_ok (l := l) (D := D) (ty := ty) (ρ := μ)).1 rfl lw_dd_X7_undo rfl hl.1 rfl (Nat.le_of_ble_eq_true rfl) (Nat.le_of_ble_eq_true rfl) (Nat.le_of_ble_eq_true rfl) (cuK_le _) (suK_le _) (fun H1 locs1 hP1 hz1 hk1 hS1 => ?_)
  have hls := hl1.M hP1 hk1 hS1
  refine lv_icmp_eq (tgt := 1014) hx hb dL_law_986 (by decide) (fun _ => ?_) (fun c9 => absurd rfl c9)
  exact latch _ _ _ _ _ ρ hKK hrel1 hls hl
set_option maxRecDepth 20000 in
set_option maxHeartbeats 4000000 in
theorem law_count {p : Program} {l : Launch} {e : Env} {s : State} {m : MethodId} {below : List Frame} {meth : Method} {c : Code} {D : va_G} {ty : Nat → ClassId} {b L : Nat} {xs : Nat → Int32} {Rel : Option Nat → aSt → aSt → Prop} (hx : p.tables.exec = Jvm.exec) (hb : c.code = code) (hml : c.maxLocals = 4) (hown : s.vm.findClass R_law = some m.cls) (htU : ∀ w ∈ wsL_law, w.before #[Value.ref b] s = true) (hX : va_X b L xs s s.heap) (hbl : b < s.heap.size) (hbA : ¬ (fun q : Nat => s.heap.size ≤ q) b) (hK : va_K D vwCl (a_tys ty) s) (hpu : aPure Rel) {K : Option Nat} (hKK : K = none ∨ K = some 34) {ρ μ : Nat → Nat} {SX SM : aSt} {H : Heap} {locs : List Loc} {ls : Array Slot} {x3 : Int32} (h_1 : vp_in (x3 + 1) L) (h_2 : vp_in (x3 + 2) L) (h_3 : vp_in (x3 + 3) L) (h_4 : vp_in (x3 + 4) L) (hl : lv_has ls 4 [(0, .ref b), (1, .ref (ρ 0)), (2, .ref (μ 0)), (3, .int x3)]) (hrel : Rel K SX SM) (hls : lS D ty s K ρ μ SX SM H locs)
    (latch : ∀ (SX SM : aSt) (H : Heap) (locs : List Loc) (K : Option Nat) (ρ : Nat → Nat), (K = none ∨ K = some 34) → Rel K SX SM → lS D ty s K ρ μ SX SM H locs → lv_has ls 4 [(0, .ref b), (1, .ref (ρ 0)), (2, .ref (μ 0)), (3, .int x3)] → W p l e room_1 s m #[Value.ref b] below meth c H locs (cuK K) (suK K) (lw_Z below #[Value.ref b] s) (F0 m 1014 ls [])) : W p l e room_1 s m #[Value.ref b] below meth c H locs (cuK K) (suK K) (lw_Z below #[Value.ref b] s) (F0 m 991 ls []) := by
  obtain ⟨r, SX1, SM1, e1, e2, hrel1⟩ := hpu.2.2.2.2.2.2.2.2.2.2.2.2.2.2.2.2.2.2.2.2.2.2.2.2.2.2.1 K SX SM (xs (x3 + (1 : Int32)).toNatClampNeg) hrel
  have hl1 := hls
  have hS := hls.2.2.2.2.2.2.2.1
  refine lv_aload_n hx hb dL_law_991 rfl (lv_at hl 1 rfl) ?_
  refine lv_aload_n hx hb dL_law_992 rfl (lv_at hl 0 rfl) ?_
  refine lv_iload_n hx hb dL_law_993 rfl (lv_at hl 3 rfl) ?_
  refine lv_iconst (v := (1 : Int32)) hx hb dL_law_994 (by decide) ?_
  refine lv_iadd hx hb dL_law_995 ?_
  refine va_sld hx hb hX hbl hbA hS h_1 dL_law_996 ?_
  refine l_call (G := (l, D, ty, ρ, xsh K)) (As := [.int (xs (x3 + (1 : Int32)).toNatClampNeg)]) (rest := []) hx hb hml hown htU hK hl1.1 hl1.2.2.1 hl1.2.2.2.2.2.2.2.2.1 hl1.2.2.2.2.1 (fun _ h => h) hl1.2.2.2.2.2.2.2.1 dL_law_997 (aMet_of e1 (m_X6_count (xsh_ft hKK) (xs (x3 + (1 : Int32)).toNatClampNeg) SX)) (gL_V (wU_r40 _ (List.mem_of_getElem? (i := 10) rfl)) (wU_r40 _ (List.mem_of_getElem? (i := 11) rfl)) (wU_r40 _ (List.mem_of_getElem? (i := 12) rfl)) (wU_r1 _ (List.mem_of_getElem? (i := 2) rfl)) (wU_r40 _ (List.mem_of_getElem? (i := 13) rfl))) rfl (xsh_ft (l := l) (D := D) (ty := ty) (ρ := ρ) hKK).1 rfl lw_dd_X6_count rfl hl.1 rfl (Nat.le_of_ble_eq_true rfl) (Nat.le_of_ble_eq_true rfl) (Nat.le_of_ble_eq_true rfl) (cuK_le _) (suK_le _) (fun H1 locs1 hP1 hz1 hk1 hS1 => ?_)
  have hls := hl1.X hP1 hk1 hS1
  clear hl1 hS
  have hl1 := hls
  have hS := hls.2.2.2.2.2.2.2.1
  refine lv_aload_n hx hb dL_law_1000 rfl (lv_at hl 2 rfl) ?_
  refine lv_aload_n hx hb dL_law_1001 rfl (lv_at hl 0 rfl) ?_
  refine lv_iload_n hx hb dL_law_1002 rfl (lv_at hl 3 rfl) ?_
  refine lv_iconst (v := (1 : Int32)) hx hb dL_law_1003 (by decide) ?_
  refine lv_iadd hx hb dL_law_1004 ?_
  refine va_sld hx hb hX hbl hbA hS h_1 dL_law_1005 ?_
  refine l_call (G := (l, D, ty, μ, msh)) (As := [.int (xs (x3 + (1 : Int32)).toNatClampNeg)]) (rest := [.int r]) hx hb hml hown htU hK hl1.2.1 hl1.2.2.2.1 hl1.2.2.2.2.2.2.2.2.2 hl1.2.2.2.2.2.1 (fun _ h => h) hl1.2.2.2.2.2.2.2.1 dL_law_1006 (aMet_of e2 (m_X7_count msh_ok (xs (x3 + (1 : Int32)).toNatClampNeg) SM)) (gL_V (wU_r40 _ (List.mem_of_getElem? (i := 14) rfl)) (wU_r40 _ (List.mem_of_getElem? (i := 15) rfl)) (wU_r40 _ (List.mem_of_getElem? (i := 16) rfl)) (wU_r1 _ (List.mem_of_getElem? (i := 5) rfl)) (wU_r40 _ (List.mem_of_getElem? (i := 17) rfl))) rfl (msh_ok (l := l) (D := D) (ty := ty) (ρ := μ)).1 rfl lw_dd_X7_count rfl hl.1 rfl (Nat.le_of_ble_eq_true rfl) (Nat.le_of_ble_eq_true rfl) (Nat.le_of_ble_eq_true rfl) (cuK_le _) (suK_le _) (fun H1 locs1 hP1 hz1 hk1 hS1 => ?_)
  have hls := hl1.M hP1 hk1 hS1
  refine lv_icmp_eq (tgt := 1014) hx hb dL_law_1009 (by decide) (fun _ => ?_) (fun c9 => absurd rfl c9)
  exact latch _ _ _ _ K ρ hKK hrel1 hls hl

/-! THE LAW: its calls. A0 is all that was made since its start -/
theorem gL_V {c1 : Cond} {own C : String} {idx : Nat} {y : MethodName} (h1 : Cond.methodLink own idx y ∈ wsL_law) (h2 : Cond.instanceMethod y ∈ wsL_law) (h3 : Cond.selects C y y ∈ wsL_law) (h4 : Cond.initialized C ∈ wsL_law) (h : c1 ∈ wsL_law) : GoodIn wsL_law (wsV own idx C y (c1 :: wsL_law)) := by
  intro w hw
  have hm : w ∈ wsL_law := by
    rcases List.mem_append.mp hw with e | e
    · simp only [List.mem_cons, List.not_mem_nil, or_false] at e
      rcases e with rfl | rfl | rfl | rfl
      · exact h1
      · exact h2
      · exact h3
      · exact h4
    · rcases List.mem_cons.mp e with rfl | e
      · exact h
      · exact e
  exact ⟨hm, wU_g hm⟩
/-- one call of the law: G's world is at H; what comes back -/
theorem l_call {β : Type} {p : Program} {e : Env} {s : State} {m : MethodId} {args : Array Value} {below : List Frame} {meth : Method} {c : Code} {H : Heap} {locs : List Loc} {ls : Array Slot} {cu su : Nat} {Q : State → Prop} {G : aG} {y' : MethodName} {bytes : ByteArray} {maxL nL idx n b ci N d' pc : Nat} {ret' : Option FieldType} {ws' wr : List Cond} {mk' : β → Option Value} {r1 : β} {S S1 : aSt} {As rest stk : List Value} {C own : String} {T : u_T} {ss : List aS} {cc : ByteArray} {A0 : Nat → Prop}
    (hx : p.tables.exec = Jvm.exec) (hb : c.code = cc) (hml : c.maxLocals = nL) (hown : s.vm.findClass own = some m.cls) (hts : ∀ w ∈ wsL_law, w.before args s = true) (hK : va_K G.2.1 vwCl (a_tys G.2.2.1) s) (hP : a_H G S H) (hI : a_Inj G.2.2.2.1 G.2.2.2.2.length) (hAm : a_Amb G.2.2.2.1 A0 s s.heap) (hAn : ∀ k, k < G.2.2.2.2.length → A0 (G.2.2.2.1 k)) (hAs : ∀ q, s.heap.size ≤ q → A0 q) (hS : va_S A0 s.heap H locs)
    (hd : decode cc pc = .ok (.invokevirtual idx, 3)) (hm : aMet G y' ws' d' mk' (some (r1, S1)) (.ref b :: As) S) (hg : GoodIn wsL_law (wsV own idx C y' ws')) (hw : ws' = Cond.code y' bytes maxL ret' :: wr) (hsh : G.2.2.2.2[b]? = some (.inr (ci, ss))) (hc : vwCl[ci]? = some (C, T, N))
    (hdd : y'.cls = C ∧ y'.cls ≠ "java/lang/invoke/MethodHandle" ∧ y'.cls ≠ "java/lang/invoke/VarHandle" ∧ (parseMethodDescriptor y'.desc).map (fun d => d.parameters.length) = some n) (hn : As.length = n) (hsz : ls.size = nL) (hst : stk = (As.map (a_v G.2.2.2.1)).reverse ++ .ref (G.2.2.2.1 b) :: rest) (hcat : (rest.map (fun v => v.category)).sum ≤ 8) (hfr : d' + 1 ≤ room_1.frames) (hlo : 8 + (maxL + 11) + 40 * d' ≤ room_1.locals) (hcu : cu ≤ room_1.cells) (hsu : su ≤ room_1.slots)
    (kk : ∀ (H1 : Heap) (locs1 : List Loc), a_H G S1 H1 → H.size ≤ H1.size → (∀ q, q < H.size → ¬ a_A G.2.2.2.1 G.2.2.2.2.length H.size q → H1[q]? = H[q]?) → va_S A0 s.heap H1 locs1 → W p G.1 e room_1 s m args below meth c H1 locs1 cu su Q (F0 m (pc + 3) ls (((mk' r1).map (a_v G.2.2.2.1)).toList ++ rest))) :
    W p G.1 e room_1 s m args below meth c H locs cu su Q (F0 m pc ls stk) := by
  have hmon : ∀ q, a_A G.2.2.2.1 G.2.2.2.2.length H.size q → A0 q := fun q hq => hq.elim (fun ⟨k, hk, e⟩ => e ▸ hAn k hk) (fun z => hAs q (Nat.le_trans hS.1 z))
  have hrun : va_Run p G.1 e room_1 s m args below meth c H locs cu su 0 0 (F0 m pc ls stk) rest (a_Q G mk' (fun r S => r = r1 ∧ S = S1) H.size (Value.ref (G.2.2.2.1 b) :: As.map (a_v G.2.2.2.1)).toArray) (a_A G.2.2.2.1 G.2.2.2.2.length H.size) := by
    refine va_runV (Ts := wsL_law) (own := own) (cc := cc) (nL := nL) (As := As.map (a_v G.2.2.2.1)) (rest := rest) (b := G.2.2.2.1 b) (Pc := a_Pm G (.ref b :: As) S H.size) ⟨hx, hb, hml, hown, hts⟩ (hm _ ⟨_, _, rfl, rfl, rfl⟩ H.size) (cwV n hts hg hw rfl rfl hdd ⟨hfr, hlo⟩) ⟨a_blind, va_recv hK hP hc (a_W_get hsh), ?_⟩ rfl (by rw [List.length_map]; exact hn) hsz hst (by show 2 * 0 + _ ≤ 8; omega) hd ⟨hcu, hsu⟩
    intro U hU hW
    refine ⟨rfl, by rw [hU], by rw [hU]; exact hP, va_K.moved hW.alike hK, hI, ?_⟩
    rw [hU]
    exact (((hAm.kept hS.2.1).narrow hmon).warm hW)
  intro T hT X
  obtain ⟨v, st₀, t, T', L1, h0, X', hL, e1, e2, ⟨⟨r, u, hv, ⟨hp1, hp2⟩, hb⟩, hz, hk⟩, stp⟩ := hrun T hT X
  subst hp1 hp2
  cases hv
  rw [h0] at hz hk
  obtain ⟨t2, a1, b1⟩ := kk T'.heap (locs ++ L1) (by rw [e1]; exact hb) (by rw [e1]; exact hz) (fun q h1 h2 => by rw [e1]; exact hk q h1 h2)
    ⟨Nat.le_trans hS.1 (by rw [e1]; exact hz), fun q h1 h2 => by rw [e1, hk q (Nat.lt_of_lt_of_le h1 hS.1) (fun z => h2 (hmon q z))]; exact hS.2.1 q h1 h2, fun q hq => by
      rcases List.mem_append.mp hq with h | h
      · exact hS.2.2 q h
      · exact hmon _ (hL q h)⟩ T' rfl X'
  exact ⟨t2, stp t2 a1, b1⟩
/-- another world, apart from G's, stays -/
theorem l_keep {D : va_G} {ty : Nat → ClassId} {ρ μ : Nat → Nat} {sh sh2 : List aC} {S2 : aSt} {H H1 : Heap} (hP2 : va_P D vwCl (a_W ty μ sh2 S2) H) (hap : ∀ i j, i < sh.length → j < sh2.length → ρ i ≠ μ j) (hk : ∀ q, q < H.size → ¬ a_A ρ sh.length H.size q → H1[q]? = H[q]?) : va_P D vwCl (a_W ty μ sh2 S2) H1 := by
  refine hP2.kept (fun k q hq => ?_)
  obtain ⟨h1, h2⟩ := a_W_at hq
  have hl := (hP2 k q hq).lt
  refine hk q.1 hl (fun h => ?_)
  rcases h with ⟨i, hi, e⟩ | h
  · exact hap i k hi h1 (by rw [← e, h2])
  · omega
/-- the law's state between two calls -/
def lS (D : va_G) (ty : Nat → ClassId) (s : State) (K : Option Nat) (ρ μ : Nat → Nat) (SX SM : aSt) (H : Heap) (locs : List Loc) : Prop :=
  va_P D vwCl (a_W ty ρ (xsh K) SX) H ∧ va_P D vwCl (a_W ty μ msh SM) H ∧ a_Inj ρ (xsh K).length ∧ a_Inj μ msh.length ∧ (∀ k, k < (xsh K).length → s.heap.size ≤ ρ k) ∧ (∀ k, k < msh.length → s.heap.size ≤ μ k) ∧ (∀ i j, i < (xsh K).length → j < msh.length → ρ i ≠ μ j) ∧ va_S (fun q => s.heap.size ≤ q) s.heap H locs ∧ a_Amb ρ (fun q => s.heap.size ≤ q) s s.heap ∧ a_Amb μ (fun q => s.heap.size ≤ q) s s.heap
theorem xsh_ft {l : Launch} {D : va_G} {ty : Nat → ClassId} {ρ : Nat → Nat} {K : Option Nat} (h : K = none ∨ K = some 34) : aFt (l, D, ty, ρ, xsh K) K := by
  rcases h with rfl | rfl
  · exact xsh_none
  · exact xsh_some
theorem lS.X {D : va_G} {ty : Nat → ClassId} {s : State} {K : Option Nat} {ρ μ : Nat → Nat} {SX SM SX1 : aSt} {H H1 : Heap} {locs locs1 : List Loc} (h : lS D ty s K ρ μ SX SM H locs) (hP : va_P D vwCl (a_W ty ρ (xsh K) SX1) H1) (hk : ∀ q, q < H.size → ¬ a_A ρ (xsh K).length H.size q → H1[q]? = H[q]?) (hS : va_S (fun q => s.heap.size ≤ q) s.heap H1 locs1) : lS D ty s K ρ μ SX1 SM H1 locs1 := by
  obtain ⟨a1, a2, a3, a4, a5, a6, a7, a8, a9, a10⟩ := h
  exact ⟨hP, l_keep a2 a7 hk, a3, a4, a5, a6, a7, hS, a9, a10⟩
theorem lS.M {D : va_G} {ty : Nat → ClassId} {s : State} {K : Option Nat} {ρ μ : Nat → Nat} {SX SM SM1 : aSt} {H H1 : Heap} {locs locs1 : List Loc} (h : lS D ty s K ρ μ SX SM H locs) (hP : va_P D vwCl (a_W ty μ msh SM1) H1) (hk : ∀ q, q < H.size → ¬ a_A μ msh.length H.size q → H1[q]? = H[q]?) (hS : va_S (fun q => s.heap.size ≤ q) s.heap H1 locs1) : lS D ty s K ρ μ SX SM1 H1 locs1 := by
  obtain ⟨a1, a2, a3, a4, a5, a6, a7, a8, a9, a10⟩ := h
  exact ⟨l_keep a1 (fun i j hi hj e => a7 j i hj hi e.symm) hk, hP, a3, a4, a5, a6, a7, hS, a9, a10⟩

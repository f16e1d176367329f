/-! PURE PART: the class's isMet, total -/
theorem q_chk2 {m n : Nat} (h : m < n) (hm : m < 2 ^ 31) : ¬ (nI m < 0 ∨ n ≤ m) := fun e => e.elim (nI_pos hm) (by omega)
theorem sgH_len {t : Nat → Bool} : ∀ (l : List Nat) (st : List Bool) {h : Nat}, sgH l st.length = some h → (ev t l st).length = h
  | [], st, h, e => by
    simp only [sgH, Option.some.injEq] at e
    exact e
  | c :: r, st, h, e => by
    unfold sgH at e
    unfold ev
    by_cases h0 : c = 0
    · rw [if_pos h0] at e
      cases st with
      | nil => simp at e
      | cons a s =>
        rw [if_neg (by simp)] at e
        exact sgH_len r _ (by simpa [ev1, h0] using e)
    · rw [if_neg h0] at e
      by_cases h1 : c = 1 ∨ c = 2
      · rw [if_pos h1] at e
        match st, e with
        | [], e => simp at e
        | [a], e => simp at e
        | a :: b :: s, e =>
          rw [if_neg (by simp)] at e
          refine sgH_len r _ ?_
          rcases h1 with h1 | h1 <;> simpa [ev1, h1] using e
      · rw [if_neg h1] at e
        by_cases h2 : 16 ≤ st.length ∨ 18 * 100 + 3 ≤ c
        · rw [if_pos h2] at e; simp at e
        · rw [if_neg h2] at e
          refine sgH_len r _ ?_
          have h3 : ¬ c = 1 := fun e => h1 (Or.inl e)
          have h4 : ¬ c = 2 := fun e => h1 (Or.inr e)
          simpa [ev1, h0, h3, h4] using e
theorem bn_and1 {a : Bool} {s : List Bool} (h : s.length ≤ 16) : nI (bn (a :: s)) &&& (1 : Int32) = nI a.toNat := by
  have := bn_lt16 (s := a :: s) (by show s.length + 1 ≤ 17; omega)
  rw [pk_andN (k := 1) (by omega) (by decide)]
  congr 1
  show (2 * bn s + a.toNat) % 2 ^ 1 = _
  have h2 : a.toNat ≤ 1 := Bool.toNat_le a
  omega
theorem bn_shr {a : Bool} {s : List Bool} (h : s.length ≤ 16) : ((nI (bn (a :: s))).toUInt32 >>> (((1 : Int32)).toUInt32 &&& Int32.toUInt32 31)).toInt32 = nI (bn s) := by
  have := bn_lt16 (s := a :: s) (by show s.length + 1 ≤ 17; omega)
  rw [pk_ushrN (by omega) 1 1 (by decide)]
  congr 1
  show (2 * bn s + a.toNat) / 2 ^ 1 = _
  have h2 : a.toNat ≤ 1 := Bool.toNat_le a
  omega
theorem q_met {w c i way : Nat} {T : Nat → Nat} {X : aSt} (hT : TX c i T X) (hi : i < 6) (hB : TB T) (hw : way < 8) : ∀ (l : List Nat) (st : List Bool) (pos n h : Nat), sgH l st.length = some h → 0 < h → st.length ≤ 16 → (∀ j (hj : j < l.length), X.1 (w + 4) (pos + j) = sgX l[j]) → pos + l.length ≤ 100 → l.length < n → f_X5_isMet_6 n w (nI (pos + l.length)) c (nI way) (nI (bn st)) (nI pos) X = some (bI ((ev (ts i T way) l st).headD false), X)
  | [], st, pos, n, h, e, hh, hs, hr, hp, hn => by
    obtain ⟨n, rfl⟩ : ∃ m, n = m + 1 := ⟨n - 1, by omega⟩
    simp only [sgH, Option.some.injEq] at e
    match st, e, hs with
    | [], e, _ => simp at e; omega
    | a :: s, e, hs =>
      have hs : s.length + 1 ≤ 16 := hs
      rw [f_X5_isMet_6, List.length_nil, Nat.add_zero, if_pos (Int32.le_refl _)]
      unfold f_X5_isMet_140
      rw [bn_and1 (by omega)]
      cases a <;> rfl
  | x :: r, st, pos, n, h, e, hh, hs, hr, hp, hn => by
    obtain ⟨n, rfl⟩ : ∃ m, n = m + 1 := ⟨n - 1, by omega⟩
    have hp : pos + (r.length + 1) ≤ 100 := hp
    have hn : r.length + 1 < n + 1 := hn
    have x0 : X.1 (w + 4) pos = sgX x := hr 0 (by show 0 < r.length + 1; omega)
    have hr' : ∀ j (hj : j < r.length), X.1 (w + 4) (pos + 1 + j) = sgX r[j] := fun j hj => by
      have := hr (j + 1) (by show j + 1 < r.length + 1; omega)
      rw [show pos + 1 + j = pos + (j + 1) by omega, this]
      rfl
    have ih := fun (st : List Bool) (e : sgH r st.length = some h) (hs : st.length ≤ 16) => q_met hT hi hB hw r st (pos + 1) n h e hh hs hr' (by omega) (by omega)
    rw [show pos + 1 + r.length = pos + (r.length + 1) by omega] at ih
    show f_X5_isMet_6 (n + 1) w (nI (pos + (r.length + 1))) c (nI way) (nI (bn st)) (nI pos) X = some (bI ((ev (ts i T way) r (ev1 (ts i T way) x st)).headD false), X)
    rw [f_X5_isMet_6, if_neg (nI_ge (by omega) (by omega)), if_neg (show ¬ (100 : Int32) ≤ nI pos from nI_ge (a := pos) (b := 100) (by omega) (by omega)), aLt_eq, aLt_eq, if_neg (q_chk (by omega) (by omega)), nI_clamp (by omega), x0]
    unfold f_X5_isMet_89 f_X5_isMet_134
    unfold sgH at e
    by_cases h0 : x = 0
    · subst h0
      rw [if_pos rfl] at e
      match st, e, hs with
      | [], e, _ => simp at e
      | a :: s, e, hs =>
        have hs : s.length + 1 ≤ 16 := hs
        rw [if_neg (by simp)] at e
        rw [show sgX 0 = -1 from rfl, if_neg (by decide), if_neg (by decide), if_pos rfl, aLt_eq, aLt_eq, nI_1, show (1 : Int32) = nI 1 from rfl, nx_xor, show bn (a :: s) = 2 * bn s + a.toNat from rfl, n_xor1]
        exact ih ((!a) :: s) (by simpa using e) hs
    · rw [if_neg h0] at e
      by_cases h1 : x = 1 ∨ x = 2
      · rw [if_pos h1] at e
        match st, e, hs with
        | [], e, _ => simp at e
        | [a], e, _ => simp at e
        | a :: b :: s, e, hs =>
          have hs : s.length + 1 + 1 ≤ 16 := hs
          rw [if_neg (by simp)] at e
          have e : sgH r (s.length + 1) = some h := by simpa using e
          rw [bn_and1 (s := b :: s) (by show s.length + 1 ≤ 16; omega), bn_shr (s := b :: s) (by show s.length + 1 ≤ 16; omega)]
          rcases h1 with rfl | rfl
          · rw [show sgX 1 = -2 from rfl, if_neg (by decide), if_pos rfl]
            cases a with
            | true =>
              rw [if_pos (show nI true.toNat = (1 : Int32) from rfl), aLt_eq, nI_1]
              refine (ih (b :: s) e (by show s.length + 1 ≤ 16; omega)).trans ?_
              show _ = some (bI ((ev (ts i T way) r ((b && true) :: s)).headD false), X)
              rw [Bool.and_true]
            | false =>
              rw [if_neg (show ¬ nI false.toNat = (1 : Int32) by decide), aLt_eq, nI_1]
              have := ih (false :: s) e (by show s.length + 1 ≤ 16; omega)
              have g : nI (bn (b :: s)) &&& (-2 : Int32) = nI (bn (false :: s)) := by
                have := bn_lt16 (s := s) (by omega)
                rw [show (-2 : Int32) = nI 4294967294 from rfl, nx_and, show bn (b :: s) = 2 * bn s + b.toNat from rfl, n_and2 _ _ (by omega)]
                rfl
              rw [g]
              refine this.trans ?_
              show _ = some (bI ((ev (ts i T way) r ((b && false) :: s)).headD false), X)
              rw [Bool.and_false]
          · rw [show sgX 2 = -3 from rfl, if_pos rfl, aLt_eq, aLt_eq, nI_1, nx_or, show bn (b :: s) = 2 * bn s + b.toNat from rfl, n_or1]
            exact ih ((b || a) :: s) e (by show s.length + 1 ≤ 16; omega)
      · rw [if_neg h1] at e
        by_cases h2 : 16 ≤ st.length ∨ 18 * 100 + 3 ≤ x
        · rw [if_pos h2] at e; simp at e
        · rw [if_neg h2] at e
          have h3 : ¬ x = 1 := fun e => h1 (Or.inl e)
          have h4 : ¬ x = 2 := fun e => h1 (Or.inr e)
          have g : sgX x = nI (512 * ((x - 3) % 6) + 128 * ((x - 3) / 6 % 3) + (x - 3) / 18) := by
            unfold sgX
            rw [if_neg h0, if_neg h3, if_neg h4]
          have b1 : (x - 3) % 6 < 6 := Nat.mod_lt _ (by omega)
          have b2 : (x - 3) / 6 % 3 < 3 := Nat.mod_lt _ (by omega)
          have b3 : (x - 3) / 18 < 100 := by omega
          have hz : 512 * ((x - 3) % 6) + 128 * ((x - 3) / 6 % 3) + (x - 3) / 18 < 2 ^ 31 := by omega
          rw [g, if_neg (neg_ne hz (by decide)), if_neg (neg_ne hz (by decide)), if_neg (neg_ne hz (by decide)), if_neg (q_chk2 (by omega) (by omega)), if_neg (q_chk2 (by omega) (by omega)), q_value hT b1 b2 b3, aB_some, q_result (vl_lt hi hw hB _) b1 b2 b3, aB_some, aLt_eq, aLt_eq, nI_1]
          have k1 := bn_lt16 (s := st) (by omega)
          have k2 : ∀ z : Bool, (nI (bn st) <<< ((1 : Int32) &&& 31)) ||| bI z = nI (bn (z :: st)) := fun z => by
            rw [pk_shlN (k := 1) _ (by decide) (by omega), bI_n, nx_or, show bn st * 2 ^ 1 = 2 * bn st + false.toNat by show _ = 2 * bn st + 0; omega, n_or1]
            rfl
          rw [k2]
          have k3 : ev1 (ts i T way) x st = ts i T way x :: st := by
            unfold ev1
            rw [if_neg h0, if_neg h3, if_neg h4]
          rw [k3]
          exact ih (ts i T way x :: st) e (by show st.length + 1 ≤ 16; omega)
def met (i : Nat) (T : Nat → Nat) (way : Nat) (l : List Nat) : Bool := (ev (ts i T way) l []).headD false
def totL (i : Nat) (T : Nat → Nat) (way q : Nat) : List (Nat × Nat × List Nat) → Nat
  | [] => 0
  | c :: r => (if c.1 = q ∧ met i T way c.2.2 = true then c.2.1 else 0) + totL i T way q r
theorem totL_le {i way q : Nat} {T : Nat → Nat} : ∀ l : List (Nat × Nat × List Nat), (∀ c ∈ l, clOk c) → totL i T way q l ≤ 99 * l.length
  | [], _ => Nat.le_refl 0
  | c :: r, h => by
    have h1 := totL_le (i := i) (T := T) (way := way) (q := q) r (fun d hd => h d (List.mem_cons_of_mem _ hd))
    have h2 := (h c List.mem_cons_self).2.1
    show _ + _ ≤ 99 * (r.length + 1)
    have h3 : (if c.1 = q ∧ met i T way c.2.2 = true then c.2.1 else 0) ≤ 99 := by
      split <;> omega
    omega
theorem clE_len : ∀ (o : Nat) (l : List (Nat × Nat × List Nat)), (clEnds o l).length = l.length
  | _, [] => rfl
  | o, c :: r => congrArg (· + 1) (clE_len _ r)
theorem q_total9 {w c i way q nc : Nat} {T : Nat → Nat} {X : aSt} (hT : TX c i T X) (hi : i < 6) (hB : TB T) (hw : way < 8) (hq : q < 3) (h0 : X.1 w 0 = nI nc) (hnc : nc ≤ 10) : ∀ (l : List (Nat × Nat × List Nat)) (k o sum n : Nat), k + l.length = nc → (∀ j (h : j < l.length), X.1 (w + 1) (k + j) = nI l[j].1 ∧ X.1 (w + 2) (k + j) = nI l[j].2.1) → (∀ j (h : j < (clEnds o l).length), X.1 (w + 3) (k + j) = nI (clEnds o l)[j]) → (∀ j (h : j < (l.flatMap (fun c => c.2.2)).length), X.1 (w + 4) (o + j) = sgX (l.flatMap (fun c => c.2.2))[j]) → o + (l.flatMap (fun c => c.2.2)).length ≤ 100 → (∀ c ∈ l, clOk c) → l.length < n → f_X5_total_9 n w (nI q) c (nI way) (nI sum) (nI o) (nI k) X = some (nI (sum + totL i T way q l), X)
  | [], k, o, sum, n, hk, h1, h2, h3, h4, h5, hn => by
    obtain ⟨n, rfl⟩ : ∃ m, n = m + 1 := ⟨n - 1, by omega⟩
    have hk : k = nc := hk
    rw [f_X5_total_9, h0, hk, if_pos (Int32.le_refl _)]
    rfl
  | x :: r, k, o, sum, n, hk, h1, h2, h3, h4, h5, hn => by
    obtain ⟨n, rfl⟩ : ∃ m, n = m + 1 := ⟨n - 1, by omega⟩
    have hk : k + (r.length + 1) = nc := hk
    have hn : r.length + 1 < n + 1 := hn
    have hx := h5 x List.mem_cons_self
    have a1 : X.1 (w + 1) k = nI x.1 ∧ X.1 (w + 2) k = nI x.2.1 := h1 0 (by show 0 < r.length + 1; omega)
    have a2 : X.1 (w + 3) k = nI (o + x.2.2.length) := h2 0 (by rw [clE_len]; show 0 < r.length + 1; omega)
    have hfl : ((x :: r).flatMap (fun c => c.2.2)) = x.2.2 ++ r.flatMap (fun c => c.2.2) := rfl
    have h4' : o + (x.2.2.length + (r.flatMap (fun c => c.2.2)).length) ≤ 100 := by
      rw [hfl, List.length_append] at h4; exact h4
    have a3 : ∀ j (hj : j < x.2.2.length), X.1 (w + 4) (o + j) = sgX x.2.2[j] := fun j hj => by
      have := h3 j (by rw [hfl, List.length_append]; omega)
      rw [this]
      congr 1
      exact List.getElem_append_left hj
    have ih := fun sum => q_total9 hT hi hB hw hq h0 hnc r (k + 1) (o + x.2.2.length) sum n (by omega) (fun j hj => by
      have := h1 (j + 1) (by show j + 1 < r.length + 1; omega)
      rw [show k + 1 + j = k + (j + 1) by omega]
      exact this) (fun j hj => by
      have := h2 (j + 1) (by show j + 1 < (clEnds (o + x.2.2.length) r).length + 1; omega)
      rw [show k + 1 + j = k + (j + 1) by omega]
      exact this) (fun j hj => by
      have := h3 (x.2.2.length + j) (by rw [hfl, List.length_append]; omega)
      rw [show o + x.2.2.length + j = o + (x.2.2.length + j) by omega, this]
      congr 1
      simp only [hfl]
      rw [List.getElem_append_right (by omega)]
      congr 1
      omega) (by omega) (fun d hd => h5 d (List.mem_cons_of_mem _ hd)) (by omega)
    have m := q_met (w := w) hT hi hB hw x.2.2 [] o aF 1 hx.2.2 (by omega) (by simp) a3 (by omega) (by have := aF_big; omega)
    rw [f_X5_total_9, h0, if_neg (nI_ge (by omega) (by omega)), if_neg (q_chk (by omega) (by omega)), nI_clamp (by omega), a1.1, a2]
    have m2 : f_X5_isMet w (nI o) (nI (o + x.2.2.length)) c (nI way) X = some (bI (met i T way x.2.2), X) := m
    have t59 : ∀ sum, f_X5_total_59 (fun l0 l1 l2 l3 l4 l5 l6 S => f_X5_total_9 n l0 l1 l2 l3 l4 l5 l6 S) w (nI q) c (nI way) (nI sum) (nI k) X = some (nI (sum + totL i T way q r), X) := fun sum => by
      unfold f_X5_total_59
      rw [if_neg (q_chk (by omega) (by omega)), aLt_eq, aLt_eq, nI_clamp (by omega), a2, nI_1]
      exact ih sum
    by_cases hc : x.1 = q
    · rw [if_pos (congrArg nI hc), if_neg (q_chk2 (by omega) (by omega)), m2, aB_some]
      cases hb : met i T way x.2.2 with
      | true =>
        rw [if_neg (show ¬ bI true = 0 by decide), if_neg (q_chk2 (by omega) (by omega)), aLt_eq, a1.2, nI_add, t59]
        show _ = some (nI (sum + ((if x.1 = q ∧ met i T way x.2.2 = true then x.2.1 else 0) + totL i T way q r)), X)
        rw [if_pos ⟨hc, hb⟩, Nat.add_assoc]
      | false =>
        rw [if_pos (show bI false = 0 from rfl), t59]
        show _ = some (nI (sum + ((if x.1 = q ∧ met i T way x.2.2 = true then x.2.1 else 0) + totL i T way q r)), X)
        rw [if_neg (by rw [hb]; simp), Nat.zero_add]
    · have h3 := hx.1
      rw [if_neg (fun e => hc ((nI_eq (by omega) (by omega)).mp e)), t59]
      show _ = some (nI (sum + ((if x.1 = q ∧ met i T way x.2.2 = true then x.2.1 else 0) + totL i T way q r)), X)
      rw [if_neg (fun e => hc e.1), Nat.zero_add]
theorem fl_len : ∀ l : List (Nat × Nat × List Nat), (l.flatMap (fun c => c.2.2)).length = (l.map (fun c => c.2.2.length)).sum
  | [] => rfl
  | c :: r => by
    rw [List.flatMap_cons, List.length_append, fl_len r, List.map_cons, List.sum_cons]
theorem q_total {w c i way q : Nat} {T : Nat → Nat} {X : aSt} {W : PW} (hT : TX c i T X) (hi : i < 6) (hB : TB T) (hw : way < 8) (hq : q < 3) (hW : RXW w W X) (hO : wdOk W) : f_X5_total w (nI q) c (nI way) X = some (nI (totL i T way q W.2.2), X) := by
  obtain ⟨o1, o2, o3, o4, o5⟩ := hO
  obtain ⟨r1, r2, r3, r4, r5, r6⟩ := hW
  have := q_total9 hT hi hB hw hq r1 o3 W.2.2 0 0 0 aF (by omega) (fun j h => by rw [Nat.zero_add]; exact r4 j h) (fun j h => by rw [Nat.zero_add]; exact r5 j h) (fun j h => by rw [Nat.zero_add]; exact r6 j h) (by rw [fl_len]; omega) o5 (by have := aF_big; omega)
  rw [Nat.zero_add] at this
  exact this

/-! PURE PART: things, count, goes -/
theorem sar_bit (x : Int64) {p : Nat} (hp : p < 64) : (x >>> ((nI p).toInt64 &&& 63)) &&& (1 : Int64) = if x.toBitVec.getLsbD p then 1 else 0 := by
  rw [wb_c p hp]
  apply wb_inj
  have e : ((x >>> lN p) &&& (1 : Int64)).toBitVec = (x.toBitVec.sshiftRight p) &&& 1#64 := by
    rw [Int64.toBitVec_and, Int64.toBitVec_shiftRight, wb_tb, wb_sm p hp]
    show x.toBitVec.sshiftRight (BitVec.ofNat 64 p).toNat &&& 1#64 = _
    rw [BitVec.toNat_ofNat, Nat.mod_eq_of_lt (by omega)]
  rw [e]
  apply BitVec.eq_of_getLsbD_eq
  intro i hi
  rw [BitVec.getLsbD_and, BitVec.getLsbD_sshiftRight]
  by_cases h0 : i = 0
  · subst h0
    rw [Nat.add_zero]
    cases h : x.toBitVec.getLsbD p with
    | true => simp [h, hp]
    | false => simp [h, hp]
  · have h1 : (1#64 : BitVec 64).getLsbD i = false := by
      simp [h0]
    rw [h1, Bool.and_false]
    cases h : x.toBitVec.getLsbD p with
    | true =>
      show false = (1#64 : BitVec 64).getLsbD i
      exact h1.symm
    | false =>
      show false = (0#64 : BitVec 64).getLsbD i
      simp
theorem lN_bit {n p : Nat} (hp : p < 64) : (lN n).toBitVec.getLsbD p = n.testBit p := by
  rw [wb_tb, BitVec.getLsbD_ofNat]
  simp [hp]
theorem q_things {n : Nat} (x : Int64) : ∀ (e p m : Nat) (M : aSt), p + e = 64 → e < m → (∀ j, p ≤ j → j < 64 → M.1 1 (210 + j) = if n.testBit j then 1 else 0) → (∀ j, j < p → M.1 1 (210 + j) = if x.toBitVec.getLsbD j then 1 else 0) → ∃ M', f_X7_things_5 m x (nI (cB n p)) (nI p) M = some (nI (cB n 64), M') ∧ (∀ k, k ≠ 1 → M'.1 k = M.1 k) ∧ M'.2 = M.2 ∧ (∀ q, (q < 210 ∨ 274 ≤ q) → M'.1 1 q = M.1 1 q) ∧ ∀ j, j < 64 → M'.1 1 (210 + j) = if x.toBitVec.getLsbD j then 1 else 0 := by
  intro e
  induction e with
  | zero =>
    intro p m M h1 h2 h3 h4
    obtain ⟨m, rfl⟩ : ∃ k, m = k + 1 := ⟨m - 1, by omega⟩
    have hp : p = 64 := by omega
    subst hp
    rw [f_X7_things_5, if_pos (show (64 : Int32) ≤ nI 64 from Int32.le_refl _)]
    exact ⟨M, rfl, fun _ _ => rfl, rfl, fun _ _ => rfl, h4⟩
  | succ e ih =>
    intro p m M h1 h2 h3 h4
    obtain ⟨m, rfl⟩ : ∃ k, m = k + 1 := ⟨m - 1, by omega⟩
    have hp : p < 64 := by omega
    have hb := h3 p (Nat.le_refl _) hp
    have hz : ((x >>> ((nI p).toInt64 &&& 63)) &&& (1 : Int64)).toInt32 = if x.toBitVec.getLsbD p then 1 else 0 := by
      rw [sar_bit x hp]
      cases x.toBitVec.getLsbD p <;> rfl
    rw [f_X7_things_5, if_neg (show ¬ (64 : Int32) ≤ nI p from nI_ge (b := 64) hp (by omega)), show (210 : Int32) + nI p = nI (210 + p) from nI_add 210 p, if_neg (q_chk (by omega) (by omega)), aLt_eq, if_neg (q_chk (by omega) (by omega)), aLt_eq, aLt_eq, nI_clamp (by omega), hb, hz, nI_1]
    have e1 : nI (cB n p) + (if n.testBit p then (1 : Int32) else 0) = nI (cB n (p + 1)) := by
      show _ = nI (cB n p + (n.testBit p).toNat)
      cases n.testBit p
      · exact nI_add (cB n p) 0
      · exact nI_add (cB n p) 1
    rw [e1]
    obtain ⟨M', g1, g2, g3, g4, g5⟩ := ih (p + 1) m (aUi M 1 (210 + p) (if x.toBitVec.getLsbD p then 1 else 0)) (by omega) (by omega) (fun j a b => by rw [aUi_ne (by omega)]; exact h3 j (by omega) b) (fun j a => by
      by_cases hj : j = p
      · rw [hj, aUi_at]
      · rw [aUi_ne (by omega)]; exact h4 j (by omega))
    exact ⟨M', g1, fun k hk => by rw [g2 k hk, aUi_row hk], g3, fun q hq => by rw [g4 q hq, aUi_ne (by omega)], g5⟩
theorem pu_things_ok : pu_things Rel := by
  intro K X M x hR
  obtain ⟨⟨P, hV, hX, hM⟩, -, -⟩ := id hR
  obtain ⟨n, hn, ex⟩ := wb_of (pTh P)
  have x0 : X.2 1 0 = lN n := by rw [← ex]; exact hX.2.2.2.2.2.2.2.2.1
  have hs : ∀ j, 0 ≤ j → j < 64 → M.1 1 (210 + j) = if n.testBit j then 1 else 0 := fun j _ hj => by
    have := hM.2.2.2.2.2.2.2.1 j hj
    rw [ex, lN_bit hj] at this
    exact this
  obtain ⟨M', g1, g2, g3, g4, g5⟩ := q_things x 64 0 aF M (by omega) (by have := aF_big; omega) hs (fun j hj => absurd hj (by omega))
  unfold f_X6_things f_X7_things
  rw [x0, q_bc hn, aB_some, aLt_eq]
  refine ⟨_, _, M', rfl, g1, ?_⟩
  have hn6 := hV.1
  have hw := hV.2.1
  have hg := hV.2.2.2.1
  have hbk := hV.2.2.1
  obtain ⟨a1, a2, a3, a4, a5, a6, a7, a8, a9, a10, a11⟩ := hX
  obtain ⟨m1, m2, m3, m4, m5, m6, m7, m8, m9, m10⟩ := hM
  refine Rel_upd (P := (P.1, P.2.1, P.2.2.1, P.2.2.2.1, x, P.2.2.2.2.2)) hR hV ⟨a1, a2, a3, a4, a5, a6, a7, a8, aUl_at, a10, a11⟩ ?_ (fun k _ => rfl) (aUl_row (by omega)) (g2 0 (by omega)) (g2 2 (by omega)) (g2 8 (by omega))
  refine ⟨by rw [g4 0 (by omega)]; exact m1, by rw [g4 1 (by omega)]; exact m2, by rw [g4 2 (by omega)]; exact m3, by rw [g4 3 (by omega)]; exact m4, by rw [g4 5 (by omega)]; exact m5, fun i hi => ?_, fun i hi => ?_, g5, fun i hi => ⟨fun j hj => ?_, fun j hj => ?_⟩, ?_⟩
  · have hi' : i < pG P := hi
    rw [g4 _ (by omega)]; exact m6 i hi
  · have hi' : i < pB P := hi
    rw [g4 _ (by omega)]; exact m7 i hi
  · have hi' : i < pN P := hi
    rw [g4 _ (by omega)]; exact (m9 i hi).1 j hj
  · have hi' : i < pN P := hi
    rw [g4 _ (by omega)]; exact (m9 i hi).2 j hj
  · rcases m10 with ⟨h1, h2⟩ | ⟨q, hq, h1, h2, h3, h4, h5⟩
    · exact Or.inl ⟨by rw [g4 4 (by omega)]; exact h1, h2⟩
    · have hq' : q < pW P := hq
      exact Or.inr ⟨q, hq, by rw [g4 4 (by omega)]; exact h1, by rw [g4 _ (by omega)]; exact h2, by rw [g4 _ (by omega)]; exact h3, by rw [g4 _ (by omega)]; exact h4, fun z hz => by rw [g4 _ (by omega)]; exact h5 z hz⟩
/-- how many stand -/
def sN (st : Nat → Nat) : Nat → Nat
  | 0 => 0
  | n + 1 => sN st n + st n
theorem bc6_t : ∀ b : Fin 64, (f_J6_bitCount_0f7a4 (nI b.1) z0).map Prod.fst = some (nI (cB b.1 6)) := by decide +kernel
theorem q_bc6 {b : Nat} (hb : b < 64) (S : aSt) : f_J6_bitCount_0f7a4 (nI b) S = some (nI (cB b 6), S) := map_S (F := f_J6_bitCount_0f7a4 (nI b)) (fun S S0 => by simp only [f_J6_bitCount_0f7a4, aLt_eq, Option.map_some]) (bc6_t ⟨b, hb⟩) S
theorem cB_ge {n : Nat} {N : Nat} (h : ∀ t, N ≤ t → n.testBit t = false) : ∀ d, cB n (N + d) = cB n N
  | 0 => rfl
  | d + 1 => by
    show cB n (N + d) + (n.testBit (N + d)).toNat = cB n N
    rw [cB_ge h d, h (N + d) (by omega)]
    rfl
theorem cB_sbT {st : Nat → Nat} {N : Nat} (hs : ∀ t, t < N → st t ≤ 1) : ∀ k, k ≤ N → cB (sbT st N) k = sN st k
  | 0, _ => rfl
  | k + 1, hk => by
    have h1 := hs k (by omega)
    show cB (sbT st N) k + ((sbT st N).testBit k).toNat = sN st k + st k
    rw [cB_sbT hs k (by omega), sbT_bit]
    rcases (show st k = 0 ∨ st k = 1 by omega) with h | h
    · rw [decide_eq_false (fun c => c.2 h), h]; rfl
    · rw [decide_eq_true ⟨by omega, by omega⟩, h]; rfl
theorem cB_sb6 {st : Nat → Nat} {N : Nat} (hN : N ≤ 6) (hs : ∀ t, t < N → st t ≤ 1) : cB (sbT st N) 6 = sN st N := by
  obtain ⟨d, hd⟩ : ∃ d, 6 = N + d := ⟨6 - N, by omega⟩
  rw [hd, cB_ge (fun t ht => by rw [sbT_bit, decide_eq_false (fun c => absurd c.1 (by omega))]), cB_sbT hs N (Nat.le_refl _)]
theorem q_many4 {N : Nat} {st pl : Nat → Nat} {M : aSt} (hN : N ≤ 6) (hV : VM N st pl M) : ∀ e t n, t + e = N → e < n → f_X7_standingMany_4 n (nI (sN st t)) (nI t) M = some (nI (sN st N), M) := by
  intro e
  induction e with
  | zero =>
    intro t n h1 h2
    obtain ⟨n, rfl⟩ : ∃ m, n = m + 1 := ⟨n - 1, by omega⟩
    have ht : t = N := by omega
    subst ht
    rw [f_X7_standingMany_4, hV.1, if_pos (Int32.le_refl _)]
  | succ e ih =>
    intro t n h1 h2
    obtain ⟨n, rfl⟩ : ∃ m, n = m + 1 := ⟨n - 1, by omega⟩
    have ht : t < N := by omega
    rw [f_X7_standingMany_4, hV.1, if_neg (nI_ge ht (by omega)), show (152 : Int32) + nI t = nI (152 + t) from nI_add 152 t, if_neg (q_chk (by omega) (by omega)), aLt_eq, aLt_eq, nI_clamp (by omega), (hV.2 t ht).1, nI_add, nI_1]
    exact ih (t + 1) n (by omega) (by omega)
theorem q_many {P : PS} {M : aSt} (hV : PV P) (hM : RM P (M.1 1)) : f_X7_standingMany M = some (nI (sN (stP P) (pN P)), M) := q_many4 hV.1 (VM_of hV hM) (pN P) 0 aF (by omega) (by have := aF_big; have := hV.1; omega)
theorem stP_le {P : PS} (hV : PV P) : ∀ t, t < pN P → stP P t ≤ 1 := fun t ht => (TB_of hV ht).1 7 (by omega)
theorem q_bcS {P : PS} (hV : PV P) (S : aSt) : f_J6_bitCount_0f7a4 (nI (sbP P)) S = some (nI (sN (stP P) (pN P)), S) := by
  rw [q_bc6 (sbP_lt hV)]
  unfold sbP
  rw [cB_sb6 hV.1 (stP_le hV)]
theorem pu_count_ok : pu_count Rel := by
  intro K X M p hR
  obtain ⟨⟨P, hV, hX, hM⟩, ⟨n, hn, b1, b2, b3⟩, -⟩ := id hR
  have x1 : X.1 1 4 = nI (pN P) := hX.1
  have x2 : X.1 1 3 = nI (pW P) := hX.2.1
  have x3 : X.1 1 5 = nI (pB P) := hX.2.2.1
  have x4 : X.1 1 2 = nI (pG P) := hX.2.2.2.1
  have m1 : M.1 1 0 = nI (pN P) := hM.1
  have m2 : M.1 1 1 = nI (pW P) := hM.2.1
  have m3 : M.1 1 2 = nI (pB P) := hM.2.2.1
  have m4 : M.1 1 3 = nI (pG P) := hM.2.2.2.1
  unfold f_X6_count f_X7_count
  rw [x1, x2, x3, x4, b1, m1, m2, m3, m4, b2, q_standing hV hX, q_many hV hM, aB_some, aB_some, q_bcS hV, aB_some]
  refine ⟨if p = 0 then nI (pN P) else if p = 1 then nI (pW P) else if p = 2 then nI (pB P) else if p = 3 then nI (pG P) else if p = 4 then nI n else if p = 5 then nI (sN (stP P) (pN P)) else -1, X, M, ?_, ?_, hR⟩ <;> simp only [ite_S]
/-- places that lie in a row are different -/
theorem bts_lt : ∀ l : List Nat, (∀ p ∈ l, p < 64) → bts l < 2 ^ 64
  | [], _ => by decide
  | p :: l, h => Nat.or_lt_two_pow (Nat.pow_lt_pow_right (by omega) (h p List.mem_cons_self)) (bts_lt l (fun q hq => h q (List.mem_cons_of_mem _ hq)))
theorem bts_bit (q : Nat) : ∀ l : List Nat, (bts l).testBit q = decide (q ∈ l)
  | [] => by simp [bts]
  | p :: l => by
    rw [show bts (p :: l) = 2 ^ p ||| bts l from rfl, Nat.testBit_or, bts_bit q l]
    by_cases h : q = p
    · subst h
      rw [Nat.testBit_two_pow_self, decide_eq_true List.mem_cons_self, Bool.true_or]
    · rw [Nat.testBit_two_pow_of_ne (fun e => h e.symm), Bool.false_or]
      by_cases hq : q ∈ l
      · rw [decide_eq_true hq, decide_eq_true (List.mem_cons_of_mem _ hq)]
      · rw [decide_eq_false hq, decide_eq_false (fun c => by
          rcases List.mem_cons.mp c with c | c
          · exact h c
          · exact hq c)]
theorem cB_or {p n : Nat} (hn : n.testBit p = false) : ∀ k, cB (2 ^ p ||| n) k = cB n k + if p < k then 1 else 0
  | 0 => rfl
  | k + 1 => by
    show cB (2 ^ p ||| n) k + ((2 ^ p ||| n).testBit k).toNat = cB n k + (n.testBit k).toNat + _
    rw [cB_or hn k, Nat.testBit_or]
    rcases Nat.lt_trichotomy p k with h | h | h
    · rw [if_pos h, if_pos (by omega), Nat.testBit_two_pow_of_ne (by omega), Bool.false_or]
      omega
    · subst h
      rw [if_neg (by omega), if_pos (by omega), Nat.testBit_two_pow_self, hn]
      rfl
    · rw [if_neg (by omega), if_neg (by omega), Nat.testBit_two_pow_of_ne (by omega), Bool.false_or]
      omega
theorem cB_bts : ∀ l : List Nat, l.Nodup → (∀ p ∈ l, p < 64) → cB (bts l) 64 = l.length
  | [], _, _ => by decide
  | p :: l, h1, h2 => by
    have h3 := List.nodup_cons.mp h1
    rw [show bts (p :: l) = 2 ^ p ||| bts l from rfl, cB_or (by rw [bts_bit, decide_eq_false h3.1]), cB_bts l h3.2 (fun q hq => h2 q (List.mem_cons_of_mem _ hq)), if_pos (h2 p List.mem_cons_self)]
    rfl
theorem lyL_in {oc : Nat → Option Nat} {w : Nat} (hw : w < 8) : ∀ (n : Nat) (q : Option Nat), (∀ p, q = some p → p < 64) → (∀ p ∈ (lyL oc w n q).1, p < 64) ∧ (lyL oc w n q).1.Nodup ∧ ∀ p0, q = some p0 → ∀ p ∈ (lyL oc w n q).1, if 2 ≤ w ∧ w ≤ 5 then p0 ≤ p else p ≤ p0
  | 0, _, _ => ⟨fun p hp => absurd hp List.not_mem_nil, List.nodup_nil, fun _ _ p hp => absurd hp List.not_mem_nil⟩
  | n + 1, none, _ => ⟨fun p hp => absurd hp List.not_mem_nil, List.nodup_nil, fun _ _ p hp => absurd hp List.not_mem_nil⟩
  | n + 1, some p, h => by
    cases ho : oc p with
    | some t =>
      rw [lyL_hang ho]
      exact ⟨fun p hp => absurd hp List.not_mem_nil, List.nodup_nil, fun _ _ p hp => absurd hp List.not_mem_nil⟩
    | none =>
      rw [lyL_on ho]
      have hp := h p rfl
      obtain ⟨i1, i2, i3⟩ := lyL_in (oc := oc) hw n (np p w) (fun q hq => (np_in hp hw hq).1)
      have key : ∀ q ∈ (lyL oc w n (np p w)).1, if 2 ≤ w ∧ w ≤ 5 then p < q else q < p := fun q hq => by
        cases hnp : np p w with
        | none => rw [hnp, lyL_none] at hq; exact absurd hq List.not_mem_nil
        | some r =>
          have a := (np_in hp hw hnp).2
          have b := i3 r hnp q hq
          split at a <;> split at b <;> split <;> omega
      refine ⟨fun q hq => ?_, List.nodup_cons.mpr ⟨fun c => ?_, i2⟩, fun p0 e q hq => ?_⟩
      · rcases List.mem_cons.mp hq with rfl | hq
        · exact hp
        · exact i1 q hq
      · have := key p c
        split at this <;> omega
      · cases e
        rcases List.mem_cons.mp hq with rfl | hq
        · split <;> omega
        · have := key q hq
          split at this <;> split <;> omega
theorem lyB_in {P : PS} {b i : Nat} {g : Option Nat} (hV : PV P) (hi : i < pN P) : (∀ p ∈ (lyB P b i g).1, p < 64) ∧ (lyB P b i g).1.Nodup := by
  have hB := TB_of hV hi
  have b8 : pT P i 8 ≤ 7 := hB.1 8 (by omega)
  have b2 : pT P i 2 ≤ 63 := hB.1 2 (by omega)
  have hw := wyN_lt (how := gH (pWd P) i (pT P i) g) (a := gA (pWd P) i (pT P i) g) (notch := pT P i 8) (by omega)
  have := lyL_in (oc := ocA b.testBit (plP P) (pN P)) hw (lyN (gH (pWd P) i (pT P i) g) (pT P i 3)) (np (pT P i 2) (wyN (gH (pWd P) i (pT P i) g) (gA (pWd P) i (pT P i) g) (pT P i 8))) (fun q hq => (np_in (by omega) hw hq).1)
  exact ⟨this.1, this.2.1⟩
theorem pu_goes_ok : pu_goes Rel := by
  intro K X M p q hR
  obtain ⟨⟨P, hV, hX, hM⟩, -, -⟩ := id hR
  unfold f_X6_goes f_X7_goes
  rcases tree_cases p hV hX hM with ⟨i, hi, rfl, e1, e2⟩ | ⟨e1, e2⟩
  · rw [e1, e2, aB_some, aB_some, aO_some, if_neg (show ¬ (1 : Int32) = 0 by decide)]
    rcases in_cases q 7 (by omega) X M with ⟨a, ha, rfl, o1, i1⟩ | ⟨-, o1, i1⟩
    · rw [show (7 : Int32) = nI 7 from rfl, o1, i1, aB_some, aB_some, if_pos rfl, if_neg (show ¬ (1 : Int32) = 0 by decide)]
      rcases st_cases hV hX hM hi with ⟨s1, s2, -⟩ | ⟨s1, s2, -⟩
      · rw [if_pos s1, s2, aB_some, if_pos rfl]
        exact ⟨_, X, M, rfl, rfl, hR⟩
      · obtain ⟨X1, r1, r2, r3, r4, r5⟩ := q_run none hV hX hi hg0
        obtain ⟨M1, m1, m2, m3, m4, m5, m6⟩ := q_goesNow none hV hM hi hg0
        obtain ⟨l1, l2⟩ := lyB_in (b := sbP P) (g := none) hV hi
        rw [if_neg s1, s2, aB_some, if_neg (show ¬ (1 : Int32) = 0 by decide), show (-1 : Int32) = gG none from rfl, r1, m1, aB_some, aB_some, r4, r5, m4, m5, r3.1, r3.2.1, r3.2.2.1, r3.2.2.2.1, r3.2.2.2.2.1, r3.2.2.2.2.2, m3.1, m3.2.1, m3.2.2.1, m3.2.2.2.1, m3.2.2.2.2.1, m3.2.2.2.2.2, q_bc (bts_lt _ l1), aB_some, cB_bts _ l2 l1]
        simp only [ite_S]
        exact ⟨_, X1, M1, rfl, rfl, Rel_look hR r2.xf m2.mf⟩
    · rw [show (7 : Int32) = nI 7 from rfl, o1, i1, aB_some, aB_some, if_neg (show ¬ (1 : Int32) = 0 by decide), if_pos rfl]
      exact ⟨_, X, M, rfl, rfl, hR⟩
  · rw [e1, e2, aB_some, aB_some, if_pos rfl, aO_none]
    exact ⟨_, X, M, rfl, rfl, hR⟩

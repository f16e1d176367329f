/-! PURE PART: order -/
theorem vl_congr {i : Nat} {T T' : Nat → Nat} (h0 : T' 0 = T 0) (h3 : T' 3 = T 3) (h4 : T' 4 = T 4) (h6 : T' 6 = T 6) (w : Nat) : vl i T' w = vl i T w := by
  funext l
  unfold vl
  rw [h0, h3, h4, h6]
theorem tot_congr {i : Nat} {T T' : Nat → Nat} (h0 : T' 0 = T 0) (h3 : T' 3 = T 3) (h4 : T' 4 = T 4) (h6 : T' 6 = T 6) (w q : Nat) : ∀ l, totL i T' w q l = totL i T w q l
  | [] => rfl
  | c :: r => by
    have ht : ts i T' w = ts i T w := by
      funext c
      unfold ts
      rw [vl_congr h0 h3 h4 h6]
    show (if c.1 = q ∧ met i T' w c.2.2 = true then c.2.1 else 0) + totL i T' w q r = (if c.1 = q ∧ met i T w c.2.2 = true then c.2.1 else 0) + totL i T w q r
    rw [tot_congr h0 h3 h4 h6 w q r]
    unfold met
    rw [ht]
theorem g_congr {W : PW} {i : Nat} {T T' : Nat → Nat} (h : ∀ j, j ≠ 7 → T' j = T j) (g : Option Nat) : gH W i T' g = gH W i T g ∧ gA W i T' g = gA W i T g := by
  have tc : ∀ w q l, totL i T' w q l = totL i T w q l := tot_congr (h 0 (by omega)) (h 3 (by omega)) (h 4 (by omega)) (h 6 (by omega))
  have eF : gF0 W i T' g = gF0 W i T g := by
    unfold gF0
    rw [h 4 (by omega), h 5 (by omega), h 8 (by omega), h 11 (by omega), h 12 (by omega), h 13 (by omega)]
    cases g with
    | none => rfl
    | some w => simp only [tc]
  have eA : gA0 W i T' g = gA0 W i T g := by
    unfold gA0
    rw [h 4 (by omega), h 5 (by omega), h 8 (by omega), h 9 (by omega), h 10 (by omega), h 12 (by omega), h 13 (by omega)]
    cases g with
    | none => rfl
    | some w => simp only [tc]
  have e2 : gA W i T' g = gA W i T g := by
    unfold gA
    rw [eA, h 0 (by omega), h 1 (by omega)]
  refine ⟨?_, e2⟩
  unfold gH
  rw [e2]
  unfold gF gS gP gS0 gP0
  rw [eF, h 0 (by omega), h 1 (by omega), h 8 (by omega), h 9 (by omega), h 10 (by omega), h 6 (by omega), tc, tc]
/-- those of b stand -/
def stS (P : PS) (b : Nat) : PS := (P.1, P.2.1, P.2.2.1, (fun a j => if j = 7 then (b.testBit a).toNat else pT P a j), P.2.2.2.2.1, P.2.2.2.2.2)
theorem pT_stS (P : PS) (b a j : Nat) : pT (stS P b) a j = if j = 7 then (b.testBit a).toNat else pT P a j := rfl
theorem PV_stS {P : PS} (b : Nat) (h : PV P) : PV (stS P b) := by
  obtain ⟨a1, a2, a3, a4, a5, a6, a7, a8, a9, a10⟩ := h
  refine ⟨a1, a2, a3, a4, a5, a6, a7, fun a ha => ⟨fun j hj => ?_, ?_⟩, fun a c ha hc e => a9 a c ha hc e, a10⟩
  · rw [pT_stS]
    by_cases c : j = 7
    · rw [if_pos c, c]; exact Bool.toNat_le _
    · rw [if_neg c]; exact (a8 a ha).1 j hj
  · rw [pT_stS, if_neg (by omega)]; exact (a8 a ha).2
theorem sbP_stS {P : PS} {b : Nat} (hb : ∀ t, b.testBit t = true → t < pN P) : sbP (stS P b) = b := by
  apply Nat.eq_of_testBit_eq
  intro t
  unfold sbP
  rw [sbT_bit]
  show decide (t < pN P ∧ (b.testBit t).toNat ≠ 0) = b.testBit t
  cases h : b.testBit t with
  | true => exact decide_eq_true ⟨hb t h, by decide⟩
  | false => exact decide_eq_false (fun c => c.2 rfl)
theorem gS_H (P : PS) (b i : Nat) (g : Option Nat) : gH (pWd (stS P b)) i (pT (stS P b) i) g = gH (pWd P) i (pT P i) g ∧ gA (pWd (stS P b)) i (pT (stS P b) i) g = gA (pWd P) i (pT P i) g := g_congr (fun j hj => by rw [pT_stS, if_neg hj]) g
theorem lyB_stS (P : PS) (b b' i : Nat) (g : Option Nat) : lyB (stS P b) b' i g = lyB P b' i g := by
  unfold lyB
  rw [(gS_H P b i g).1, (gS_H P b i g).2]
  rfl
theorem RM_stS {P : PS} {s : Nat → Int32} (hV : PV P) (h : RM P s) : RM (stS P (sbP P)) s := by
  obtain ⟨m1, m2, m3, m4, m5, m6, m7, m8, m9, m10⟩ := h
  refine ⟨m1, m2, m3, m4, m5, m6, m7, m8, fun i hi => ⟨fun j hj => ?_, fun k hk => ?_⟩, m10⟩
  · have hi : i < pN P := hi
    rw [pT_stS]
    by_cases c : j = 7
    · have l7 := stP_le hV i hi
      rw [if_pos c, c, (m9 i hi).1 7 (by omega)]
      congr 1
      unfold sbP
      rw [sbT_bit]
      show stP P i = _
      rcases (show stP P i = 0 ∨ stP P i = 1 by omega) with e | e
      · rw [decide_eq_false (fun c => c.2 e), e]; rfl
      · rw [decide_eq_true ⟨hi, by omega⟩, e]; rfl
    · rw [if_neg c]; exact (m9 i hi).1 j hj
  · rw [pT_stS, if_neg (by omega)]; exact (m9 i hi).2 k hk
theorem xb_t : ∀ b : Fin 64, ∀ u : Fin 6, b.1.testBit u.1 = true → (nI b.1 &&& (nI (2 ^ u.1) ^^^ (-1 : Int32)) = nI (b.1 ^^^ 2 ^ u.1) ∧ cB (b.1 ^^^ 2 ^ u.1) 6 + 1 = cB b.1 6 ∧ b.1 ^^^ 2 ^ u.1 < 64) := by decide +kernel
theorem xb_bit {b u : Nat} (t : Nat) (hu : b.testBit u = true) : (b ^^^ 2 ^ u).testBit t = (b.testBit t && !(decide (t = u))) := by
  rw [Nat.testBit_xor, Nat.testBit_two_pow]
  by_cases c : t = u
  · subst c
    rw [hu, decide_eq_true rfl]
    rfl
  · rw [decide_eq_false c, decide_eq_false (fun e => c e.symm)]
    simp
theorem RM_xb {P : PS} {b u : Nat} {s : Nat → Int32} (hV : PV P) (hu : u < pN P) (hb : b.testBit u = true) (h : RM (stS P b) s) : RM (stS P (b ^^^ 2 ^ u)) (upd s (152 + u) 0) := by
  have := RM_tree (i := u) (j := 7) (v := 0) (d := 152 + u) (PV_stS b hV) h (Or.inl ⟨by omega, by omega⟩) hu
  have e : setT (stS P b) u 7 0 = stS P (b ^^^ 2 ^ u) := by
    have e2 : (fun a j => if a = u ∧ j = 7 then 0 else pT (stS P b) a j) = (fun a j => if j = 7 then ((b ^^^ 2 ^ u).testBit a).toNat else pT P a j) := by
      funext a j
      rw [pT_stS, xb_bit a hb]
      by_cases c : j = 7
      · rw [if_pos c, if_pos c]
        by_cases d : a = u
        · rw [if_pos ⟨d, c⟩, decide_eq_true d]; simp
        · rw [if_neg (fun e => d e.1), decide_eq_false d]; simp
      · rw [if_neg c, if_neg c, if_neg (fun e => c e.2)]
    unfold setT
    rw [e2]
    rfl
  rw [e] at this
  exact this
/-- whether one of b can go now -/
def frB (P : PS) (b t : Nat) : Bool := decide (gH (pWd P) t (pT P t) none ≠ 2) && ((lyB P b t none).2 == none)
def ffB (P : PS) (b : Nat) : Nat → Nat → Option Nat
  | 0, _ => none
  | e + 1, t => if b.testBit t = true ∧ frB P b t = true then some t else ffB P b e (t + 1)
theorem ffB_some {P : PS} {b : Nat} : ∀ {e t u : Nat}, ffB P b e t = some u → t ≤ u ∧ u < t + e ∧ b.testBit u = true ∧ frB P b u = true ∧ ∀ s, t ≤ s → s < u → ¬ (b.testBit s = true ∧ frB P b s = true)
  | 0, _, _, h => by cases h
  | e + 1, t, u, h => by
    unfold ffB at h
    by_cases c : b.testBit t = true ∧ frB P b t = true
    · rw [if_pos c] at h
      cases h
      exact ⟨by omega, by omega, c.1, c.2, fun s h1 h2 => by omega⟩
    · rw [if_neg c] at h
      obtain ⟨h1, h2, h3, h4, h5⟩ := ffB_some h
      refine ⟨by omega, by omega, h3, h4, fun s k1 k2 => ?_⟩
      by_cases d : s = t
      · rw [d]; exact c
      · exact h5 s (by omega) k2
theorem ffB_none {P : PS} {b : Nat} : ∀ {e t : Nat}, ffB P b e t = none → ∀ s, t ≤ s → s < t + e → ¬ (b.testBit s = true ∧ frB P b s = true)
  | 0, t, _, s, h1, h2 => by omega
  | e + 1, t, h, s, h1, h2 => by
    unfold ffB at h
    by_cases c : b.testBit t = true ∧ frB P b t = true
    · rw [if_pos c] at h
      cases h
    · rw [if_neg c] at h
      by_cases d : s = t
      · rw [d]; exact c
      · exact ffB_none h s (by omega) (by omega)
def grB (P : PS) : Nat → Nat → Option (List Nat)
  | 0, _ => some []
  | e + 1, b => match ffB P b (pN P) 0 with
    | none => none
    | some u => (grB P e (b ^^^ 2 ^ u)).map (fun l => u :: l)
theorem grB_len {P : PS} : ∀ {e b : Nat} {l : List Nat}, grB P e b = some l → l.length = e
  | 0, b, l, h => by
    have h : some [] = some l := h
    cases h
    rfl
  | e + 1, b, l, h => by
    unfold grB at h
    cases hf : ffB P b (pN P) 0 with
    | none => rw [hf] at h; cases h
    | some u =>
      rw [hf] at h
      dsimp only at h
      cases hg : grB P e (b ^^^ 2 ^ u) with
      | none => rw [hg] at h; cases h
      | some l' =>
        rw [hg] at h
        cases h
        show l'.length + 1 = e + 1
        rw [grB_len hg]
theorem lyL_mono {oc oc' : Nat → Option Nat} {w : Nat} (h : ∀ p, oc p = none → oc' p = none) : ∀ (n : Nat) (q : Option Nat), (lyL oc w n q).2 = none → (lyL oc' w n q).2 = none
  | 0, _, _ => rfl
  | n + 1, none, _ => rfl
  | n + 1, some p, hn => by
    cases ho : oc p with
    | some t =>
      rw [lyL_hang ho] at hn
      cases hn
    | none =>
      rw [lyL_on ho] at hn
      rw [lyL_on (h p ho)]
      exact lyL_mono h n _ hn
theorem frB_mono {P : PS} {b L t : Nat} (h : ∀ s, L.testBit s = true → b.testBit s = true) (hf : frB P b t = true) : frB P L t = true := by
  unfold frB at hf ⊢
  rw [Bool.and_eq_true] at hf ⊢
  refine ⟨hf.1, ?_⟩
  have h2 : (lyB P b t none).2 = none := by simpa using hf.2
  have : (lyB P L t none).2 = none := by
    unfold lyB at h2 ⊢
    refine lyL_mono (fun p hp => ?_) _ _ h2
    unfold ocA at hp ⊢
    rw [ocG_none] at hp ⊢
    intro u h1 h3 c
    exact hp u h1 h3 ⟨h u c.1, c.2⟩
  rw [this]
  rfl
/-- none of L can go as long as all of L stand -/
def stL (P : PS) (L : Nat) : Prop := (∃ t, t < pN P ∧ L.testBit t = true) ∧ ∀ t, t < pN P → L.testBit t = true → frB P L t = false
theorem cB0_t : ∀ b : Fin 64, cB b.1 6 = 0 → b.1 = 0 := by decide +kernel
theorem cBs_t : ∀ b : Fin 64, cB b.1 6 ≠ 0 → ∃ t : Fin 6, b.1.testBit t.1 = true := by decide +kernel
theorem gr_stuck {P : PS} (hN : pN P ≤ 6) : ∀ (e b : Nat), b < 64 → (∀ t, b.testBit t = true → t < pN P) → cB b 6 = e → grB P e b = none → ∃ L, stL P L ∧ ∀ t, L.testBit t = true → b.testBit t = true
  | 0, b, _, _, _, h => by cases h
  | e + 1, b, hb, hbN, hc, h => by
    unfold grB at h
    cases hf : ffB P b (pN P) 0 with
    | none =>
      obtain ⟨t, ht⟩ := cBs_t ⟨b, hb⟩ (by show cB b 6 ≠ 0; omega)
      refine ⟨b, ⟨⟨t.1, hbN t.1 ht, ht⟩, fun s hs hsb => ?_⟩, fun _ h => h⟩
      rw [← Bool.not_eq_true]
      exact fun c => ffB_none hf s (by omega) (by omega) ⟨hsb, c⟩
    | some u =>
      rw [hf] at h
      dsimp only at h
      obtain ⟨u1, u2, u3, u4, u5⟩ := ffB_some hf
      obtain ⟨x1, x2, x3⟩ := xb_t ⟨b, hb⟩ ⟨u, by omega⟩ u3
      simp only at x2 x3
      have hsub : ∀ t, (b ^^^ 2 ^ u).testBit t = true → b.testBit t = true := fun t ht => by
        rw [xb_bit t u3, Bool.and_eq_true] at ht
        exact ht.1
      cases hg : grB P e (b ^^^ 2 ^ u) with
      | some l => rw [hg] at h; cases h
      | none =>
        obtain ⟨L, l1, l2⟩ := gr_stuck hN e (b ^^^ 2 ^ u) x3 (fun t ht => hbN t (hsub t ht)) (by omega) hg
        exact ⟨L, l1, fun t ht => hsub t (l2 t ht)⟩
theorem stuck_gr {P : PS} (hN : pN P ≤ 6) {L : Nat} (hL : stL P L) : ∀ (e b : Nat), b < 64 → (∀ t, b.testBit t = true → t < pN P) → cB b 6 = e → (∀ t, L.testBit t = true → b.testBit t = true) → grB P e b = none
  | 0, b, hb, _, hc, hs => by
    obtain ⟨⟨t, t1, t2⟩, -⟩ := hL
    have h0 : b = 0 := cB0_t ⟨b, hb⟩ hc
    have := hs t t2
    rw [h0, Nat.zero_testBit] at this
    cases this
  | e + 1, b, hb, hbN, hc, hs => by
    unfold grB
    cases hf : ffB P b (pN P) 0 with
    | none => rfl
    | some u =>
      dsimp only
      obtain ⟨u1, u2, u3, u4, u5⟩ := ffB_some hf
      obtain ⟨x1, x2, x3⟩ := xb_t ⟨b, hb⟩ ⟨u, by omega⟩ u3
      simp only at x2 x3
      have hu : ¬ L.testBit u = true := fun c => by
        have := frB_mono hs u4
        rw [hL.2 u (hbN u u3) c] at this
        cases this
      rw [stuck_gr hN hL e (b ^^^ 2 ^ u) x3 (fun t ht => hbN t (by rw [xb_bit t u3, Bool.and_eq_true] at ht; exact ht.1)) (by omega) (fun t ht => by
        rw [xb_bit t u3, hs t ht, decide_eq_false (show ¬ t = u from fun e => hu (by rw [← e]; exact ht))]
        rfl)]
      rfl
theorem gr_free {P : PS} (hN : pN P ≤ 6) {e b t : Nat} (hb : b < 64) (hbN : ∀ t, b.testBit t = true → t < pN P) (hc : cB b 6 = e + 1) (h : grB P (e + 1) b = none) (ht : b.testBit t = true) (hf : frB P b t = true) : grB P e (b ^^^ 2 ^ t) = none := by
  obtain ⟨L, l1, l2⟩ := gr_stuck hN (e + 1) b hb hbN hc h
  have htN := hbN t ht
  obtain ⟨x1, x2, x3⟩ := xb_t ⟨b, hb⟩ ⟨t, by omega⟩ ht
  simp only at x2 x3
  have hu : ¬ L.testBit t = true := fun c => by
    have := frB_mono l2 hf
    rw [l1.2 t htN c] at this
    cases this
  refine stuck_gr hN l1 e (b ^^^ 2 ^ t) x3 (fun s hs => hbN s (by rw [xb_bit s ht, Bool.and_eq_true] at hs; exact hs.1)) (by omega) (fun s hs => ?_)
  rw [xb_bit s ht, l2 s hs, decide_eq_false (show ¬ s = t from fun e => hu (by rw [← e]; exact hs))]
  rfl
theorem lyL_snd {oc : Nat → Option Nat} {w t : Nat} : ∀ (n : Nat) (q : Option Nat), (lyL oc w n q).2 = some t → ∃ p, oc p = some t
  | 0, _, h => by cases h
  | n + 1, none, h => by cases h
  | n + 1, some p, h => by
    cases ho : oc p with
    | some s =>
      rw [lyL_hang ho] at h
      exact ⟨p, by rw [ho]; exact h⟩
    | none =>
      rw [lyL_on ho] at h
      exact lyL_snd n _ h
theorem hang_I {P : PS} {b t : Nat} {g : Option Nat} (hN : pN P ≤ 6) : oI (lyB P b t g).2 = -5 ↔ (lyB P b t g).2 = none := by
  cases h : (lyB P b t g).2 with
  | none => exact ⟨fun _ => rfl, fun _ => rfl⟩
  | some u =>
    obtain ⟨p, hp⟩ := lyL_snd _ _ h
    have hu := (ocG_lt hp).2
    exact ⟨fun e => absurd e (neg_ne (x := -5) (show u < 2 ^ 31 by omega) (by decide)), fun e => by cases e⟩

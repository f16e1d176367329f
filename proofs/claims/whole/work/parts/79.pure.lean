/-! PURE PART: numbers of bits; count, things, goes -/
theorem wb_tb (n : Nat) : (lN n).toBitVec = BitVec.ofNat 64 n := rfl
theorem wb_inj {a b : Int64} (h : a.toBitVec = b.toBitVec) : a = b := Int64.toBitVec_inj.mp h
theorem wb_tn {n : Nat} (h : n < 2 ^ 64) : (lN n).toBitVec.toNat = n := by rw [wb_tb, BitVec.toNat_ofNat, Nat.mod_eq_of_lt h]
theorem wb_of (x : Int64) : ∃ n, n < 2 ^ 64 ∧ x = lN n := ⟨x.toBitVec.toNat, x.toBitVec.isLt, wb_inj (by rw [wb_tb]; simp)⟩
theorem wb_c : ∀ k, k < 64 → ((nI k).toInt64 &&& 63) = lN k := by decide +kernel
theorem wb_cu : ∀ k, k < 64 → ((nI k).toInt64.toUInt64 &&& Int64.toUInt64 63) = UInt64.ofNat k := by decide +kernel
theorem wb_sm : ∀ k, k < 64 → (BitVec.ofNat 64 k).smod 64 = BitVec.ofNat 64 k := by decide +kernel
theorem wb_shr {n k : Nat} (hn : n < 2 ^ 64) (hk : k < 64) : ((lN n).toUInt64 >>> ((nI k).toInt64.toUInt64 &&& Int64.toUInt64 63)).toInt64 = lN (n / 2 ^ k) := by
  rw [wb_cu k hk]
  apply wb_inj
  apply BitVec.eq_of_toNat_eq
  show ((lN n).toUInt64 >>> UInt64.ofNat k).toNat = (BitVec.ofNat 64 _).toNat
  have h1 : (UInt64.ofNat k).toNat = k := by
    show (BitVec.ofNat 64 k).toNat = k
    rw [BitVec.toNat_ofNat, Nat.mod_eq_of_lt (by omega)]
  have h2 : (lN n).toUInt64.toNat = n := wb_tn hn
  rw [UInt64.toNat_shiftRight, h1, h2, Nat.mod_eq_of_lt hk, Nat.shiftRight_eq_div_pow, BitVec.toNat_ofNat, Nat.mod_eq_of_lt (Nat.lt_of_le_of_lt (Nat.div_le_self _ _) hn)]
theorem wb_and {a b : Nat} (ha : a < 2 ^ 64) (hb : b < 2 ^ 64) : lN a &&& lN b = lN (a &&& b) := by
  apply wb_inj
  rw [Int64.toBitVec_and, wb_tb, wb_tb, wb_tb]
  apply BitVec.eq_of_toNat_eq
  rw [BitVec.toNat_and, BitVec.toNat_ofNat, BitVec.toNat_ofNat, BitVec.toNat_ofNat, Nat.mod_eq_of_lt ha, Nat.mod_eq_of_lt hb, Nat.mod_eq_of_lt (Nat.and_lt_two_pow _ hb)]
/-- how many of the lowest k bits -/
def cB (n : Nat) : Nat → Nat
  | 0 => 0
  | k + 1 => cB n k + (n.testBit k).toNat
theorem cB_le (n : Nat) : ∀ k, cB n k ≤ k
  | 0 => Nat.le_refl 0
  | k + 1 => by
    have h := cB_le n k
    have h2 : (n.testBit k).toNat ≤ 1 := Bool.toNat_le _
    show cB n k + (n.testBit k).toNat ≤ k + 1
    omega
theorem cB_congr {n m : Nat} : ∀ k, (∀ j, j < k → n.testBit j = m.testBit j) → cB n k = cB m k
  | 0, _ => rfl
  | k + 1, h => by
    show cB n k + (n.testBit k).toNat = cB m k + (m.testBit k).toNat
    rw [cB_congr k (fun j hj => h j (by omega)), h k (by omega)]
theorem tb_lo {a b j : Nat} (ha : a < 256) : (a + 256 * b).testBit j = if j < 8 then a.testBit j else b.testBit (j - 8) := by
  rw [show a + 256 * b = 2 ^ 8 * b + a by omega]
  exact Nat.testBit_two_pow_mul_add b ha j
theorem cB_8 {a b : Nat} (ha : a < 256) : ∀ k, cB (a + 256 * b) (8 + k) = cB a 8 + cB b k
  | 0 => by
    show cB (a + 256 * b) 8 = cB a 8 + 0
    rw [Nat.add_zero]
    exact cB_congr 8 (fun j hj => by rw [tb_lo ha, if_pos hj])
  | k + 1 => by
    show cB (a + 256 * b) (8 + k) + ((a + 256 * b).testBit (8 + k)).toNat = cB a 8 + (cB b k + (b.testBit k).toNat)
    rw [cB_8 ha k, tb_lo ha, if_neg (by omega), show 8 + k - 8 = k by omega]
    omega
theorem and_lo {a b c d : Nat} (ha : a < 256) (hc : c < 256) : (a + 256 * b) &&& (c + 256 * d) = (a &&& c) + 256 * (b &&& d) := by
  apply Nat.eq_of_testBit_eq
  intro j
  have h : a &&& c < 256 := Nat.lt_of_le_of_lt Nat.and_le_left ha
  rw [Nat.testBit_and, tb_lo ha, tb_lo hc, tb_lo h]
  by_cases hj : j < 8
  · rw [if_pos hj, if_pos hj, if_pos hj, Nat.testBit_and]
  · rw [if_neg hj, if_neg hj, if_neg hj, Nat.testBit_and]
def mk8 (c : Nat) : Nat → Nat
  | 0 => 0
  | k + 1 => c + 256 * mk8 c k
def s_1 (k n : Nat) : Nat := n - ((n / 2) &&& mk8 85 k)
def s_2 (k n : Nat) : Nat := (n &&& mk8 51 k) + ((n / 4) &&& mk8 51 k)
def s_3 (k n : Nat) : Nat := (n + n / 16) &&& mk8 15 k
set_option maxRecDepth 20000 in
theorem s1_t : ∀ a : Fin 256, ((a.1 / 2 + 128 * 0) &&& 85 = (a.1 / 2) &&& 85) ∧ ((a.1 / 2 + 128 * 1) &&& 85 = (a.1 / 2) &&& 85) ∧ (a.1 / 2) &&& 85 ≤ a.1 := by decide +kernel
theorem s1_r {a b k : Nat} (ha : a < 256) : s_1 (k + 1) (a + 256 * b) = (a - ((a / 2) &&& 85)) + 256 * s_1 k b := by
  obtain ⟨t1, t2, t3⟩ := s1_t ⟨a, ha⟩
  simp only at t1 t2 t3
  have e : (a + 256 * b) / 2 = (a / 2 + 128 * (b % 2)) + 256 * (b / 2) := by omega
  have h2 : (b / 2) &&& mk8 85 k ≤ b := Nat.le_trans Nat.and_le_left (Nat.div_le_self b 2)
  have e3 : (a / 2 + 128 * (b % 2)) &&& 85 = (a / 2) &&& 85 := by
    rcases (show b % 2 = 0 ∨ b % 2 = 1 by omega) with h | h <;> rw [h]
    · exact t1
    · exact t2
  unfold s_1
  rw [e, show mk8 85 (k + 1) = 85 + 256 * mk8 85 k from rfl, and_lo (by omega) (by omega), e3]
  omega
set_option maxRecDepth 20000 in
theorem s2_t : ∀ a : Fin 256, ∀ e : Fin 4, ((a.1 / 4 + 64 * e.1) &&& 51 = (a.1 / 4) &&& 51) ∧ (a.1 &&& 51) + ((a.1 / 4) &&& 51) < 256 := by decide +kernel
theorem s2_r {a b k : Nat} (ha : a < 256) : s_2 (k + 1) (a + 256 * b) = ((a &&& 51) + ((a / 4) &&& 51)) + 256 * s_2 k b := by
  have e : (a + 256 * b) / 4 = (a / 4 + 64 * (b % 4)) + 256 * (b / 4) := by omega
  have e3 : (a / 4 + 64 * (b % 4)) &&& 51 = (a / 4) &&& 51 := (s2_t ⟨a, ha⟩ ⟨b % 4, by omega⟩).1
  unfold s_2
  rw [e, show mk8 51 (k + 1) = 51 + 256 * mk8 51 k from rfl, and_lo (by omega) (by omega), and_lo (by omega) (by omega), e3]
  omega
/-- both halves of every byte are 4 at most -/
def lo4 : Nat → Nat → Prop
  | 0, n => n = 0
  | k + 1, n => n % 16 ≤ 4 ∧ n / 16 % 16 ≤ 4 ∧ lo4 k (n / 256)
theorem s3_t : ∀ x : Fin 5, ∀ y : Fin 5, ∀ e : Fin 5, ((x.1 + 16 * y.1) + y.1 + 16 * e.1) &&& 15 = x.1 + y.1 := by decide +kernel
theorem lo4_16 : ∀ k n, lo4 k n → n % 16 ≤ 4
  | 0, n, h => by
    have h : n = 0 := h
    omega
  | k + 1, n, h => h.1
theorem s3_r {a b k : Nat} (ha : a < 256) (hx : a % 16 ≤ 4) (hy : a / 16 ≤ 4) (hb : lo4 k b) : s_3 (k + 1) (a + 256 * b) = (a % 16 + a / 16) + 256 * s_3 k b := by
  have h4 := lo4_16 k b hb
  have e : (a + 256 * b) / 16 = (a / 16 + 16 * (b % 16)) + 256 * (b / 16) := by omega
  have e3 : ((a % 16 + 16 * (a / 16)) + a / 16 + 16 * (b % 16)) &&& 15 = a % 16 + a / 16 := s3_t ⟨a % 16, by omega⟩ ⟨a / 16, by omega⟩ ⟨b % 16, by omega⟩
  rw [show a % 16 + 16 * (a / 16) = a by omega] at e3
  unfold s_3
  rw [e, show mk8 15 (k + 1) = 15 + 256 * mk8 15 k from rfl, show a + 256 * b + (a / 16 + 16 * (b % 16) + 256 * (b / 16)) = (a + a / 16 + 16 * (b % 16)) + 256 * (b + b / 16) by omega, and_lo (by omega) (by omega), e3]
def s12 (a : Nat) : Nat := ((a - ((a / 2) &&& 85)) &&& 51) + (((a - ((a / 2) &&& 85)) / 4) &&& 51)
set_option maxRecDepth 20000 in
theorem s12_t : ∀ a : Fin 256, a.1 - ((a.1 / 2) &&& 85) < 256 ∧ s12 a.1 < 256 ∧ s12 a.1 % 16 ≤ 4 ∧ s12 a.1 / 16 ≤ 4 ∧ s12 a.1 % 16 + s12 a.1 / 16 = cB a.1 8 := by decide +kernel
def vB : Nat → Nat → Nat
  | 0, _ => 0
  | k + 1, n => cB (n % 256) 8 + 256 * vB k (n / 256)
theorem s12_lo : ∀ k n, n < 256 ^ k → lo4 k (s_2 k (s_1 k n))
  | 0, n, h => by
    have h0 : n = 0 := by simpa using h
    subst h0
    show s_2 0 (s_1 0 0) = 0
    decide
  | k + 1, n, h => by
    have hq : n / 256 < 256 ^ k := by
      rw [Nat.pow_succ] at h
      omega
    obtain ⟨t1, t2, t3, t4, t5⟩ := s12_t ⟨n % 256, by omega⟩
    have ih := s12_lo k (n / 256) hq
    have e := s1_r (a := n % 256) (b := n / 256) (k := k) (by omega)
    rw [show n % 256 + 256 * (n / 256) = n by omega] at e
    rw [e, s2_r t1]
    refine ⟨?_, ?_, ?_⟩
    · show (s12 (n % 256) + 256 * _) % 16 ≤ 4
      simp only at t3
      omega
    · show (s12 (n % 256) + 256 * _) / 16 % 16 ≤ 4
      simp only at t2 t4
      omega
    · show lo4 k ((s12 (n % 256) + 256 * _) / 256)
      simp only at t2
      rw [show ∀ z, (s12 (n % 256) + 256 * z) / 256 = z from fun z => by omega]
      exact ih
theorem s123 : ∀ k n, n < 256 ^ k → s_3 k (s_2 k (s_1 k n)) = vB k n
  | 0, n, h => by
    have h0 : n = 0 := by simpa using h
    subst h0
    decide
  | k + 1, n, h => by
    have hq : n / 256 < 256 ^ k := by
      rw [Nat.pow_succ] at h
      omega
    obtain ⟨t1, t2, t3, t4, t5⟩ := s12_t ⟨n % 256, by omega⟩
    have ih := s123 k (n / 256) hq
    have e := s1_r (a := n % 256) (b := n / 256) (k := k) (by omega)
    rw [show n % 256 + 256 * (n / 256) = n by omega] at e
    rw [e, s2_r t1]
    have e3 := s3_r (a := s12 (n % 256)) (b := s_2 k (s_1 k (n / 256))) (k := k) t2 t3 t4 (s12_lo k (n / 256) hq)
    rw [ih, t5] at e3
    exact e3
theorem vB_cB {n : Nat} (k : Nat) : cB n (8 * (k + 1)) = cB (n % 256) 8 + cB (n / 256) (8 * k) := by
  have := cB_8 (a := n % 256) (b := n / 256) (by omega) (8 * k)
  rw [show n % 256 + 256 * (n / 256) = n by omega, show 8 + 8 * k = 8 * (k + 1) by omega] at this
  exact this
theorem vB_sum {n : Nat} : ∃ c0 c1 c2 c3 c4 c5 c6 c7 : Nat, c0 ≤ 8 ∧ c1 ≤ 8 ∧ c2 ≤ 8 ∧ c3 ≤ 8 ∧ c4 ≤ 8 ∧ c5 ≤ 8 ∧ c6 ≤ 8 ∧ c7 ≤ 8 ∧ vB 8 n = c0 + 256 * (c1 + 256 * (c2 + 256 * (c3 + 256 * (c4 + 256 * (c5 + 256 * (c6 + 256 * c7)))))) ∧ cB n 64 = c0 + (c1 + (c2 + (c3 + (c4 + (c5 + (c6 + c7)))))) := by
  refine ⟨cB (n % 256) 8, cB (n / 256 % 256) 8, cB (n / 256 / 256 % 256) 8, cB (n / 256 / 256 / 256 % 256) 8, cB (n / 256 / 256 / 256 / 256 % 256) 8, cB (n / 256 / 256 / 256 / 256 / 256 % 256) 8, cB (n / 256 / 256 / 256 / 256 / 256 / 256 % 256) 8, cB (n / 256 / 256 / 256 / 256 / 256 / 256 / 256 % 256) 8, cB_le _ 8, cB_le _ 8, cB_le _ 8, cB_le _ 8, cB_le _ 8, cB_le _ 8, cB_le _ 8, cB_le _ 8, ?_, ?_⟩
  · rfl
  · have r := fun (m k : Nat) => vB_cB (n := m) k
    rw [show (64 : Nat) = 8 * (7 + 1) from rfl, r, show 8 * 7 = 8 * (6 + 1) from rfl, r, show 8 * 6 = 8 * (5 + 1) from rfl, r, show 8 * 5 = 8 * (4 + 1) from rfl, r, show 8 * 4 = 8 * (3 + 1) from rfl, r, show 8 * 3 = 8 * (2 + 1) from rfl, r, show 8 * 2 = 8 * (1 + 1) from rfl, r, show 8 * 1 = 8 * (0 + 1) from rfl, r]
    rfl
theorem q_bcN {c0 c1 c2 c3 c4 c5 c6 c7 : Nat} (l0 : c0 ≤ 8) (l1 : c1 ≤ 8) (l2 : c2 ≤ 8) (l3 : c3 ≤ 8) (l4 : c4 ≤ 8) (l5 : c5 ≤ 8) (l6 : c6 ≤ 8) (l7 : c7 ≤ 8) : ((c0 + 256 * (c1 + 256 * (c2 + 256 * (c3 + 256 * (c4 + 256 * (c5 + 256 * (c6 + 256 * c7))))))) + (c0 + 256 * (c1 + 256 * (c2 + 256 * (c3 + 256 * (c4 + 256 * (c5 + 256 * (c6 + 256 * c7))))))) / 2 ^ 8 + ((c0 + 256 * (c1 + 256 * (c2 + 256 * (c3 + 256 * (c4 + 256 * (c5 + 256 * (c6 + 256 * c7))))))) + (c0 + 256 * (c1 + 256 * (c2 + 256 * (c3 + 256 * (c4 + 256 * (c5 + 256 * (c6 + 256 * c7))))))) / 2 ^ 8) / 2 ^ 16 + ((c0 + 256 * (c1 + 256 * (c2 + 256 * (c3 + 256 * (c4 + 256 * (c5 + 256 * (c6 + 256 * c7))))))) + (c0 + 256 * (c1 + 256 * (c2 + 256 * (c3 + 256 * (c4 + 256 * (c5 + 256 * (c6 + 256 * c7))))))) / 2 ^ 8 + ((c0 + 256 * (c1 + 256 * (c2 + 256 * (c3 + 256 * (c4 + 256 * (c5 + 256 * (c6 + 256 * c7))))))) + (c0 + 256 * (c1 + 256 * (c2 + 256 * (c3 + 256 * (c4 + 256 * (c5 + 256 * (c6 + 256 * c7))))))) / 2 ^ 8) / 2 ^ 16) / 2 ^ 32) % 128 = c0 + (c1 + (c2 + (c3 + (c4 + (c5 + (c6 + c7)))))) := by
  have d8 : ∀ a b : Nat, a < 256 → (a + 256 * b) / 2 ^ 8 = b := fun a b h => by omega
  have d16 : ∀ a b : Nat, a < 65536 → (a + 65536 * b) / 2 ^ 16 = b := fun a b h => by omega
  have d32 : ∀ a b : Nat, a < 4294967296 → (a + 4294967296 * b) / 2 ^ 32 = b := fun a b h => by omega
  rw [d8 c0 _ (by omega)]
  have e1 : c0 + 256 * (c1 + 256 * (c2 + 256 * (c3 + 256 * (c4 + 256 * (c5 + 256 * (c6 + 256 * c7)))))) + (c1 + 256 * (c2 + 256 * (c3 + 256 * (c4 + 256 * (c5 + 256 * (c6 + 256 * c7)))))) = ((c0 + c1) + 256 * (c1 + c2)) + 65536 * ((c2 + c3) + 256 * ((c3 + c4) + 256 * ((c4 + c5) + 256 * ((c5 + c6) + 256 * ((c6 + c7) + 256 * c7))))) := by omega
  rw [e1, d16 _ _ (by omega)]
  have e2 : c0 + c1 + 256 * (c1 + c2) + 65536 * (c2 + c3 + 256 * (c3 + c4 + 256 * (c4 + c5 + 256 * (c5 + c6 + 256 * (c6 + c7 + 256 * c7))))) + (c2 + c3 + 256 * (c3 + c4 + 256 * (c4 + c5 + 256 * (c5 + c6 + 256 * (c6 + c7 + 256 * c7))))) = ((c0 + c1 + c2 + c3) + 256 * ((c1 + c2 + c3 + c4) + 256 * ((c2 + c3 + c4 + c5) + 256 * (c3 + c4 + c5 + c6)))) + 4294967296 * ((c4 + c5 + c6 + c7) + 256 * ((c5 + c6 + c7) + 256 * ((c6 + c7) + 256 * c7))) := by omega
  rw [e2, d32 _ _ (by omega)]
  omega
theorem q_bc {n : Nat} (hn : n < 2 ^ 64) (S : aSt) : f_J13_bitCount_95d88 (lN n) S = some (nI (cB n 64), S) := by
  obtain ⟨c0, c1, c2, c3, c4, c5, c6, c7, l0, l1, l2, l3, l4, l5, l6, l7, hv, hc⟩ := vB_sum (n := n)
  have e123 := s123 8 n (by simpa using hn)
  have a1 : ((n / 2) &&& mk8 85 8) ≤ n := Nat.le_trans Nat.and_le_left (Nat.div_le_self n 2)
  have m85 : mk8 85 8 = 6148914691236517205 := by decide
  have m51 : mk8 51 8 = 3689348814741910323 := by decide
  have m15 : mk8 15 8 = 1085102592571150095 := by decide
  have b1 : s_1 8 n < 2 ^ 64 := Nat.lt_of_le_of_lt (Nat.sub_le _ _) hn
  have b2a : s_1 8 n &&& mk8 51 8 ≤ mk8 51 8 := Nat.and_le_right
  have b2b : (s_1 8 n / 4) &&& mk8 51 8 ≤ mk8 51 8 := Nat.and_le_right
  have b2 : s_2 8 (s_1 8 n) ≤ 2 * 3689348814741910323 := by
    unfold s_2
    omega
  have sh : ∀ m k : Nat, m < 2 ^ 64 → k < 64 → ((lN m).toUInt64 >>> ((nI k).toInt64.toUInt64 &&& Int64.toUInt64 63)).toInt64 = lN (m / 2 ^ k) := fun m k h1 h2 => wb_shr h1 h2
  unfold f_J13_bitCount_95d88
  rw [aLt_eq, show (1 : Int32) = nI 1 from rfl, sh n 1 hn (by omega), show (6148914691236517205 : Int64) = lN (mk8 85 8) by rw [m85]; rfl, wb_and (by omega) (by omega), lN_sub (show n / 2 ^ 1 &&& mk8 85 8 ≤ n from a1), show n - (n / 2 ^ 1 &&& mk8 85 8) = s_1 8 n from rfl]
  rw [aLt_eq, show (2 : Int32) = nI 2 from rfl, sh _ 2 b1 (by omega), show (3689348814741910323 : Int64) = lN (mk8 51 8) by rw [m51]; rfl, wb_and b1 (by omega), wb_and (by omega) (by omega), lN_add, show (s_1 8 n &&& mk8 51 8) + (s_1 8 n / 2 ^ 2 &&& mk8 51 8) = s_2 8 (s_1 8 n) from rfl]
  rw [aLt_eq, show (4 : Int32) = nI 4 from rfl, sh _ 4 (by omega) (by omega), lN_add, show (1085102592571150095 : Int64) = lN (mk8 15 8) by rw [m15]; rfl, wb_and (by omega) (by omega), show (s_2 8 (s_1 8 n) + s_2 8 (s_1 8 n) / 2 ^ 4 &&& mk8 15 8) = s_3 8 (s_2 8 (s_1 8 n)) from rfl, e123, hv]
  rw [aLt_eq, show (8 : Int32) = nI 8 from rfl, sh _ 8 (by omega) (by omega), lN_add, aLt_eq, show (16 : Int32) = nI 16 from rfl, sh _ 16 (by omega) (by omega), lN_add, aLt_eq, show (32 : Int32) = nI 32 from rfl, sh _ 32 (by omega) (by omega), lN_add, lN_i]
  have e0 := q_bcN l0 l1 l2 l3 l4 l5 l6 l7
  rw [hc, ← e0]
  generalize (c0 + 256 * (c1 + 256 * (c2 + 256 * (c3 + 256 * (c4 + 256 * (c5 + 256 * (c6 + 256 * c7))))))) = z
  have y7 : ∀ y : Nat, nI y &&& (127 : Int32) = nI (y % 128) := fun y => by
    have y8 : y &&& 127 = y % 128 := Nat.and_two_pow_sub_one_eq_mod y 7
    rw [show (127 : Int32) = nI 127 from rfl, nx_and, y8]
  rw [y7]

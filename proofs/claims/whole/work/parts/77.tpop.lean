section TPO
def bnF (a : Nat) : Nat :=
  let x1 := Nat.sub a (Nat.land (Nat.shiftRight a 1) 1431655765)
  let x2 := Nat.add (Nat.land x1 858993459) (Nat.land (Nat.shiftRight x1 2) 858993459)
  let x3 := Nat.land (Nat.add x2 (Nat.shiftRight x2 4)) 252645135
  let x4 := Nat.add x3 (Nat.shiftRight x3 8)
  let x5 := Nat.add x4 (Nat.shiftRight x4 16)
  Nat.land x5 63
def q4 (a t : Nat) : Nat := Nat.add (Nat.add (Nat.add (Nat.mod (Nat.shiftRight a (4 * t)) 2) (Nat.mod (Nat.shiftRight a (4 * t + 1)) 2)) (Nat.mod (Nat.shiftRight a (4 * t + 2)) 2)) (Nat.mod (Nat.shiftRight a (4 * t + 3)) 2)
def tst (a : Nat) : Bool := Nat.beq (bnF a) (Nat.add (Nat.add (Nat.add (q4 a 0) (q4 a 1)) (q4 a 2)) (q4 a 3))
def tre : Nat → Nat → Bool
  | 0, a => tst a
  | k + 1, a => and (tre k (Nat.mul 2 a)) (tre k (Nat.add (Nat.mul 2 a) 1))
set_option maxRecDepth 100000 in
theorem tre_16 : tre 16 0 = true := by decide +kernel
set_option maxRecDepth 100000 in
theorem tre_all : ∀ (k a : Nat), tre k a = true → ∀ j, j < 2 ^ k → tst (a * 2 ^ k + j) = true
  | 0, a, h, j, hj => by
    have : j = 0 := by rw [Nat.pow_zero] at hj; omega
    subst this
    rw [Nat.pow_zero, Nat.mul_one, Nat.add_zero]
    exact h
  | k + 1, a, h, j, hj => by
    have h2 : tre k (2 * a) = true ∧ tre k (2 * a + 1) = true := Bool.and_eq_true_iff.mp h
    rw [Nat.pow_succ] at hj ⊢
    by_cases e : j < 2 ^ k
    · have := tre_all k (2 * a) h2.1 j e
      rw [show a * (2 ^ k * 2) + j = 2 * a * 2 ^ k + j by rw [Nat.mul_comm (2 ^ k) 2, ← Nat.mul_assoc, Nat.mul_comm a 2]]
      exact this
    · have := tre_all k (2 * a + 1) h2.2 (j - 2 ^ k) (by omega)
      rw [show a * (2 ^ k * 2) + j = (2 * a + 1) * 2 ^ k + (j - 2 ^ k) by rw [Nat.mul_comm (2 ^ k) 2, ← Nat.mul_assoc, Nat.mul_comm a 2, Nat.add_mul, Nat.one_mul]; omega]
      exact this
set_option maxRecDepth 100000 in
theorem nI_and (a b : Nat) : nI a &&& nI b = nI (a &&& b) := by
  refine tb_ext (fun p hp => ?_)
  rw [tb_and, tb_nI hp, tb_nI hp, tb_nI hp, Nat.testBit_and]
set_option maxRecDepth 100000 in
theorem ush_nI {a k : Nat} (ha : a < 2 ^ 31) (hk : k = 1 ∨ k = 2 ∨ k = 4 ∨ k = 8 ∨ k = 16) : ush (nI a) (nI k) = nI (a >>> k) := by
  have e1 : (nI a).toUInt32.toNat = a := by
    show (UInt32.ofNat a).toNat = a
    rw [UInt32.toNat_ofNat']
    exact Nat.mod_eq_of_lt (by omega)
  have e2 : ((nI k).toUInt32 &&& Int32.toUInt32 31).toNat % 32 = k := by rcases hk with rfl | rfl | rfl | rfl | rfl <;> decide
  have e3 : ((nI a).toUInt32 >>> ((nI k).toUInt32 &&& Int32.toUInt32 31)).toNat = a >>> k := by rw [UInt32.toNat_shiftRight, e1, e2]
  show ((nI a).toUInt32 >>> ((nI k).toUInt32 &&& Int32.toUInt32 31)).toInt32 = _
  have e4 : (nI a).toUInt32 >>> ((nI k).toUInt32 &&& Int32.toUInt32 31) = UInt32.ofNat (a >>> k) := by rw [← e3, UInt32.ofNat_toNat]
  rw [e4]
  rfl
set_option maxRecDepth 100000 in
theorem bcF_N {a : Nat} (ha : a < 65536) : bcF (nI a) = nI (bnF a) := by
  have s1 : a >>> 1 &&& 1431655765 ≤ a := Nat.le_trans Nat.and_le_left (by rw [Nat.shiftRight_eq_div_pow]; exact Nat.div_le_self _ _)
  have c1 : bc1 (nI a) = nI (a - (a >>> 1 &&& 1431655765)) := by
    unfold bc1
    rw [show ush (nI a) 1 = nI (a >>> 1) from ush_nI (k := 1) (by omega) (by omega), show (1431655765 : Int32) = nI 1431655765 from rfl, nI_and, nI_sub s1]
  generalize hx1 : a - (a >>> 1 &&& 1431655765) = x1 at c1
  have b1 : x1 < 65536 := by omega
  have c2 : bc2 (nI x1) = nI ((x1 &&& 858993459) + (x1 >>> 2 &&& 858993459)) := by
    unfold bc2
    rw [show ush (nI x1) 2 = nI (x1 >>> 2) from ush_nI (k := 2) (by omega) (by omega), show (858993459 : Int32) = nI 858993459 from rfl, nI_and, nI_and, nI_add]
  have b2 : (x1 &&& 858993459) + (x1 >>> 2 &&& 858993459) < 131072 := by
    have l1 : x1 &&& 858993459 ≤ x1 := Nat.and_le_left
    have l2 : x1 >>> 2 &&& 858993459 ≤ x1 := Nat.le_trans Nat.and_le_left (by rw [Nat.shiftRight_eq_div_pow]; exact Nat.div_le_self _ _)
    omega
  generalize hx2 : (x1 &&& 858993459) + (x1 >>> 2 &&& 858993459) = x2 at c2 b2
  have c3 : bc3 (nI x2) = nI ((x2 + x2 >>> 4) &&& 252645135) := by
    unfold bc3
    rw [show ush (nI x2) 4 = nI (x2 >>> 4) from ush_nI (k := 4) (by omega) (by omega), show (252645135 : Int32) = nI 252645135 from rfl, nI_add, nI_and]
  have b3 : (x2 + x2 >>> 4) &&& 252645135 < 262144 := by
    have l1 : (x2 + x2 >>> 4) &&& 252645135 ≤ x2 + x2 >>> 4 := Nat.and_le_left
    have l2 : x2 >>> 4 ≤ x2 := by rw [Nat.shiftRight_eq_div_pow]; exact Nat.div_le_self _ _
    omega
  generalize hx3 : (x2 + x2 >>> 4) &&& 252645135 = x3 at c3 b3
  have c4 : bc4 (nI x3) = nI (x3 + x3 >>> 8) := by
    unfold bc4
    rw [show ush (nI x3) 8 = nI (x3 >>> 8) from ush_nI (k := 8) (by omega) (by omega), nI_add]
  have b4 : x3 + x3 >>> 8 < 524288 := by
    have l2 : x3 >>> 8 ≤ x3 := by rw [Nat.shiftRight_eq_div_pow]; exact Nat.div_le_self _ _
    omega
  generalize hx4 : x3 + x3 >>> 8 = x4 at c4 b4
  have c5 : bc5 (nI x4) = nI (x4 + x4 >>> 16) := by
    unfold bc5
    rw [show ush (nI x4) 16 = nI (x4 >>> 16) from ush_nI (k := 16) (by omega) (by omega), nI_add]
  unfold bcF
  rw [c1, c2, c3, c4, c5, show (63 : Int32) = nI 63 from rfl, nI_and]
  subst hx4 hx3 hx2 hx1
  rfl
def p4 (x : Int32) (t : Nat) : Nat := (if tb x (4 * t) = true then 1 else 0) + (if tb x (4 * t + 1) = true then 1 else 0) + (if tb x (4 * t + 2) = true then 1 else 0) + (if tb x (4 * t + 3) = true then 1 else 0)
set_option maxRecDepth 100000 in
theorem p4_q4 {a t : Nat} (ht : t < 4) : p4 (nI a) t = q4 a t := by
  have e : ∀ i, i < 32 → (if tb (nI a) i = true then 1 else 0) = Nat.mod (Nat.shiftRight a i) 2 := by
    intro i hi
    rw [tb_nI hi, Nat.testBit_eq_decide_div_mod_eq]
    show _ = (a >>> i) % 2
    rw [Nat.shiftRight_eq_div_pow]
    by_cases q : a / 2 ^ i % 2 = 1
    · rw [decide_eq_true q, q]; rfl
    · rw [decide_eq_false q]
      show 0 = _
      omega
  unfold p4 q4
  rw [e _ (by omega), e _ (by omega), e _ (by omega), e _ (by omega)]
  rfl
set_option maxRecDepth 100000 in
theorem nI_ex {x : Int32} {k : Nat} (h : ∀ p, k ≤ p → p < 32 → tb x p = false) : ∃ a, a < 2 ^ k ∧ x = nI a := by
  refine ⟨x.toBitVec.toNat, ?_, ?_⟩
  · refine Nat.lt_pow_two_of_testBit _ (fun i hi => ?_)
    by_cases e : i < 32
    · exact h i hi e
    · exact BitVec.getLsbD_of_ge _ _ (by omega)
  · apply Int32.toBitVec_inj.mp
    show _ = BitVec.ofNat 32 x.toBitVec.toNat
    rw [BitVec.ofNat_toNat, BitVec.setWidth_eq]
set_option maxRecDepth 100000 in
theorem bcF_16 {x : Int32} (h : ∀ p, 16 ≤ p → p < 32 → tb x p = false) : bcF x = nI (p4 x 0 + p4 x 1 + p4 x 2 + p4 x 3) := by
  obtain ⟨a, ha, rfl⟩ := nI_ex h
  rw [bcF_N ha, p4_q4 (by decide), p4_q4 (by decide), p4_q4 (by decide), p4_q4 (by decide)]
  have := tre_all 16 0 tre_16 a ha
  rw [Nat.zero_mul, Nat.zero_add] at this
  exact congrArg nI (Nat.eq_of_beq_eq_true this)
end TPO

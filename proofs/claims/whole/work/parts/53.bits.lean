section BIT
theorem nI_sub {a b : Nat} (h : b ≤ a) : nI a - nI b = nI (a - b) := by
  have e : nI a = nI (a - b) + nI b := by rw [nI_add, Nat.sub_add_cancel h]
  rw [e, Int32.add_sub_cancel]
theorem nI_div {a b : Nat} (ha : a < 2 ^ 31) (hb : b < 2 ^ 31) : nI a / nI b = nI (a / b) := by
  have hq : a / b < 2 ^ 31 := Nat.lt_of_le_of_lt (Nat.div_le_self a b) ha
  apply Int32.toInt_inj.mp
  rw [Int32.toInt_div, nI_toInt ha, nI_toInt hb, nI_toInt hq, ← Int.ofNat_tdiv]
  generalize a / b = q at hq ⊢
  apply Int.bmod_eq_of_le <;> omega
theorem nI_rem {a b : Nat} (ha : a < 2 ^ 31) (hb : b < 2 ^ 31) : nI a - nI a / nI b * nI b = nI (a % b) := by
  rw [nI_div ha hb, pk_mul, nI_sub (Nat.div_mul_le_self a b)]
  congr 1
  have := Nat.div_add_mod a b
  rw [Nat.mul_comm] at this
  omega
theorem nI_31 {M : Nat} (h : M < 32) : nI M &&& 31 = nI M := by
  have : ∀ M : Fin 32, nI M.1 &&& 31 = nI M.1 := by decide +kernel
  exact this ⟨M, h⟩
theorem nI_sm {M : Nat} (h : M < 32) : ((nI M).toBitVec.smod 32).toNat = M := by
  have : ∀ M : Fin 32, ((nI M.1).toBitVec.smod 32).toNat = M.1 := by decide +kernel
  exact this ⟨M, h⟩
theorem shr_bv {x : Int32} {M : Nat} (h : M < 32) : (x >>> (nI M &&& 31)).toBitVec = x.toBitVec.sshiftRight M := by
  rw [nI_31 h, Int32.toBitVec_shiftRight, BitVec.sshiftRight', nI_sm h]
theorem nI_shr {a M : Nat} (ha : a < 2 ^ 31) (h : M < 32) : nI a >>> (nI M &&& 31) = nI (a / 2 ^ M) := by
  have hq : a / 2 ^ M < 2 ^ 31 := Nat.lt_of_le_of_lt (Nat.div_le_self _ _) ha
  apply Int32.toInt_inj.mp
  rw [nI_toInt hq]
  show ((nI a >>> (nI M &&& 31)).toBitVec).toInt = _
  rw [shr_bv h, BitVec.toInt_sshiftRight]
  show (nI a).toInt >>> M = _
  rw [nI_toInt ha, Int.shiftRight_eq_div_pow]
  norm_cast
/-- the bit p of x -/
def tb (x : Int32) (p : Nat) : Bool := x.toBitVec.getLsbD p
theorem tb_ext {x y : Int32} (h : ∀ p, p < 32 → tb x p = tb y p) : x = y := by
  apply Int32.toBitVec_inj.mp
  exact BitVec.eq_of_getLsbD_eq h
theorem tb_and (x y : Int32) (p : Nat) : tb (x &&& y) p = (tb x p && tb y p) := by unfold tb; rw [Int32.toBitVec_and, BitVec.getLsbD_and]
theorem tb_or (x y : Int32) (p : Nat) : tb (x ||| y) p = (tb x p || tb y p) := by unfold tb; rw [Int32.toBitVec_or, BitVec.getLsbD_or]
theorem tb_xor (x y : Int32) (p : Nat) : tb (x ^^^ y) p = (tb x p ^^ tb y p) := by unfold tb; rw [Int32.toBitVec_xor, BitVec.getLsbD_xor]
theorem tb_m1 {p : Nat} (h : p < 32) : tb (-1) p = true := by
  have : ∀ p : Fin 32, tb (-1) p.1 = true := by decide +kernel
  exact this ⟨p, h⟩
theorem tb_0 (p : Nat) : tb 0 p = false := by unfold tb; simp
theorem tb_not (x : Int32) {p : Nat} (h : p < 32) : tb (x ^^^ (-1)) p = !tb x p := by rw [tb_xor, tb_m1 h, Bool.xor_true]
theorem tb_z {x : Int32} : x = 0 ↔ ∀ p, p < 32 → tb x p = false := ⟨fun h p _ => by rw [h, tb_0], fun h => tb_ext (fun p hp => by rw [h p hp, tb_0])⟩
theorem tb_nz {x : Int32} : ¬ x = 0 ↔ ∃ p, p < 32 ∧ tb x p = true := by
  rw [tb_z]
  constructor
  · intro h
    refine Decidable.byContradiction (fun q => h (fun p hp => ?_))
    cases e : tb x p
    · rfl
    · exact absurd ⟨p, hp, e⟩ q
  · rintro ⟨p, hp, e⟩ q
    rw [q p hp] at e
    exact absurd e (by decide)
theorem tb_1 {p : Nat} (h : p < 32) : tb 1 p = decide (p = 0) := by
  have : ∀ p : Fin 32, tb 1 p.1 = decide (p.1 = 0) := by decide +kernel
  exact this ⟨p, h⟩
theorem tb_shl {c p : Nat} (hc : c < 32) (h : p < 32) : tb (1 <<< (nI c &&& 31)) p = decide (p = c) := by
  have : ∀ c p : Fin 32, tb (1 <<< (nI c.1 &&& 31)) p.1 = decide (p.1 = c.1) := by decide +kernel
  exact this ⟨c, hc⟩ ⟨p, h⟩
theorem tb_full {c p : Nat} (hc : c < 31) (h : p < 32) : tb (1 <<< (nI c &&& 31) - 1) p = decide (p < c) := by
  have : ∀ c : Fin 31, ∀ p : Fin 32, tb (1 <<< (nI c.1 &&& 31) - 1) p.1 = decide (p.1 < c.1) := by decide +kernel
  exact this ⟨c, hc⟩ ⟨p, h⟩
theorem tb_shr {x : Int32} {M p : Nat} (hM : M < 32) (h : p + M < 32) : tb (x >>> (nI M &&& 31)) p = tb x (M + p) := by
  unfold tb
  rw [shr_bv hM, BitVec.getLsbD_sshiftRight, if_pos (by omega), decide_eq_false (by omega)]
  rfl
theorem tb_low {x : Int32} {M : Nat} (hM : M < 32) : (x >>> (nI M &&& 31)) &&& 1 = bI (tb x M = true) := by
  apply tb_ext
  intro p hp
  rw [tb_and, tb_1 hp]
  by_cases h0 : p = 0
  · subst h0
    rw [tb_shr hM (by omega), Nat.add_zero]
    unfold bI
    cases e : tb x M <;> decide
  · rw [show decide (p = 0) = false from decide_eq_false h0, Bool.and_false]
    unfold bI
    split
    · rw [tb_1 hp, decide_eq_false h0]
    · rw [tb_0]
theorem tb_nI {a p : Nat} (h : p < 32) : tb (nI a) p = a.testBit p := by
  unfold tb nI
  show (BitVec.ofNat 32 a).getLsbD p = _
  rw [BitVec.getLsbD_ofNat]
  simp [h]
theorem one_shl {M : Nat} (h : M < 31) : (1 : Int32) <<< (nI M &&& 31) = nI (2 ^ M) := by
  have : ∀ M : Fin 31, (1 : Int32) <<< (nI M.1 &&& 31) = nI (2 ^ M.1) := by decide +kernel
  exact this ⟨M, h⟩
end BIT

section TWE
variable {N K M cc : Nat} {φ : Nat → PhiT}
/-- the clues look at the values' seats alone -/
def PhiV (N K cc : Nat) (φ : Nat → PhiT) : Prop := ∀ c, c < cc → ∀ th th' : Nat → Int32, (∀ kd w, kd < K → w < N → th (4 * kd + w) = th' (4 * kd + w)) → φ c th = φ c th'
set_option maxRecDepth 10000 in
theorem Hs_th {st c : Nat} {th : Nat → Nat} (V : PhiV N K cc φ) (h4 : N ≤ 4) (hc : c < cc) (T : ThS N K M st th) : Hs N K M φ st c = tb (φ c (nA th)) (ptS M st) := by
  unfold Hs
  show tb (φ c (nA (tS N K M st))) (ptS M st) = _
  rw [V c hc (nA (tS N K M st)) (nA th) (fun kd w hk hw => by show nI _ = nI _; rw [tS_Th h4 st kd w hk hw, T kd w hk hw])]
/-! the clues weighed -/
def WlI (m : Nat → Int32) (pM : Int32) (a : Nat) (x : (Nat → Int32) × Int32 × Int32) : Prop :=
  (∀ p, p < 32 → (tb x.2.1 p = true ↔ tb pM p = true ∧ ∀ c, c < a → tb (m c) p = true)) ∧
  (∀ p, p < 32 → (tb x.2.2 p = true ↔ tb pM p = true ∧ ∃ c0, c0 < a ∧ tb (m c0) p = false ∧ ∀ c, c < a → c ≠ c0 → tb (m c) p = true)) ∧
  (¬ x.2.1 ||| x.2.2 = 0 → ∀ c, c < a → x.1 c = m c)
set_option maxRecDepth 10000 in
theorem wl_I {th : Nat → Int32} {pM : Int32} : ∀ (k a : Nat) (x : (Nat → Int32) × Int32 × Int32), WlI (fun c => φ c th) pM a x → WlI (fun c => φ c th) pM (a + k) ((List.range' a k).foldl (wlS φ th) x)
  | 0, a, x, h => h
  | k + 1, a, x, h => by
    rw [List.range'_succ, List.foldl_cons, show a + (k + 1) = a + 1 + k by omega]
    refine wl_I k (a + 1) _ ?_
    obtain ⟨h1, h2, h3⟩ := h
    unfold wlS
    by_cases q : x.2.1 ||| x.2.2 = 0
    · rw [if_pos q]
      have z := tb_z.mp q
      have z1 : ∀ p, p < 32 → ¬ tb x.2.1 p = true := fun p hp y => by have := z p hp; rw [tb_or, y, Bool.true_or] at this; exact absurd this (by decide)
      have z2 : ∀ p, p < 32 → ¬ tb x.2.2 p = true := fun p hp y => by have := z p hp; rw [tb_or, y, Bool.or_true] at this; exact absurd this (by decide)
      refine ⟨fun p hp => ⟨fun y => absurd y (z1 p hp), fun y => absurd ((h1 p hp).mpr ⟨y.1, fun c hc => y.2 c (by omega)⟩) (z1 p hp)⟩, fun p hp => ⟨fun y => absurd y (z2 p hp), fun y => ?_⟩, fun y => absurd q y⟩
      obtain ⟨y1, c0, y2, y3, y4⟩ := y
      by_cases e : c0 = a
      · subst e
        exact absurd ((h1 p hp).mpr ⟨y1, fun c hc => y4 c (by omega) (by omega)⟩) (z1 p hp)
      · exact absurd ((h2 p hp).mpr ⟨y1, c0, by omega, y3, fun c hc ne => y4 c (by omega) ne⟩) (z2 p hp)
    · rw [if_neg q]
      have h3 := h3 q
      refine ⟨fun p hp => ?_, fun p hp => ?_, fun _ c hc => ?_⟩
      · show tb (x.2.1 &&& φ a th) p = true ↔ _
        rw [tb_and, Bool.and_eq_true, h1 p hp]
        constructor
        · rintro ⟨⟨y1, y2⟩, y3⟩
          refine ⟨y1, fun c hc => ?_⟩
          by_cases e : c = a
          · subst e; exact y3
          · exact y2 c (by omega)
        · rintro ⟨y1, y2⟩
          exact ⟨⟨y1, fun c hc => y2 c (by omega)⟩, y2 a (by omega)⟩
      · show tb ((x.2.2 &&& φ a th) ||| (x.2.1 &&& (φ a th ^^^ (-1)))) p = true ↔ _
        rw [tb_or, tb_and, tb_and, tb_not _ hp, Bool.or_eq_true, Bool.and_eq_true, Bool.and_eq_true, h1 p hp, h2 p hp]
        constructor
        · rintro (⟨⟨y1, c0, y2, y3, y4⟩, y5⟩ | ⟨⟨y1, y2⟩, y3⟩)
          · refine ⟨y1, c0, by omega, y3, fun c hc ne => ?_⟩
            by_cases e : c = a
            · subst e; exact y5
            · exact y4 c (by omega) ne
          · refine ⟨y1, a, by omega, by simpa using y3, fun c hc ne => y2 c (by omega)⟩
        · rintro ⟨y1, c0, y2, y3, y4⟩
          by_cases e : c0 = a
          · subst e
            exact Or.inr ⟨⟨y1, fun c hc => y4 c (by omega) (by omega)⟩, by simpa using y3⟩
          · exact Or.inl ⟨⟨y1, c0, by omega, y3, fun c hc ne => y4 c (by omega) ne⟩, y4 a (by omega) (fun z => e z.symm)⟩
      · show upd x.1 a (φ a th) c = φ c th
        by_cases e : c = a
        · subst e; exact upd_ss _ _ _
        · rw [upd_nn _ _ e]; exact h3 c (by omega)
set_option maxRecDepth 10000 in
theorem wl_0 {m : Nat → Int32} {pM : Int32} {r : Nat → Int32} : WlI m pM 0 (r, pM, 0) := by
  refine ⟨fun p hp => ⟨fun y => ⟨y, fun c hc => absurd hc (by omega)⟩, fun y => y.1⟩, fun p hp => ⟨fun y => ?_, fun y => ?_⟩, fun _ c hc => absurd hc (by omega)⟩
  · rw [tb_0] at y; exact absurd y (by decide)
  · obtain ⟨_, c0, y2, _⟩ := y; omega
set_option maxRecDepth 10000 in
theorem pa_T {p : Nat} (hM : M ≤ 3) (hp : p < 32) : tb (partsF M) p = decide (p < 8 ∧ p % 2 ^ (3 - M) = 0) := by
  have : ∀ M : Fin 4, ∀ p : Fin 32, tb (partsF M.1) p.1 = decide (p.1 < 8 ∧ p.1 % 2 ^ (3 - M.1) = 0) := by decide +kernel
  exact this ⟨M, by omega⟩ ⟨p, hp⟩
set_option maxRecDepth 10000 in
theorem DE {M : Nat} (hM : M ≤ 3) : (2 ^ (3 - M) = 8 ∧ 2 ^ M = 1) ∨ (2 ^ (3 - M) = 4 ∧ 2 ^ M = 2) ∨ (2 ^ (3 - M) = 2 ∧ 2 ^ M = 4) ∨ (2 ^ (3 - M) = 1 ∧ 2 ^ M = 8) := by
  have : ∀ M : Fin 4, (2 ^ (3 - M.1) = 8 ∧ 2 ^ M.1 = 1) ∨ (2 ^ (3 - M.1) = 4 ∧ 2 ^ M.1 = 2) ∨ (2 ^ (3 - M.1) = 2 ∧ 2 ^ M.1 = 4) ∨ (2 ^ (3 - M.1) = 1 ∧ 2 ^ M.1 = 8) := by decide
  exact this ⟨M, by omega⟩
set_option maxRecDepth 10000 in
/-- the parties of a mask, counted -/
theorem bc_T {x : Int32} (hM : M ≤ 3) (hx : ∀ p, p < 32 → tb x p = true → tb (partsF M) p = true) : bcF x = nI (cnF (fun q => tb x (q * 2 ^ (3 - M))) (2 ^ M)) := by
  have key : ∀ M : Fin 4, ∀ a : Fin 256, (∀ p : Fin 8, tb (nI a.1) p.1 = true → tb (partsF M.1) p.1 = true) → bcF (nI a.1) = nI (cnF (fun q => tb (nI a.1) (q * 2 ^ (3 - M.1))) (2 ^ M.1)) := by decide +kernel
  have e : x &&& 255 = x := by
    refine tb_ext (fun p hp => ?_)
    rw [tb_and]
    cases y : tb x p
    · rfl
    · have := hx p hp y
      rw [pa_T hM hp, decide_eq_true_iff] at this
      have k2 : ∀ p : Fin 8, tb 255 p.1 = true := by decide +kernel
      rw [k2 ⟨p, this.1⟩]; rfl
  have hb : x.toBitVec.toNat < 256 := by
    rw [← e, Int32.toBitVec_and, BitVec.toNat_and]
    exact Nat.lt_of_le_of_lt Nat.and_le_right (by decide)
  have ex : x = nI x.toBitVec.toNat := by
    apply Int32.toBitVec_inj.mp
    show _ = BitVec.ofNat 32 x.toBitVec.toNat
    rw [BitVec.ofNat_toNat, BitVec.setWidth_eq]
  rw [ex] at hx ⊢
  exact key ⟨M, by omega⟩ ⟨_, hb⟩ (fun p hp => hx p.1 (by omega) hp)
set_option maxRecDepth 10000 in
theorem cnF_add (P : Nat → Bool) (a : Nat) : ∀ b, cnF P (a + b) = cnF P a + cnF (fun q => P (a + q)) b
  | 0 => rfl
  | b + 1 => by
    show cnF P (a + b) + _ = _
    rw [cnF_add P a b, cnF, Nat.add_assoc]
    rfl
set_option maxRecDepth 10000 in
theorem cnF_cg {P R : Nat → Bool} : ∀ (b : Nat), (∀ q, q < b → P q = R q) → cnF P b = cnF R b
  | 0, _ => rfl
  | b + 1, h => by rw [cnF, cnF, cnF_cg b (fun q hq => h q (by omega)), h b (by omega)]
end TWE

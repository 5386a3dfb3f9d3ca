section TOP
def opO (tkf : Nat → Int32) (my : Int32) (o : Nat) : Prop := tkf o &&& (my ^^^ (-1)) = 0
/-- the open orders of one kind -/
def CoI (tkf : Nat → Int32) (my : Int32) (kd : Nat) (op0 : Nat → Nat) (a : Nat) (x : (Nat → Nat) × Nat) : Prop :=
  x.2 ≤ a ∧ (∀ y, y < x.2 → x.1 (24 * kd + y) < a ∧ opO tkf my (x.1 (24 * kd + y))) ∧ (∀ o, o < a → opO tkf my o → ∃ y, y < x.2 ∧ x.1 (24 * kd + y) = o) ∧ (∀ j, j < 24 * kd ∨ 24 * kd + 24 ≤ j → x.1 j = op0 j) ∧ ((∀ o, o < a → opO tkf my o) → x.2 = a ∧ ∀ y, y < a → x.1 (24 * kd + y) = y)
theorem coF_I {tkf : Nat → Int32} {my : Int32} {kd : Nat} {op0 : Nat → Nat} : ∀ (k a : Nat) (x : (Nat → Nat) × Nat), a + k ≤ 24 → CoI tkf my kd op0 a x → CoI tkf my kd op0 (a + k) ((List.range' a k).foldl (coS tkf my kd) x)
  | 0, a, x, _, h => h
  | k + 1, a, x, ha, h => by
    rw [List.range'_succ, List.foldl_cons, show a + (k + 1) = a + 1 + k by omega]
    refine coF_I k (a + 1) _ (by omega) ?_
    obtain ⟨h1, h2, h3, h4, h5⟩ := h
    unfold coS
    by_cases q : tkf a &&& (my ^^^ (-1)) = 0
    · rw [if_pos q]
      refine ⟨by show x.2 + 1 ≤ a + 1; omega, fun y hy => ?_, fun o ho hop => ?_, fun j hj => ?_, fun hall => ?_⟩
      · have hy : y < x.2 + 1 := hy
        show upN x.1 (24 * kd + x.2) a (24 * kd + y) < a + 1 ∧ opO tkf my (upN x.1 (24 * kd + x.2) a (24 * kd + y))
        by_cases e : y = x.2
        · subst e; rw [upN_s]; exact ⟨by omega, q⟩
        · rw [upN_n _ _ (by omega)]
          have := h2 y (by omega)
          exact ⟨by omega, this.2⟩
      · by_cases e : o = a
        · subst e
          exact ⟨x.2, Nat.lt_succ_self _, upN_s _ _ _⟩
        · obtain ⟨y, hy, ey⟩ := h3 o (by omega) hop
          refine ⟨y, Nat.lt_succ_of_lt hy, ?_⟩
          show upN x.1 (24 * kd + x.2) a (24 * kd + y) = o
          rw [upN_n _ _ (by omega)]; exact ey
      · show upN x.1 (24 * kd + x.2) a j = op0 j
        rw [upN_n _ _ (by omega)]; exact h4 j hj
      · have := h5 (fun o ho => hall o (by omega))
        refine ⟨by show x.2 + 1 = a + 1; omega, fun y hy => ?_⟩
        show upN x.1 (24 * kd + x.2) a (24 * kd + y) = y
        by_cases e : y = a
        · subst e; rw [show 24 * kd + y = 24 * kd + x.2 by omega]; exact upN_s _ _ _
        · rw [upN_n _ _ (by omega)]; exact this.2 y (by omega)
    · rw [if_neg q]
      refine ⟨by omega, fun y hy => ⟨by have := (h2 y hy).1; omega, (h2 y hy).2⟩, fun o ho hop => ?_, h4, fun hall => absurd (hall a (by omega)) q⟩
      by_cases e : o = a
      · subst e; exact absurd hop q
      · exact h3 o (by omega) hop
/-- .. and of all kinds -/
def ChI (tkf : Nat → Int32) (cnt : Nat) (my : Nat → Int32) (k : Nat) (x : (Nat → Nat) × (Nat → Nat) × Nat) : Prop :=
  (∀ kd, kd < k → x.2.1 kd ≤ 24 ∧ (∀ y, y < x.2.1 kd → x.1 (24 * kd + y) < cnt ∧ opO tkf (my kd) (x.1 (24 * kd + y))) ∧ (∀ o, o < cnt → opO tkf (my kd) o → ∃ y, y < x.2.1 kd ∧ x.1 (24 * kd + y) = o) ∧ ((∀ o, o < cnt → opO tkf (my kd) o) → x.2.1 kd = cnt ∧ ∀ y, y < cnt → x.1 (24 * kd + y) = y)) ∧ x.2.2 = (List.range' 0 k).foldl (fun p kd => p * x.2.1 kd) 1
theorem prod_cg {a b : Nat → Nat} : ∀ (k s p : Nat), (∀ i, s ≤ i → i < s + k → a i = b i) → (List.range' s k).foldl (fun p kd => p * a kd) p = (List.range' s k).foldl (fun p kd => p * b kd) p
  | 0, _, _, _ => rfl
  | k + 1, s, p, h => by
    rw [List.range'_succ, List.foldl_cons, List.foldl_cons, h s (Nat.le_refl _) (by omega)]
    exact prod_cg k (s + 1) _ (fun i h1 h2 => h i (by omega) (by omega))
theorem chF_I {tkf : Nat → Int32} {cnt : Nat} {my : Nat → Int32} (hc : cnt ≤ 24) : ∀ (k a : Nat) (x : (Nat → Nat) × (Nat → Nat) × Nat), ChI tkf cnt my a x → ChI tkf cnt my (a + k) ((List.range' a k).foldl (chS tkf cnt my) x)
  | 0, a, x, h => h
  | k + 1, a, x, h => by
    rw [List.range'_succ, List.foldl_cons, show a + (k + 1) = a + 1 + k by omega]
    refine chF_I hc k (a + 1) _ ?_
    obtain ⟨h1, h2⟩ := h
    have I := coF_I (tkf := tkf) (my := my a) (kd := a) (op0 := x.1) cnt 0 (x.1, 0) (by omega) ⟨Nat.le_refl _, fun y hy => absurd hy (by show ¬ y < 0; omega), fun o ho => absurd ho (by omega), fun _ _ => rfl, fun _ => ⟨rfl, fun y hy => absurd hy (by omega)⟩⟩
    rw [Nat.zero_add] at I
    obtain ⟨i1, i2, i3, i4, i5⟩ := I
    refine ⟨fun kd hkd => ?_, ?_⟩
    · show upN x.2.1 a (coF tkf cnt (my a) a x.1).2 kd ≤ 24 ∧ (∀ y, y < upN x.2.1 a (coF tkf cnt (my a) a x.1).2 kd → (coF tkf cnt (my a) a x.1).1 (24 * kd + y) < cnt ∧ opO tkf (my kd) ((coF tkf cnt (my a) a x.1).1 (24 * kd + y))) ∧ (∀ o, o < cnt → opO tkf (my kd) o → ∃ y, y < upN x.2.1 a (coF tkf cnt (my a) a x.1).2 kd ∧ (coF tkf cnt (my a) a x.1).1 (24 * kd + y) = o) ∧ ((∀ o, o < cnt → opO tkf (my kd) o) → upN x.2.1 a (coF tkf cnt (my a) a x.1).2 kd = cnt ∧ ∀ y, y < cnt → (coF tkf cnt (my a) a x.1).1 (24 * kd + y) = y)
      by_cases e : kd = a
      · subst e
        rw [upN_s]
        exact ⟨Nat.le_trans i1 hc, i2, i3, i5⟩
      · rw [upN_n _ _ e]
        obtain ⟨bd, a1, a2, a3⟩ := h1 kd (by omega)
        refine ⟨bd, fun y hy => ?_, fun o ho hop => ?_, fun hall => ?_⟩
        · have : (coF tkf cnt (my a) a x.1).1 (24 * kd + y) = x.1 (24 * kd + y) := i4 _ (by omega)
          rw [this]; exact a1 y hy
        · obtain ⟨y, hy, ey⟩ := a2 o ho hop
          have : (coF tkf cnt (my a) a x.1).1 (24 * kd + y) = x.1 (24 * kd + y) := i4 _ (by omega)
          exact ⟨y, hy, by rw [this]; exact ey⟩
        · obtain ⟨b1, b2⟩ := a3 hall
          refine ⟨b1, fun y hy => ?_⟩
          have : (coF tkf cnt (my a) a x.1).1 (24 * kd + y) = x.1 (24 * kd + y) := i4 _ (by omega)
          rw [this]; exact b2 y hy
    · show x.2.2 * (coF tkf cnt (my a) a x.1).2 = (List.range' 0 (a + 1)).foldl (fun p kd => p * upN x.2.1 a (coF tkf cnt (my a) a x.1).2 kd) 1
      rw [List.range'_concat, List.foldl_append, List.foldl_cons, List.foldl_nil, Nat.zero_add, Nat.one_mul, upN_s, h2]
      congr 1
      exact prod_cg a 0 1 (fun i _ hi => (upN_n _ _ (by omega)).symm)
end TOP

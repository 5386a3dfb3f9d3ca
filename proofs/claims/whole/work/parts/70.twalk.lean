section TWK
variable {N K : Nat}
/-- the row thing is that of the orders where the walk stands -/
def ThI (N K : Nat) (s : WS) : Prop := ∀ kd w, kd < K → w < N → s.2.2.2 (4 * kd + w) = sT N (s.1 (24 * kd + s.2.2.1 kd)) w
theorem go_fold {vf : Nat → Nat} {b : Nat} (hv : ∀ i, vf (b + i) < 4) {kd : Nat} : ∀ (l : List Nat) (th : Nat → Nat) (j : Nat), (∀ w, w < 4 → j ≠ 4 * kd + w) → l.foldl (fun th i => upN th (4 * kd + vf (b + i)) i) th j = th j
  | [], _, _, _ => rfl
  | i :: l, th, j, hj => by
    rw [List.foldl_cons, go_fold hv l _ j hj, upN_n _ _ (hj _ (hv i))]
theorem go_seat {vf : Nat → Nat} {b kd : Nat} (hi : ∀ i j, i < N → j < N → vf (b + i) = vf (b + j) → i = j) : ∀ (k a : Nat) (th : Nat → Nat), a + k = N → (∀ j, j < a → th (4 * kd + vf (b + j)) = j) → ∀ j, j < N → (List.range' a k).foldl (fun th i => upN th (4 * kd + vf (b + i)) i) th (4 * kd + vf (b + j)) = j
  | 0, a, th, ha, h, j, hj => h j (by omega)
  | k + 1, a, th, ha, h, j, hj => by
    rw [List.range'_succ, List.foldl_cons]
    refine go_seat hi k (a + 1) _ (by omega) (fun i hia => ?_) j hj
    by_cases e : i = a
    · subst e; exact upN_s _ _ _
    · rw [upN_n _ _ (fun q => e (hi i a (by omega) (by omega) (by omega)))]; exact h i (by omega)
theorem vT_inj {o i j : Nat} (h1 : 1 ≤ N ∧ N ≤ 4) (ho : o < cT N) (hi : i < N) (hj : j < N) (e : vT N (4 * o + i) = vT N (4 * o + j)) : i = j := by
  have a := (vs_T h1.1 h1.2 ho hi).2.1
  have b := (vs_T h1.1 h1.2 ho hj).2.1
  rw [e, b] at a
  omega
theorem goF_Th {s : WS} {kd pl : Nat} (h1 : 1 ≤ N ∧ N ≤ 4) (ho : s.1 (24 * kd + pl) < cT N) (h : ∀ kd' w, kd' < K → kd' ≠ kd → w < N → s.2.2.2 (4 * kd' + w) = sT N (s.1 (24 * kd' + s.2.2.1 kd')) w) : ThI N K (goF (vT N) N s kd pl) := by
  intro kd' w hkd hw
  show (List.range' 0 N).foldl (fun th i => upN th (4 * kd + vT N (4 * s.1 (24 * kd + pl) + i)) i) s.2.2.2 (4 * kd' + w) = sT N (s.1 (24 * kd' + upN s.2.2.1 kd pl kd')) w
  by_cases e : kd' = kd
  · subst e
    rw [upN_s]
    have q := vs_T h1.1 h1.2 ho hw
    have := go_seat (N := N) (vf := vT N) (b := 4 * s.1 (24 * kd' + pl)) (kd := kd') (fun i j hi hj e => vT_inj h1 ho hi hj e) N 0 s.2.2.2 (by omega) (fun j hj => absurd hj (by omega)) (sT N (s.1 (24 * kd' + pl)) w) q.2.2.1
    rw [q.2.2.2] at this
    exact this
  · rw [upN_n _ _ e, go_fold (fun i => vT_lt h1.2 _) _ _ _ (fun w' hw' => by omega)]
    exact h kd' w hkd e hw
/-- the walk's rows, where it stands at layout i -/
def WkI (N K : Nat) (op oc : Nat → Nat) (i : Nat) (s : WS) : Prop := s.1 = op ∧ s.2.1 = oc ∧ (∀ kd, kd < K → s.2.2.1 kd = dg oc K i kd) ∧ ThI N K s
theorem dg_0 {oc : Nat → Nat} : ∀ (K kd : Nat), dg oc K 0 kd = 0
  | 0, _ => rfl
  | K + 1, kd => by unfold dg; rw [Nat.zero_mod, Nat.zero_div, dg_0 K]; split <;> rfl
theorem stF_I {op oc : Nat → Nat} {s : WS} (h1 : 1 ≤ N ∧ N ≤ 4) (hop : ∀ kd x, kd < K → x < oc kd → op (24 * kd + x) < cT N) (hoc : ∀ kd, kd < K → 0 < oc kd) (e1 : s.1 = op) (e2 : s.2.1 = oc) : WkI N K op oc 0 (stF (vT N) N K s) := by
  have key : ∀ (k a : Nat) (s : WS), a + k = K → s.1 = op → s.2.1 = oc → (∀ kd, kd < a → s.2.2.1 kd = 0) → ThI N a s → WkI N K op oc 0 ((List.range' a k).foldl (fun s kd => goF (vT N) N s kd 0) s) := by
    intro k
    induction k with
    | zero =>
      intro a s ha e1 e2 e3 e4
      have ha : a = K := by omega
      subst ha
      exact ⟨e1, e2, fun kd hkd => by rw [dg_0]; exact e3 kd hkd, e4⟩
    | succ k ih =>
      intro a s ha e1 e2 e3 e4
      rw [List.range'_succ, List.foldl_cons]
      refine ih (a + 1) _ (by omega) e1 e2 (fun kd hkd => ?_) ?_
      · show upN s.2.2.1 a 0 kd = 0
        by_cases e : kd = a
        · subst e; exact upN_s _ _ _
        · rw [upN_n _ _ e]; exact e3 kd (by omega)
      · refine goF_Th h1 (by rw [e1]; exact hop a 0 (by omega) (hoc a (by omega))) (fun kd' w hk ne hw => e4 kd' w (by omega) hw)
  exact key K 0 s (by omega) e1 e2 (fun kd h => absurd h (by omega)) (fun kd w h => absurd h (by omega))
theorem nxF_I {op oc : Nat → Nat} (h1 : 1 ≤ N ∧ N ≤ 4) (hop : ∀ kd x, kd < K → x < oc kd → op (24 * kd + x) < cT N) (hoc : ∀ kd, kd < K → 0 < oc kd) : ∀ (k i : Nat) (s : WS), k ≤ K → s.1 = op → s.2.1 = oc → (∀ kd, kd < k → s.2.2.1 kd = dg oc k i kd) → ThI N K s → (nxF (vT N) N k s).1 = op ∧ (nxF (vT N) N k s).2.1 = oc ∧ (∀ kd, kd < k → (nxF (vT N) N k s).2.2.1 kd = dg oc k (i + 1) kd) ∧ (∀ kd, k ≤ kd → (nxF (vT N) N k s).2.2.1 kd = s.2.2.1 kd) ∧ ThI N K (nxF (vT N) N k s)
  | 0, i, s, hk, e1, e2, e3, e4 => ⟨e1, e2, fun kd h => absurd h (by omega), fun _ _ => rfl, e4⟩
  | k + 1, i, s, hk, e1, e2, e3, e4 => by
    have hc := hoc k (by omega)
    have ek : s.2.2.1 k = i % oc k := by rw [e3 k (by omega), dg, if_pos rfl]
    have eo : ∀ kd, kd < k → s.2.2.1 kd = dg oc k (i / oc k) kd := fun kd h => by rw [e3 kd (by omega), dg, if_neg (by omega)]
    have hm := Nat.mod_lt i hc
    have dm := Nat.div_add_mod i (oc k)
    rw [nxF]
    by_cases q : s.2.2.1 k + 1 < s.2.1 k
    · rw [if_pos q]
      rw [ek, e2] at q
      have m1 : (i + 1) % oc k = i % oc k + 1 := by
        rw [Nat.add_mod, Nat.mod_eq_of_lt (show i % oc k + 1 % oc k < oc k by rw [Nat.mod_eq_of_lt (show 1 < oc k by omega)]; exact q), Nat.mod_eq_of_lt (show 1 < oc k by omega)]
      have d1 : (i + 1) / oc k = i / oc k := by
        have dm2 := Nat.div_add_mod (i + 1) (oc k)
        rw [m1] at dm2
        have : oc k * ((i + 1) / oc k) = oc k * (i / oc k) := by omega
        exact Nat.eq_of_mul_eq_mul_left hc this
      refine ⟨e1, e2, fun kd h => ?_, fun kd h => ?_, ?_⟩
      · show upN s.2.2.1 k (s.2.2.1 k + 1) kd = _
        by_cases e : kd = k
        · subst e; rw [upN_s, dg, if_pos rfl, m1, ek]
        · rw [upN_n _ _ e, dg, if_neg e, d1]; exact eo kd (by omega)
      · show upN s.2.2.1 k (s.2.2.1 k + 1) kd = _
        exact upN_n _ _ (by omega)
      · exact goF_Th h1 (by rw [e1]; exact hop k _ (by omega) (by rw [ek]; exact q)) (fun kd' w hk ne hw => e4 kd' w hk hw)
    · rw [if_neg q]
      rw [ek, e2] at q
      have d1 : (i + 1) / oc k = i / oc k + 1 := by
        have : i + 1 = oc k * (i / oc k + 1) := by rw [Nat.mul_add, Nat.mul_one]; omega
        rw [this, Nat.mul_div_cancel_left _ hc]
      have m1 : (i + 1) % oc k = 0 := by
        have dm2 := Nat.div_add_mod (i + 1) (oc k)
        rw [d1, Nat.mul_add, Nat.mul_one] at dm2
        omega
      have T : ThI N K (goF (vT N) N s k 0) := goF_Th h1 (by rw [e1]; exact hop k 0 (by omega) hc) (fun kd' w hk ne hw => e4 kd' w hk hw)
      have := nxF_I h1 hop hoc k (i / oc k) (goF (vT N) N s k 0) (by omega) e1 e2 (fun kd h => by
        show upN s.2.2.1 k 0 kd = _
        rw [upN_n _ _ (by omega)]; exact eo kd h) T
      obtain ⟨a1, a2, a3, a4, a5⟩ := this
      refine ⟨a1, a2, fun kd h => ?_, fun kd h => ?_, a5⟩
      · by_cases e : kd = k
        · subst e
          rw [a4 kd (Nat.le_refl _), dg, if_pos rfl, m1]
          exact upN_s _ _ _
        · rw [dg, if_neg e, d1]; exact a3 kd (by omega)
      · rw [a4 kd (by omega)]
        exact upN_n _ _ (by omega)
theorem WkI.next {op oc : Nat → Nat} {i : Nat} {s : WS} (h1 : 1 ≤ N ∧ N ≤ 4) (hop : ∀ kd x, kd < K → x < oc kd → op (24 * kd + x) < cT N) (hoc : ∀ kd, kd < K → 0 < oc kd) (W : WkI N K op oc i s) : WkI N K op oc (i + 1) (nxF (vT N) N K s) := by
  obtain ⟨a1, a2, a3, a4⟩ := W
  obtain ⟨b1, b2, b3, _, b5⟩ := nxF_I h1 hop hoc K i s (Nat.le_refl _) a1 a2 a3 a4
  exact ⟨b1, b2, b3, b5⟩
/-- every choice of places is met -/
theorem dg_sur {oc : Nat → Nat} : ∀ (K : Nat) (x : Nat → Nat), (∀ kd, kd < K → x kd < oc kd) → ∃ i, i < (List.range' 0 K).foldl (fun p kd => p * oc kd) 1 ∧ ∀ kd, kd < K → dg oc K i kd = x kd
  | 0, _, _ => ⟨0, Nat.zero_lt_one, fun kd h => absurd h (by omega)⟩
  | K + 1, x, hx => by
    obtain ⟨i, hi, hd⟩ := dg_sur K x (fun kd h => hx kd (by omega))
    have hK := hx K (by omega)
    refine ⟨i * oc K + x K, ?_, fun kd h => ?_⟩
    · rw [List.range'_concat, List.foldl_append, List.foldl_cons, List.foldl_nil, Nat.zero_add, Nat.one_mul]
      generalize (List.range' 0 K).foldl (fun p kd => p * oc kd) 1 = P at hi ⊢
      calc i * oc K + x K < i * oc K + oc K := by omega
        _ = (i + 1) * oc K := by rw [Nat.add_mul, Nat.one_mul]
        _ ≤ P * oc K := Nat.mul_le_mul_right _ hi
    · unfold dg
      by_cases e : kd = K
      · subst e
        rw [if_pos rfl, Nat.mul_comm, Nat.mul_add_mod, Nat.mod_eq_of_lt hK]
      · rw [if_neg e, Nat.mul_comm, Nat.mul_add_div (by omega), Nat.div_eq_of_lt hK, Nat.add_zero]
        exact hd kd (by omega)
end TWK

section TKE
variable {N K M cc : Nat} {φ : Nat → PhiT}
/-- the answers kept, of the states below i -/
def KpI (N K M : Nat) (ok : Nat → Bool) (i : Nat) (s : AS) : Prop := s.2.2.2.2.2.2.1 = min 100 (cnF ok i) ∧ ∀ j, j < min 100 (cnF ok i) → ∃ st, st < i ∧ ok st = true ∧ cnF ok st = j ∧ (∀ kd, kd < K → s.1 (3 * j + kd) = ofS N K M st kd) ∧ s.2.1 j = ptS M st
set_option maxRecDepth 10000 in
theorem kf_fold {ws : WS} {b : Nat} : ∀ (k a : Nat) (f : Nat → Nat), (∀ kd, a ≤ kd → kd < a + k → (List.range' a k).foldl (fun f kd => upN f (b + kd) (wOrd ws kd)) f (b + kd) = wOrd ws kd) ∧ ∀ j, (j < b + a ∨ b + a + k ≤ j) → (List.range' a k).foldl (fun f kd => upN f (b + kd) (wOrd ws kd)) f j = f j
  | 0, a, f => ⟨fun kd h1 h2 => by omega, fun _ _ => rfl⟩
  | k + 1, a, f => by
    rw [List.range'_succ, List.foldl_cons]
    have ih := kf_fold (ws := ws) (b := b) k (a + 1) (upN f (b + a) (wOrd ws a))
    refine ⟨fun kd h1 h2 => ?_, fun j hj => ?_⟩
    · by_cases e : kd = a
      · subst e
        rw [ih.2 _ (by omega)]; exact upN_s _ _ _
      · exact ih.1 kd (by omega) (by omega)
    · rw [ih.2 j (by omega)]; exact upN_n _ _ (by omega)
set_option maxRecDepth 10000 in
theorem keep_I {ok : Nat → Bool} {i pt : Nat} {s : AS} {ws : WS} (hK : K ≤ 3) (hk : s.2.2.2.2.2.2.1 < 100) (h : KpI N K M ok i s) (hok : ok i = true) (hw : ∀ kd, kd < K → wOrd ws kd = ofS N K M i kd) (hp : pt = ptS M i) : KpI N K M ok (i + 1) (keepF K ws s pt) := by
  obtain ⟨h1, h2⟩ := h
  have e1 : cnF ok (i + 1) = cnF ok i + 1 := by rw [cnF, if_pos hok]
  have e0 : min 100 (cnF ok i) = cnF ok i := by omega
  have e2 : min 100 (cnF ok (i + 1)) = cnF ok i + 1 := by omega
  rw [e0] at h1 h2
  have kf := kf_fold (ws := ws) (b := 3 * s.2.2.2.2.2.2.1) K 0 s.1
  refine ⟨?_, fun j hj => ?_⟩
  · show s.2.2.2.2.2.2.1 + 1 = _
    rw [e2, h1]
  · rw [e2] at hj
    show ∃ st, st < i + 1 ∧ ok st = true ∧ cnF ok st = j ∧ (∀ kd, kd < K → (List.range' 0 K).foldl (fun f kd => upN f (3 * s.2.2.2.2.2.2.1 + kd) (wOrd ws kd)) s.1 (3 * j + kd) = ofS N K M st kd) ∧ upN s.2.1 s.2.2.2.2.2.2.1 pt j = ptS M st
    by_cases e : j = cnF ok i
    · refine ⟨i, by omega, hok, e.symm, fun kd hkd => ?_, ?_⟩
      · rw [e, ← h1, kf.1 kd (by omega) (by omega)]; exact hw kd hkd
      · rw [e, ← h1, upN_s]; exact hp
    · obtain ⟨st, a1, a2, a3, a4, a5⟩ := h2 j (by omega)
      refine ⟨st, by omega, a2, a3, fun kd hkd => ?_, ?_⟩
      · rw [kf.2 _ (by omega)]; exact a4 kd hkd
      · rw [upN_n _ _ (by omega)]; exact a5
set_option maxRecDepth 10000 in
theorem KpI.skip {ok : Nat → Bool} {i : Nat} {s : AS} (h : KpI N K M ok i s) (hs : ok i = false ∨ ¬ s.2.2.2.2.2.2.1 < 100) : KpI N K M ok (i + 1) s := by
  obtain ⟨h1, h2⟩ := h
  have e : min 100 (cnF ok (i + 1)) = min 100 (cnF ok i) := by
    rw [cnF]
    rcases hs with hs | hs
    · rw [if_neg (by rw [hs]; decide)]; rfl
    · split <;> omega
  refine ⟨by rw [e]; exact h1, fun j hj => ?_⟩
  rw [e] at hj
  obtain ⟨st, a1, a2⟩ := h2 j hj
  exact ⟨st, by omega, a2⟩
set_option maxRecDepth 10000 in
theorem kp_I {ok : Nat → Bool} {l : Nat} {A : Int32} {ws : WS} (hK : K ≤ 3) (hM : M ≤ 3) (hA : ∀ q, q < 2 ^ M → tb A (q * 2 ^ (3 - M)) = ok (l * 2 ^ M + q)) (hA2 : ∀ p, p < 8 → ¬ p % 2 ^ (3 - M) = 0 → tb A p = false) (hw : ∀ kd, kd < K → wOrd ws kd = dg (fun _ => cT N) K l kd) :
    ∀ (k a : Nat) (s : AS), a + k = 8 → KpI N K M ok (l * 2 ^ M + (a + 2 ^ (3 - M) - 1) / 2 ^ (3 - M)) s → KpI N K M ok (l * 2 ^ M + 2 ^ M) ((List.range' a k).foldl (kpS K ws A) s)
  | 0, a, s, ha, h => by
    have e : (a + 2 ^ (3 - M) - 1) / 2 ^ (3 - M) = 2 ^ M := by
      rcases DE hM with ⟨d, e⟩ | ⟨d, e⟩ | ⟨d, e⟩ | ⟨d, e⟩ <;> rw [d, e] <;> omega
    rw [e] at h
    exact h
  | k + 1, a, s, ha, h => by
    rw [List.range'_succ, List.foldl_cons]
    refine kp_I hK hM hA hA2 hw k (a + 1) _ (by omega) ?_
    have hpos := Nat.two_pow_pos (3 - M)
    by_cases e : a % 2 ^ (3 - M) = 0
    · have f1 : (a + 2 ^ (3 - M) - 1) / 2 ^ (3 - M) = a / 2 ^ (3 - M) := by
        rcases DE hM with ⟨d, _⟩ | ⟨d, _⟩ | ⟨d, _⟩ | ⟨d, _⟩ <;> rw [d] at e ⊢ <;> omega
      have f2 : (a + 1 + 2 ^ (3 - M) - 1) / 2 ^ (3 - M) = a / 2 ^ (3 - M) + 1 := by
        rcases DE hM with ⟨d, _⟩ | ⟨d, _⟩ | ⟨d, _⟩ | ⟨d, _⟩ <;> rw [d] at e ⊢ <;> omega
      have f3 : a / 2 ^ (3 - M) < 2 ^ M := by
        rcases DE hM with ⟨d, e2⟩ | ⟨d, e2⟩ | ⟨d, e2⟩ | ⟨d, e2⟩ <;> rw [d, e2] <;> omega
      have f4 : a / 2 ^ (3 - M) * 2 ^ (3 - M) = a := by
        rcases DE hM with ⟨d, e2⟩ | ⟨d, e2⟩ | ⟨d, e2⟩ | ⟨d, e2⟩ <;> rw [d] at e ⊢ <;> omega
      rw [f1] at h
      rw [f2, ← Nat.add_assoc]
      have hq := hA _ f3
      rw [f4] at hq
      unfold kpS
      have tl : ¬ (A >>> (nI a &&& 31)) &&& 1 = 0 ↔ tb A a = true := by
        rw [tb_low (by omega)]
        exact ⟨bI_ne, fun y => by rw [bI_t y]; decide⟩
      by_cases c : s.2.2.2.2.2.2.1 < 100 ∧ ¬ (A >>> (nI a &&& 31)) &&& 1 = 0
      · rw [if_pos c]
        refine keep_I hK c.1 h (hq.symm.trans (tl.mp c.2)) (fun kd hkd => ?_) ?_
        · rw [hw kd hkd]
          show _ = dg _ K ((l * 2 ^ M + a / 2 ^ (3 - M)) / 2 ^ M) kd
          rw [Nat.mul_comm l, Nat.mul_add_div (Nat.two_pow_pos M), Nat.div_eq_of_lt f3, Nat.add_zero]
        · show a = (l * 2 ^ M + a / 2 ^ (3 - M)) % 2 ^ M * 2 ^ (3 - M)
          rw [Nat.mul_comm l, Nat.mul_add_mod, Nat.mod_eq_of_lt f3, f4]
      · rw [if_neg c]
        refine h.skip ?_
        by_cases c1 : s.2.2.2.2.2.2.1 < 100
        · left
          rw [← hq]
          cases y : tb A a
          · rfl
          · exact absurd ⟨c1, tl.mpr y⟩ c
        · exact Or.inr c1
    · have f1 : (a + 1 + 2 ^ (3 - M) - 1) / 2 ^ (3 - M) = (a + 2 ^ (3 - M) - 1) / 2 ^ (3 - M) := by
        rcases DE hM with ⟨d, _⟩ | ⟨d, _⟩ | ⟨d, _⟩ | ⟨d, _⟩ <;> rw [d] at e ⊢ <;> omega
      have c : ¬ (s.2.2.2.2.2.2.1 < 100 ∧ ¬ (A >>> (nI a &&& 31)) &&& 1 = 0) := by
        rintro ⟨_, y⟩
        rw [tb_low (by omega)] at y
        rw [hA2 a (by omega) e] at y
        exact y (by decide)
      rw [f1]
      unfold kpS
      rw [if_neg c]
      exact h
set_option maxRecDepth 10000 in
theorem kp_same {A : Int32} {ws : WS} : ∀ (l : List Nat) (s : AS), (l.foldl (kpS K ws A) s).2.2.1 = s.2.2.1 ∧ (l.foldl (kpS K ws A) s).2.2.2.1 = s.2.2.2.1 ∧ (l.foldl (kpS K ws A) s).2.2.2.2.1 = s.2.2.2.2.1 ∧ (l.foldl (kpS K ws A) s).2.2.2.2.2.1 = s.2.2.2.2.2.1
  | [], _ => ⟨rfl, rfl, rfl, rfl⟩
  | a :: l, s => by
    rw [List.foldl_cons]
    obtain ⟨h1, h2, h3, h4⟩ := kp_same (A := A) (ws := ws) l (kpS K ws A s a)
    rw [h1, h2, h3, h4]
    unfold kpS
    split
    · exact ⟨rfl, rfl, rfl, rfl⟩
    · exact ⟨rfl, rfl, rfl, rfl⟩
end TKE

section ORT
set_option maxRecDepth 100000 in
/-- fewer of the locals -/
theorem J.tk {E : EV} {M : MI} {d cl sl pc : Nat} {L : List (Nat × Value)} {st : List Value} {h : HP} {n : Nat} {Q : Option Value → HP → Nat → Prop} (k : Nat) (hk : J E M d cl sl pc (L.take k) st h n Q) : J E M d cl sl pc L st h n Q :=
  fun p e R s m args below meth c H locs cells slots ls X Y => hk p e R s m args below meth c H locs cells slots ls X ⟨Y.1, Y.2.1, Y.2.2.1, Y.2.2.2.1, ⟨Y.2.2.2.2.1.1, Y.2.2.2.2.1.2.1, fun q hq => Y.2.2.2.2.1.2.2 q (List.mem_of_mem_take hq)⟩, fun q hq => Y.2.2.2.2.2 q (List.mem_of_mem_take hq)⟩
def cT (N : Nat) : Nat := if N = 1 then 1 else if N = 2 then 2 else if N = 3 then 6 else 24
set_option maxRecDepth 100000 in
theorem ord_cT {N : Nat} (h1 : 1 ≤ N) (h4 : N ≤ 4) : (ord N).1 = cT N := by
  have : ∀ N : Fin 5, 1 ≤ N.1 → (ord N.1).1 = cT N.1 := by decide +kernel
  exact this ⟨N, by omega⟩ h1
set_option maxRecDepth 100000 in
theorem cT_le (N : Nat) : 1 ≤ cT N ∧ cT N ≤ 24 := by unfold cT; split <;> (try split) <;> (try split) <;> decide
/-- the seat of the value w in the order o -/
def sT (N o w : Nat) : Nat := ((List.range N).find? (fun t => vT N (4 * o + t) == w)).getD 0
set_option maxRecDepth 100000 in
theorem vs_T {N o t : Nat} (h1 : 1 ≤ N) (h4 : N ≤ 4) (ho : o < cT N) (ht : t < N) : vT N (4 * o + t) < N ∧ sT N o (vT N (4 * o + t)) = t ∧ sT N o t < N ∧ vT N (4 * o + sT N o t) = t := by
  have : ∀ N : Fin 5, 1 ≤ N.1 → ∀ o : Fin 24, o.1 < cT N.1 → ∀ t : Fin 4, t.1 < N.1 → (vT N.1 (4 * o.1 + t.1) < N.1 ∧ sT N.1 o.1 (vT N.1 (4 * o.1 + t.1)) = t.1 ∧ sT N.1 o.1 t.1 < N.1 ∧ vT N.1 (4 * o.1 + sT N.1 o.1 t.1) = t.1) := by decide +kernel
  exact this ⟨N, by omega⟩ h1 ⟨o, by have := cT_le N; omega⟩ ho ⟨t, by omega⟩ ht
set_option maxRecDepth 100000 in
theorem tk_T {N o p : Nat} (h1 : 1 ≤ N) (h4 : N ≤ 4) (ho : o < cT N) (hp : p < 32) : tb ((ord N).2.1 o) p = decide (p / 4 < N ∧ vT N (4 * o + p / 4) = p % 4) := by
  have : ∀ N : Fin 5, 1 ≤ N.1 → ∀ o : Fin 24, o.1 < cT N.1 → ∀ p : Fin 32, tb ((ord N.1).2.1 o.1) p.1 = decide (p.1 / 4 < N.1 ∧ vT N.1 (4 * o.1 + p.1 / 4) = p.1 % 4) := by decide +kernel
  exact this ⟨N, by omega⟩ h1 ⟨o, by have := cT_le N; omega⟩ ho ⟨p, hp⟩
set_option maxRecDepth 100000 in
theorem al_T {N p : Nat} (h1 : 1 ≤ N) (h4 : N ≤ 4) (hp : p < 32) : tb ((ord N).2.2.2) p = decide (p / 4 < N ∧ p % 4 < N) := by
  have : ∀ N : Fin 5, 1 ≤ N.1 → ∀ p : Fin 32, tb ((ord N.1).2.2.2) p.1 = decide (p.1 / 4 < N.1 ∧ p.1 % 4 < N.1) := by decide +kernel
  exact this ⟨N, by omega⟩ h1 ⟨p, hp⟩
/-! a number's digits, the last kind's first -/
def dg (oc : Nat → Nat) : Nat → Nat → Nat → Nat
  | 0, _, _ => 0
  | K + 1, i, kd => if kd = K then i % oc K else dg oc K (i / oc K) kd
set_option maxRecDepth 100000 in
theorem dg_lt {oc : Nat → Nat} : ∀ {K i kd : Nat}, kd < K → (∀ k, k < K → 0 < oc k) → dg oc K i kd < oc kd
  | 0, _, _, h, _ => absurd h (by omega)
  | K + 1, i, kd, h, hp => by
    unfold dg
    split
    · rename_i e; subst e; exact Nat.mod_lt _ (hp _ (by omega))
    · exact dg_lt (by omega) (fun k hk => hp k (by omega))
end ORT

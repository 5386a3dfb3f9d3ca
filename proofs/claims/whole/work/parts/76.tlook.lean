section TLO
variable {N K M cc : Nat} {φ : Nat → PhiT}
abbrev oW (op oc : Nat → Nat) (K j kd : Nat) : Nat := op (24 * kd + dg oc K j kd)
def mW (N K : Nat) (φ : PhiT) (op oc : Nat → Nat) (j : Nat) : Int32 := φ (nA (fun x => sT N (oW op oc K j (x / 4)) (x % 4)))
set_option maxRecDepth 10000 in
theorem se_fold {tkf : Nat → Int32} {ws : WS} : ∀ (k a : Nat) (f : Nat → Int32), (∀ kd, a ≤ kd → kd < a + k → (List.range' a k).foldl (fun f kd => upd f kd (f kd ||| tkf (wOrd ws kd))) f kd = f kd ||| tkf (wOrd ws kd)) ∧ ∀ j, (j < a ∨ a + k ≤ j) → (List.range' a k).foldl (fun f kd => upd f kd (f kd ||| tkf (wOrd ws kd))) f j = f j
  | 0, a, f => ⟨fun kd h1 h2 => by omega, fun _ _ => rfl⟩
  | k + 1, a, f => by
    rw [List.range'_succ, List.foldl_cons]
    have ih := se_fold (tkf := tkf) (ws := ws) k (a + 1) (upd f a (f a ||| tkf (wOrd ws a)))
    refine ⟨fun kd h1 h2 => ?_, fun j hj => ?_⟩
    · by_cases e : kd = a
      · subst e
        rw [ih.2 _ (by omega)]; exact upd_ss _ _ _
      · rw [ih.1 kd (by omega) (by omega), upd_nn _ _ e]
    · rw [ih.2 j (by omega), upd_nn _ _ (by omega)]
/-- what was seen in the layouts below i -/
def LkI (N K : Nat) (tkf : Nat → Int32) (φ : PhiT) (op oc : Nat → Nat) (pa : Int32) (i : Nat) (x : (Nat → Int32) × Int32 × WS) : Prop :=
  (∀ kd b, kd < K → b < 32 → (tb (x.1 kd) b = true ↔ ∃ j, j < i ∧ ¬ mW N K φ op oc j &&& pa = 0 ∧ tb (tkf (oW op oc K j kd)) b = true)) ∧
  ∀ b, b < 32 → (tb x.2.1 b = true ↔ ∃ j, j < i ∧ tb (mW N K φ op oc j &&& pa) b = true)
set_option maxRecDepth 10000 in
theorem lk_I {tkf : Nat → Int32} {op oc : Nat → Nat} {pa : Int32} {ψ : PhiT} (V : ∀ th th' : Nat → Int32, (∀ kd w, kd < K → w < N → th (4 * kd + w) = th' (4 * kd + w)) → ψ th = ψ th') (h1 : 1 ≤ N ∧ N ≤ 4) (hop : ∀ kd x, kd < K → x < oc kd → op (24 * kd + x) < cT N) (hoc : ∀ kd, kd < K → 0 < oc kd) :
    ∀ (k i : Nat) (x : (Nat → Int32) × Int32 × WS), WkI N K op oc i x.2.2 → LkI N K tkf ψ op oc pa i x → LkI N K tkf ψ op oc pa (i + k) (lkL K N (vT N) tkf ψ pa k x) ∧ (lkL K N (vT N) tkf ψ pa k x).2.2.1 = op ∧ (lkL K N (vT N) tkf ψ pa k x).2.2.2.1 = oc
  | 0, i, x, W, I => ⟨I, W.1, W.2.1⟩
  | k + 1, i, x, W, I => by
    rw [lkL, show i + (k + 1) = i + 1 + k by omega]
    refine lk_I V h1 hop hoc k (i + 1) _ (W.next h1 hop hoc) ?_
    have em : ψ (nA x.2.2.2.2.2) = mW N K ψ op oc i := by
      unfold mW
      refine V _ _ (fun kd w hk hw => ?_)
      show nI _ = nI _
      rw [W.2.2.2 kd w hk hw, W.1, W.2.2.1 kd hk]
      dsimp only
      rw [show (4 * kd + w) / 4 = kd by omega, show (4 * kd + w) % 4 = w by omega]
    have eo : ∀ kd, kd < K → wOrd x.2.2 kd = oW op oc K i kd := fun kd hk => by
      show x.2.2.1 (24 * kd + x.2.2.2.2.1 kd) = _
      rw [W.1, W.2.2.1 kd hk]
    rw [em]
    obtain ⟨i1, i2⟩ := I
    have up : ∀ {R : Nat → Prop}, (∃ j, j < i ∧ R j) → ∃ j, j < i + 1 ∧ R j := fun ⟨j, a, b⟩ => ⟨j, by omega, b⟩
    by_cases q : mW N K ψ op oc i &&& pa = 0
    · rw [if_pos q, if_pos q]
      refine ⟨fun kd b hk hb => ?_, fun b hb => ?_⟩
      · show tb (x.1 kd) b = true ↔ _
        rw [i1 kd b hk hb]
        refine ⟨up, ?_⟩
        rintro ⟨j, hj, y, z⟩
        by_cases e : j = i
        · subst e; exact absurd q y
        · exact ⟨j, by omega, y, z⟩
      · show tb x.2.1 b = true ↔ _
        rw [i2 b hb]
        refine ⟨up, ?_⟩
        rintro ⟨j, hj, y⟩
        by_cases e : j = i
        · subst e; rw [q, tb_0] at y; exact absurd y (by decide)
        · exact ⟨j, by omega, y⟩
    · rw [if_neg q, if_neg q]
      refine ⟨fun kd b hk hb => ?_, fun b hb => ?_⟩
      · show tb (seeF K tkf x.2.2 x.1 kd) b = true ↔ _
        unfold seeF
        rw [(se_fold (tkf := tkf) (ws := x.2.2) K 0 x.1).1 kd (by omega) (by omega), tb_or, Bool.or_eq_true, i1 kd b hk hb, eo kd hk]
        constructor
        · rintro (y | y)
          · exact up y
          · exact ⟨i, by omega, q, y⟩
        · rintro ⟨j, hj, y, z⟩
          by_cases e : j = i
          · subst e; exact Or.inr z
          · exact Or.inl ⟨j, by omega, y, z⟩
      · show tb (x.2.1 ||| (mW N K ψ op oc i &&& pa)) b = true ↔ _
        rw [tb_or, Bool.or_eq_true, i2 b hb]
        constructor
        · rintro (y | y)
          · exact up y
          · exact ⟨i, by omega, y⟩
        · rintro ⟨j, hj, y⟩
          by_cases e : j = i
          · subst e; exact Or.inr y
          · exact Or.inl ⟨j, by omega, y⟩
/-- class and reference: what is crossed out -/
def RelX (N K M : Nat) (A : Nat → Int32) (B : Int32) (my be : Nat → Int32) : Prop :=
  (∀ kd p, kd < K → p < 32 → tb (A kd) p = (decide (p / 4 < N) && tb (my (4 * kd + p / 4)) (p % 4))) ∧
  (∀ kd t p, kd < K → t < N → N ≤ p → p < 32 → tb (my (4 * kd + t)) p = false) ∧
  (∀ p, p < 32 → tb B p = (decide (p / 2 < M) && tb (be (p / 2)) (p % 2))) ∧
  ∀ q p, q < M → 2 ≤ p → p < 32 → tb (be q) p = false
set_option maxRecDepth 10000 in
theorem op_fold {mb : Int32} {b : Nat} (hb : b < 32) : ∀ (k a : Nat) (w : Int32), a + k ≤ 3 → (tb ((List.range' a k).foldl (opS mb) w) b = true ↔ tb w b = true ∧ ∀ q, a ≤ q → q < a + k → tb mb (2 * q + (if tb (truthF q) b = true then 1 else 0)) = true)
  | 0, a, w, _ => ⟨fun h => ⟨h, fun q h1 h2 => by omega⟩, fun h => h.1⟩
  | k + 1, a, w, ha => by
    rw [List.range'_succ, List.foldl_cons, op_fold hb k (a + 1) _ (by omega)]
    have e2 : (2 * nI a : Int32) = nI (2 * a) := by rw [show (2 : Int32) = nI 2 from rfl, pk_mul]
    have b0 : ((mb >>> ((2 * nI a) &&& 31)) &&& 3) &&& 1 = bI (tb mb (2 * a) = true) := by
      rw [e2, Int32.and_assoc, show (3 : Int32) &&& 1 = 1 from rfl]
      exact tb_low (by omega)
    have b1 : (((mb >>> ((2 * nI a) &&& 31)) &&& 3) &&& 2 = 0) ↔ ¬ tb mb (2 * a + 1) = true := by
      rw [e2, Int32.and_assoc, show (3 : Int32) &&& 2 = 2 from rfl, tb_z]
      have t2 : ∀ p : Fin 32, tb 2 p.1 = decide (p.1 = 1) := by decide +kernel
      constructor
      · intro y z
        have := y 1 (by decide)
        rw [tb_and, t2 ⟨1, by decide⟩, tb_shr (by omega) (by omega), z] at this
        exact absurd this (by decide)
      · intro y p hp
        rw [tb_and, t2 ⟨p, hp⟩]
        by_cases e : p = 1
        · subst e
          rw [tb_shr (by omega) (by omega), Bool.eq_false_iff.mpr y, Bool.false_and]
        · rw [decide_eq_false e, Bool.and_false]
    have key : tb (opS mb w a) b = true ↔ tb w b = true ∧ tb mb (2 * a + (if tb (truthF a) b = true then 1 else 0)) = true := by
      unfold opS
      rw [tb_and, tb_or, Bool.and_eq_true, Bool.or_eq_true, b0]
      refine and_congr Iff.rfl ?_
      by_cases tr : tb (truthF a) b = true
      · rw [if_pos tr]
        constructor
        · rintro (y | y)
          · split at y
            · rw [tb_0] at y; exact absurd y (by decide)
            · rw [tb_not _ hb, tr] at y; exact absurd y (by decide)
          · split at y
            · rw [tb_0] at y; exact absurd y (by decide)
            · rename_i z; exact Decidable.byContradiction (fun u => z (b1.mpr u))
        · intro y
          right
          rw [if_neg (fun z => b1.mp z y)]
          exact tr
      · rw [if_neg tr, Nat.add_zero]
        constructor
        · rintro (y | y)
          · split at y
            · rw [tb_0] at y; exact absurd y (by decide)
            · rename_i z; exact bI_ne z
          · split at y
            · rw [tb_0] at y; exact absurd y (by decide)
            · exact absurd y tr
        · intro y
          left
          rw [if_neg (by rw [bI_t y]; decide), tb_not _ hb, Bool.eq_false_iff.mpr tr]
          rfl
    rw [key]
    constructor
    · rintro ⟨⟨y1, y2⟩, y3⟩
      refine ⟨y1, fun q h1 h2 => ?_⟩
      by_cases e : q = a
      · subst e; exact y2
      · exact y3 q (by omega) (by omega)
    · rintro ⟨y1, y2⟩
      exact ⟨⟨y1, y2 a (by omega) (by omega)⟩, fun q h1 h2 => y2 q (by omega) (by omega)⟩
set_option maxRecDepth 10000 in
theorem wi_fold {pts : Int32} {b : Nat} (hb : b < 32) : ∀ (k a : Nat) (w : Int32), a + k ≤ 3 → (tb ((List.range' a k).foldl (wiS pts) w) b = true ↔ tb w b = true ∨ (a ≤ b / 2 ∧ b / 2 < a + k ∧ ∃ p, p < 32 ∧ tb pts p = true ∧ tb (truthF (b / 2)) p = decide (b % 2 = 1)))
  | 0, a, w, _ => ⟨Or.inl, fun h => h.elim id (fun h => by omega)⟩
  | k + 1, a, w, ha => by
    rw [List.range'_succ, List.foldl_cons, wi_fold hb k (a + 1) _ (by omega)]
    have e2 : (2 * nI a : Int32) = nI (2 * a) := by rw [show (2 : Int32) = nI 2 from rfl, pk_mul]
    have z0 : ¬ pts &&& (truthF a ^^^ (-1)) = 0 ↔ ∃ p, p < 32 ∧ tb pts p = true ∧ tb (truthF a) p = false := by
      rw [tb_nz]
      constructor
      · rintro ⟨p, hp, y⟩
        rw [tb_and, tb_not _ hp, Bool.and_eq_true, Bool.not_eq_true'] at y
        exact ⟨p, hp, y.1, y.2⟩
      · rintro ⟨p, hp, y1, y2⟩
        exact ⟨p, hp, by rw [tb_and, tb_not _ hp, y1, y2]; rfl⟩
    have z1 : ¬ pts &&& truthF a = 0 ↔ ∃ p, p < 32 ∧ tb pts p = true ∧ tb (truthF a) p = true := by
      rw [tb_nz]
      constructor
      · rintro ⟨p, hp, y⟩
        rw [tb_and, Bool.and_eq_true] at y
        exact ⟨p, hp, y.1, y.2⟩
      · rintro ⟨p, hp, y1, y2⟩
        exact ⟨p, hp, by rw [tb_and, y1, y2]; rfl⟩
    have sh : ∀ (u v : Bool) (a : Fin 3) (b : Fin 32), tb (((if u then 1 else 0 : Int32) ||| (if v then 2 else 0)) <<< (nI (2 * a.1) &&& 31)) b.1 = ((u && decide (b.1 = 2 * a.1)) || (v && decide (b.1 = 2 * a.1 + 1))) := by decide +kernel
    have key : tb (wiS pts w a) b = true ↔ tb w b = true ∨ (b / 2 = a ∧ ∃ p, p < 32 ∧ tb pts p = true ∧ tb (truthF a) p = decide (b % 2 = 1)) := by
      unfold wiS
      rw [tb_or, Bool.or_eq_true, e2]
      refine or_congr Iff.rfl ?_
      have c0 : (if pts &&& (truthF a ^^^ (-1)) = 0 then (0 : Int32) else 1) = if decide (¬ pts &&& (truthF a ^^^ (-1)) = 0) = true then 1 else 0 := by
        by_cases y : pts &&& (truthF a ^^^ (-1)) = 0
        · rw [if_pos y, if_neg (by rw [decide_eq_true_iff]; exact fun z => z y)]
        · rw [if_neg y, if_pos (by rw [decide_eq_true_iff]; exact y)]
      have c1 : (if pts &&& truthF a = 0 then (0 : Int32) else 2) = if decide (¬ pts &&& truthF a = 0) = true then 2 else 0 := by
        by_cases y : pts &&& truthF a = 0
        · rw [if_pos y, if_neg (by rw [decide_eq_true_iff]; exact fun z => z y)]
        · rw [if_neg y, if_pos (by rw [decide_eq_true_iff]; exact y)]
      rw [c0, c1, sh _ _ ⟨a, by omega⟩ ⟨b, hb⟩]
      show ((decide _ && decide (b = 2 * a)) || (decide _ && decide (b = 2 * a + 1))) = true ↔ _
      rw [Bool.or_eq_true, Bool.and_eq_true, Bool.and_eq_true, decide_eq_true_iff, decide_eq_true_iff, decide_eq_true_iff, decide_eq_true_iff, z0, z1]
      constructor
      · rintro (⟨⟨p, y1, y2, y3⟩, y4⟩ | ⟨⟨p, y1, y2, y3⟩, y4⟩)
        · exact ⟨by omega, p, y1, y2, by rw [y3, decide_eq_false (by omega)]⟩
        · exact ⟨by omega, p, y1, y2, by rw [y3, decide_eq_true (by omega)]⟩
      · rintro ⟨y0, p, y1, y2, y3⟩
        by_cases e : b % 2 = 1
        · rw [decide_eq_true e] at y3
          exact Or.inr ⟨⟨p, y1, y2, y3⟩, by omega⟩
        · rw [decide_eq_false e] at y3
          exact Or.inl ⟨⟨p, y1, y2, y3⟩, by omega⟩
    rw [key]
    constructor
    · rintro ((y | ⟨y0, y⟩) | ⟨y1, y2, y3⟩)
      · exact Or.inl y
      · rw [← y0] at y
        exact Or.inr ⟨by omega, by omega, y⟩
      · exact Or.inr ⟨by omega, by omega, y3⟩
    · rintro (y | ⟨y1, y2, y3⟩)
      · exact Or.inl (Or.inl y)
      · by_cases e : b / 2 = a
        · rw [e] at y3
          exact Or.inl (Or.inr ⟨e, y3⟩)
        · exact Or.inr ⟨by omega, by omega, y3⟩
end TLO

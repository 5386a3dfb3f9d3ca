section TCU
variable {N K M cc : Nat} {φ : Nat → PhiT}
set_option maxRecDepth 10000 in
theorem suT_cg {g g' : Nat → Nat} : ∀ (n : Nat), (∀ t, t < n → g t = g' t) → suT g n = suT g' n
  | 0, _ => rfl
  | n + 1, h => by rw [suT, suT, suT_cg n (fun t ht => h t (by omega)), h n (by omega)]
set_option maxRecDepth 10000 in
theorem suT_0 {g : Nat → Nat} : ∀ {n : Nat}, suT g n = 0 → ∀ t, t < n → g t = 0
  | 0, _, t, h => absurd h (by omega)
  | n + 1, hs, t, h => by
    rw [suT] at hs
    by_cases e : t = n
    · subst e; omega
    · exact suT_0 (n := n) (by omega) t (by omega)
set_option maxRecDepth 10000 in
theorem suT_le {g : Nat → Nat} {b : Nat} : ∀ (n : Nat), (∀ t, t < n → g t ≤ b) → suT g n ≤ n * b
  | 0, _ => Nat.zero_le _
  | n + 1, h => by
    rw [suT, Nat.add_mul, Nat.one_mul]
    exact Nat.add_le_add (suT_le n (fun t ht => h t (by omega))) (h n (by omega))
set_option maxRecDepth 10000 in
theorem suT_add {g g' : Nat → Nat} : ∀ (n : Nat), suT (fun t => g t + g' t) n = suT g n + suT g' n
  | 0 => rfl
  | n + 1 => by rw [suT, suT, suT, suT_add n]; omega
set_option maxRecDepth 10000 in
theorem suT_4 {g : Nat → Nat} (h1 : 1 ≤ N ∧ N ≤ 4) : (if 0 < N then g 0 else 0) + (if 1 < N then g 1 else 0) + (if 2 < N then g 2 else 0) + (if 3 < N then g 3 else 0) = suT g N := by
  rcases (show N = 1 ∨ N = 2 ∨ N = 3 ∨ N = 4 by omega) with rfl | rfl | rfl | rfl <;> simp [suT]
set_option maxRecDepth 10000 in
theorem cut_k {A SA : Nat → Int32} {B SB : Int32} {my be so sb : Nat → Int32} {kd : Nat} (h1 : 1 ≤ N ∧ N ≤ 4) (R : RelX N K M A B my be) (S : RelX N K M SA SB so sb) (hk : kd < K) : bcF (A kd &&& (SA kd ^^^ (-1))) = nI (muT my so N kd) := by
  have hb : ∀ p, p < 32 → tb (A kd &&& (SA kd ^^^ (-1))) p = (decide (p / 4 < N) && tb (my (4 * kd + p / 4) &&& (so (4 * kd + p / 4) ^^^ (-1))) (p % 4)) := by
    intro p hp
    rw [tb_and, tb_not _ hp, R.1 kd p hk hp, S.1 kd p hk hp, tb_and, tb_not _ (by omega)]
    cases decide (p / 4 < N) <;> simp
  rw [bcF_16 (fun p h16 hp => by rw [hb p hp, decide_eq_false (by omega), Bool.false_and])]
  have e : ∀ t, t < 4 → p4 (A kd &&& (SA kd ^^^ (-1))) t = if t < N then cfN (my (4 * kd + t) &&& (so (4 * kd + t) ^^^ (-1))) else 0 := by
    intro t ht
    unfold p4 cfN
    rw [hb (4 * t) (by omega), hb (4 * t + 1) (by omega), hb (4 * t + 2) (by omega), hb (4 * t + 3) (by omega), show 4 * t / 4 = t by omega, show (4 * t + 1) / 4 = t by omega, show (4 * t + 2) / 4 = t by omega, show (4 * t + 3) / 4 = t by omega, show 4 * t % 4 = 0 by omega, show (4 * t + 1) % 4 = 1 by omega, show (4 * t + 2) % 4 = 2 by omega, show (4 * t + 3) % 4 = 3 by omega]
    by_cases q : t < N
    · rw [if_pos q, decide_eq_true q, Bool.true_and, Bool.true_and, Bool.true_and, Bool.true_and]
    · rw [if_neg q, decide_eq_false q]; rfl
  rw [e 0 (by decide), e 1 (by decide), e 2 (by decide), e 3 (by decide)]
  unfold muT
  rw [suT_4 (g := fun t => cfN (my (4 * kd + t) &&& (so (4 * kd + t) ^^^ (-1)))) h1]
set_option maxRecDepth 10000 in
theorem cut_b {A SA : Nat → Int32} {B SB : Int32} {my be so sb : Nat → Int32} (hM : M ≤ 3) (R : RelX N K M A B my be) (S : RelX N K M SA SB so sb) : bcF (B &&& (SB ^^^ (-1))) = nI (muB be sb M) := by
  have hb : ∀ p, p < 32 → tb (B &&& (SB ^^^ (-1))) p = (decide (p / 2 < M) && tb (be (p / 2) &&& (sb (p / 2) ^^^ (-1))) (p % 2)) := by
    intro p hp
    rw [tb_and, tb_not _ hp, R.2.2.1 p hp, S.2.2.1 p hp, tb_and, tb_not _ (by omega)]
    cases decide (p / 2 < M) <;> simp
  rw [bcF_16 (fun p h16 hp => by rw [hb p hp, decide_eq_false (by omega), Bool.false_and])]
  have z : ∀ q, q < M → cfN (be q &&& (sb q ^^^ (-1))) = (if tb (be q &&& (sb q ^^^ (-1))) 0 = true then 1 else 0) + (if tb (be q &&& (sb q ^^^ (-1))) 1 = true then 1 else 0) := by
    intro q hq
    have z2 : tb (be q &&& (sb q ^^^ (-1))) 2 = false := by rw [tb_and, R.2.2.2 q 2 hq (by omega) (by omega), Bool.false_and]
    have z3 : tb (be q &&& (sb q ^^^ (-1))) 3 = false := by rw [tb_and, R.2.2.2 q 3 hq (by omega) (by omega), Bool.false_and]
    unfold cfN
    rw [z2, z3]
    rfl
  congr 1
  unfold p4 muB
  rw [hb (4 * 0) (by omega), hb (4 * 0 + 1) (by omega), hb (4 * 0 + 2) (by omega), hb (4 * 0 + 3) (by omega), hb (4 * 1) (by omega), hb (4 * 1 + 1) (by omega), hb (4 * 1 + 2) (by omega), hb (4 * 1 + 3) (by omega), hb (4 * 2) (by omega), hb (4 * 2 + 1) (by omega), hb (4 * 2 + 2) (by omega), hb (4 * 2 + 3) (by omega), hb (4 * 3) (by omega), hb (4 * 3 + 1) (by omega), hb (4 * 3 + 2) (by omega), hb (4 * 3 + 3) (by omega)]
  simp only [Nat.reduceMul, Nat.reduceAdd, Nat.reduceDiv, Nat.reduceMod]
  rcases (show M = 0 ∨ M = 1 ∨ M = 2 ∨ M = 3 by omega) with rfl | rfl | rfl | rfl
  · simp [suT]
  · have z0 := z 0 (by decide)
    simp [suT] at z0 ⊢
    omega
  · have z0 := z 0 (by decide)
    have z1 := z 1 (by decide)
    simp [suT] at z0 z1 ⊢
    omega
  · have z0 := z 0 (by decide)
    have z1 := z 1 (by decide)
    have z2 := z 2 (by decide)
    simp [suT] at z0 z1 z2 ⊢
    omega
set_option maxRecDepth 10000 in
theorem cu_T {s : XS} {my be so sb : Nat → Int32} (h1 : 1 ≤ N ∧ N ≤ 4) (hM : M ≤ 3) (R : RelX N K M s.1 s.2.2.1 my be) (S : RelX N K M s.2.1 s.2.2.2.1 so sb) : cuF K s = nI (muN my so N K + muB be sb M) := by
  have key : ∀ (k a : Nat) (u : Int32), a + k = K → u = nI (muN my so N a + muB be sb M) → (List.range' a k).foldl (fun u kd => u + bcF (s.1 kd &&& (s.2.1 kd ^^^ (-1)))) u = nI (muN my so N K + muB be sb M) := by
    intro k
    induction k with
    | zero =>
      intro a u ha hu
      have ha : a = K := by omega
      subst ha
      exact hu
    | succ k ih =>
      intro a u ha hu
      rw [List.range'_succ, List.foldl_cons]
      refine ih (a + 1) _ (by omega) ?_
      rw [hu, cut_k h1 R S (by omega), nI_add]
      congr 1
      show _ = muN my so N a + muT my so N a + _
      omega
  unfold cuF
  refine key K 0 _ (by omega) ?_
  rw [cut_b hM R S]
  congr 1
  show _ = 0 + _
  omega
/-! what is crossed out is gone -/
set_option maxRecDepth 10000 in
theorem so_sub {my be so : Nat → Int32} {c kd t p : Nat} (hso : SoB N K M φ my be c so (stN N K M)) (hk : kd < K) (ht : t < N) (hp : p < 32) (h : tb (so (4 * kd + t)) p = true) : tb (my (4 * kd + t)) p = true := by
  rw [hso kd t p hk ht hp] at h
  unfold svB at h
  rw [exP_i] at h
  obtain ⟨st, _, y⟩ := h
  rw [Bool.and_eq_true] at y
  have es := y.1
  unfold esB at es
  rw [Bool.and_eq_true, opB_i] at es
  have := es.2.1 kd hk t ht
  rw [beq_iff_eq.mp y.2] at this
  exact this
set_option maxRecDepth 10000 in
theorem sb_sub {my be sb : Nat → Int32} {c q p : Nat} (hsb : SbB N K M φ my be c sb (stN N K M)) (hq : q < M) (hp : p < 32) (h : tb (sb q) p = true) : tb (be q) p = true := by
  rw [hsb q p hq hp] at h
  unfold sbB at h
  rw [exP_i] at h
  obtain ⟨st, _, y⟩ := h
  rw [Bool.and_eq_true] at y
  have es := y.1
  unfold esB at es
  rw [Bool.and_eq_true, opB_i] at es
  have := es.2.2 q hq
  rw [beq_iff_eq.mp y.2] at this
  exact this
set_option maxRecDepth 10000 in
theorem RelX.cg {A : Nat → Int32} {B : Int32} {my be my' be' : Nat → Int32} (R : RelX N K M A B my be) (e1 : ∀ kd t, kd < K → t < N → my' (4 * kd + t) = my (4 * kd + t)) (e2 : ∀ q, q < M → be' q = be q) : RelX N K M A B my' be' := by
  refine ⟨fun kd p hk hp => ?_, fun kd t p hk ht hN hp => by rw [e1 kd t hk ht]; exact R.2.1 kd t p hk ht hN hp, fun p hp => ?_, fun q p hq h2 hp => by rw [e2 q hq]; exact R.2.2.2 q p hq h2 hp⟩
  · rw [R.1 kd p hk hp]
    by_cases e : p / 4 < N
    · rw [e1 kd _ hk e]
    · rw [decide_eq_false e, Bool.false_and, Bool.false_and]
  · rw [R.2.2.1 p hp]
    by_cases e : p / 2 < M
    · rw [e2 _ e]
    · rw [decide_eq_false e, Bool.false_and, Bool.false_and]
set_option maxRecDepth 10000 in
/-- after a step: what was seen stands -/
theorem rel_step {A SA A' : Nat → Int32} {B SB : Int32} {my be so sb my' be' : Nat → Int32} {c : Nat} (S : RelX N K M SA SB so sb) (hso : SoB N K M φ my be c so (stN N K M)) (hsb : SbB N K M φ my be c sb (stN N K M)) (e1 : ∀ kd t, kd < K → t < N → my' (4 * kd + t) = my (4 * kd + t) &&& so (4 * kd + t)) (e2 : ∀ q, q < M → be' q = be q &&& sb q) (eA : ∀ kd, kd < K → A' kd = SA kd) : RelX N K M A' SB my' be' := by
  have S2 : RelX N K M SA SB my' be' := S.cg (fun kd t hk ht => by
    rw [e1 kd t hk ht]
    refine tb_ext (fun p hp => ?_)
    rw [tb_and]
    cases y : tb (so (4 * kd + t)) p
    · rw [Bool.and_false]
    · rw [so_sub hso hk ht hp y]; rfl) (fun q hq => by
    rw [e2 q hq]
    refine tb_ext (fun p hp => ?_)
    rw [tb_and]
    cases y : tb (sb q) p
    · rw [Bool.and_false]
    · rw [sb_sub hsb hq hp y]; rfl)
  refine ⟨fun kd p hk hp => by rw [eA kd hk]; exact S2.1 kd p hk hp, S2.2.1, S2.2.2.1, S2.2.2.2⟩
set_option maxRecDepth 10000 in
theorem cfN_0 {x : Int32} (h : cfN x = 0) {p : Nat} (hp : p < 4) : tb x p = false := by
  unfold cfN at h
  rcases (show p = 0 ∨ p = 1 ∨ p = 2 ∨ p = 3 by omega) with rfl | rfl | rfl | rfl
  · cases y : tb x 0
    · rfl
    · rw [y, if_pos rfl] at h; omega
  · cases y : tb x 1
    · rfl
    · rw [y, if_pos (rfl : true = true)] at h; omega
  · cases y : tb x 2
    · rfl
    · rw [y, if_pos (rfl : true = true)] at h; omega
  · cases y : tb x 3
    · rfl
    · rw [y, if_pos (rfl : true = true)] at h; omega
set_option maxRecDepth 10000 in
/-- nothing crossed out: all stands -/
theorem rel_none {A : Nat → Int32} {B : Int32} {my be so sb my' be' : Nat → Int32} (h1 : 1 ≤ N ∧ N ≤ 4) (R : RelX N K M A B my be) (z : muN my so N K + muB be sb M = 0) (e1 : ∀ kd t, kd < K → t < N → my' (4 * kd + t) = my (4 * kd + t) &&& so (4 * kd + t)) (e2 : ∀ q, q < M → be' q = be q &&& sb q) : RelX N K M A B my' be' := by
  have zn : ∀ (x y : Int32), (∀ p, 4 ≤ p → p < 32 → tb x p = false) → cfN (x &&& (y ^^^ (-1))) = 0 → x &&& y = x := by
    intro x y hx h
    refine tb_ext (fun p hp => ?_)
    rw [tb_and]
    by_cases e : p < 4
    · have := cfN_0 h e
      rw [tb_and, tb_not _ hp] at this
      cases u : tb x p
      · rfl
      · rw [u, Bool.true_and] at this
        rw [Bool.true_and]
        simpa using this
    · rw [hx p (by omega) hp, Bool.false_and]
  refine R.cg (fun kd t hk ht => ?_) (fun q hq => ?_)
  · rw [e1 kd t hk ht]
    refine zn _ _ (fun p h4 hp => R.2.1 kd t p hk ht (by omega) hp) ?_
    have a := suT_0 (g := muT my so N) (n := K) (show muN my so N K = 0 by omega) kd hk
    exact suT_0 (g := fun t => cfN (my (4 * kd + t) &&& (so (4 * kd + t) ^^^ (-1)))) (n := N) a t ht
  · rw [e2 q hq]
    refine zn _ _ (fun p h4 hp => R.2.2.2 q p hq (by omega) hp) ?_
    exact suT_0 (g := fun q => cfN (be q &&& (sb q ^^^ (-1)))) (n := M) (show muB be sb M = 0 by omega) q hq
/-! how much is left -/
def potF (my be : Nat → Int32) (N K M : Nat) : Nat := suT (fun kd => suT (fun t => cfN (my (4 * kd + t))) N) K + suT (fun q => cfN (be q)) M
set_option maxRecDepth 10000 in
theorem cfN_sp (x y : Int32) : cfN (x &&& y) + cfN (x &&& (y ^^^ (-1))) = cfN x := by
  unfold cfN
  simp only [tb_and, tb_not _ (show 0 < 32 by decide), tb_not _ (show 1 < 32 by decide), tb_not _ (show 2 < 32 by decide), tb_not _ (show 3 < 32 by decide)]
  have k : ∀ a b : Bool, (if (a && b) = true then 1 else 0) + (if (a && !b) = true then 1 else 0) = (if a = true then 1 else 0 : Nat) := by decide
  have k0 := k (tb x 0) (tb y 0)
  have k1 := k (tb x 1) (tb y 1)
  have k2 := k (tb x 2) (tb y 2)
  have k3 := k (tb x 3) (tb y 3)
  omega
set_option maxRecDepth 10000 in
theorem pot_step {my be so sb my' be' : Nat → Int32} (e1 : ∀ kd t, kd < K → t < N → my' (4 * kd + t) = my (4 * kd + t) &&& so (4 * kd + t)) (e2 : ∀ q, q < M → be' q = be q &&& sb q) : potF my' be' N K M + (muN my so N K + muB be sb M) = potF my be N K M := by
  have a : suT (fun kd => suT (fun t => cfN (my (4 * kd + t))) N) K = suT (fun kd => suT (fun t => cfN (my' (4 * kd + t))) N) K + muN my so N K := by
    unfold muN
    rw [← suT_add]
    refine suT_cg K (fun kd hk => ?_)
    unfold muT
    rw [← suT_add]
    refine suT_cg N (fun t ht => ?_)
    rw [e1 kd t hk ht, cfN_sp]
  have b : suT (fun q => cfN (be q)) M = suT (fun q => cfN (be' q)) M + muB be sb M := by
    unfold muB
    rw [← suT_add]
    refine suT_cg M (fun q hq => ?_)
    rw [e2 q hq, cfN_sp]
  unfold potF
  omega
end TCU

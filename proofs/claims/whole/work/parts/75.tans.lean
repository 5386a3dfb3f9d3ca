section TAN
variable {N K M cc : Nat} {φ : Nat → PhiT}
set_option maxRecDepth 10000 in
theorem kp_flag {A : Int32} {ws : WS} : ∀ (l : List Nat) (s : AS), (l.foldl (kpS K ws A) s).2.2.2.2.2.2.2 = s.2.2.2.2.2.2.2
  | [], _ => rfl
  | a :: l, s => by
    rw [List.foldl_cons, kp_flag (A := A) (ws := ws) l]
    unfold kpS
    split <;> rfl
set_option maxRecDepth 10000 in
theorem anNeed_flag {p : Int32} (s1 : AS) : (anNeed cc s1 p).2.2.2.2.2.2.2 = s1.2.2.2.2.2.2.2 := rfl
set_option maxRecDepth 10000 in
theorem anWeigh_flag {pM : Int32} {ws : WS} {s : AS} : (anWeigh cc K pM φ ws s).2.2.2.2.2.2.2 = s.2.2.2.2.2.2.2 := by
  unfold anWeigh anEnd
  generalize (List.range' 0 cc).foldl (wlS φ (nA ws.2.2.2)) (s.2.2.2.1, pM, 0) = x
  have e : (anAdd K ws (s.1, s.2.1, s.2.2.1, x.1, s.2.2.2.2) x.2.1).2.2.2.2.2.2.2 = s.2.2.2.2.2.2.2 := by
    unfold anAdd
    rw [kp_flag]
  split
  · split
    · rfl
    · exact e
  · split
    · rfl
    · rw [anNeed_flag]; exact e
set_option maxRecDepth 10000 in
theorem anLoop_flag {vf : Nat → Nat} {pM : Int32} : ∀ (k : Nat) (x : AS × WS), (anLoop cc K N vf pM φ k x).1.2.2.2.2.2.2.2 = x.1.2.2.2.2.2.2.2
  | 0, _ => rfl
  | k + 1, x => by
    rw [anLoop, anLoop_flag k]
    exact anWeigh_flag
set_option maxRecDepth 10000 in
theorem an_loop {op oc : Nat → Nat} (V : PhiV N K cc φ) (h1 : 1 ≤ N ∧ N ≤ 4) (hK : K ≤ 3) (hM : M ≤ 3) (hoc : ∀ kd, kd < K → oc kd = cT N) (hop : ∀ kd y, kd < K → y < cT N → op (24 * kd + y) = y) :
    ∀ (k i : Nat) (x : AS × WS), WB x.2 → WkI N K op oc i x.2 → AnI N K M cc φ i x.1 → AnI N K M cc φ (i + k) (anLoop cc K N (vT N) (partsF M) φ k x).1
  | 0, i, x, _, _, I => I
  | k + 1, i, x, B, W, I => by
    have hc := cT_le N
    have hop2 : ∀ kd y, kd < K → y < oc kd → op (24 * kd + y) < cT N := fun kd y hk hy => by rw [hoc kd hk] at hy; rw [hop kd y hk hy]; exact hy
    have hoc2 : ∀ kd, kd < K → 0 < oc kd := fun kd hk => by rw [hoc kd hk]; omega
    have ed : ∀ kd, kd < K → x.2.2.2.1 kd = dg (fun _ => cT N) K i kd := fun kd hk => by rw [W.2.2.1 kd hk]; exact dg_cg K i kd hoc
    have ew : ∀ kd, kd < K → x.2.1 (24 * kd + x.2.2.2.1 kd) = dg (fun _ => cT N) K i kd := fun kd hk => by
      rw [W.1, ed kd hk]
      exact hop kd _ hk (dg_lt hk (fun _ _ => hc.1))
    rw [anLoop, show i + (k + 1) = i + 1 + k by omega]
    refine an_loop V h1 hK hM hoc hop k (i + 1) _ (nxF_WB K _ B) (W.next h1 hop2 hoc2) ?_
    refine an_step V h1 hK hM (fun kd => B.1 _) ew (fun kd w hk hw => ?_) I
    rw [W.2.2.2 kd w hk hw, ew kd hk]
set_option maxRecDepth 10000 in
theorem prod_c {C : Nat} {a : Nat → Nat} : ∀ (k : Nat), (∀ kd, kd < k → a kd = C) → (List.range' 0 k).foldl (fun p kd => p * a kd) 1 = C ^ k
  | 0, _ => rfl
  | k + 1, h => by
    rw [List.range'_concat, List.foldl_append, List.foldl_cons, List.foldl_nil, Nat.zero_add, Nat.one_mul, prod_c k (fun kd hk => h kd (by omega)), h k (by omega), Nat.pow_succ]
set_option maxRecDepth 10000 in
theorem opO_al {o : Nat} (h1 : 1 ≤ N ∧ N ≤ 4) (ho : o < cT N) : opO (ord N).2.1 (ord N).2.2.2 o := by
  refine tb_z.mpr (fun p hp => ?_)
  rw [tb_and, tb_not _ hp, tk_T h1.1 h1.2 ho hp, al_T h1.1 h1.2 hp]
  by_cases e : p / 4 < N ∧ vT N (4 * o + p / 4) = p % 4
  · have := (vs_T h1.1 h1.2 ho e.1).1
    rw [decide_eq_true (show p / 4 < N ∧ p % 4 < N from ⟨e.1, by omega⟩), Bool.not_true, Bool.and_false]
  · rw [decide_eq_false e, Bool.false_and]
set_option maxRecDepth 10000 in
theorem anI_0 : AnI N K M cc φ 0 ((as0.1, as0.2.1, as0.2.2.1, as0.2.2.2.1, as0.2.2.2.2.1, as0.2.2.2.2.2.1, as0.2.2.2.2.2.2.1, 1) : AS) := by
  unfold AnI
  rw [Nat.zero_mul]
  exact ⟨rfl, ⟨rfl, fun j hj => absurd hj (by simp [cnF])⟩, fun kd o _ _ => rfl, fun c _ => rfl⟩
set_option maxRecDepth 10000 in
theorem find_I {ws : WS} (V : PhiV N K cc φ) (h1 : 1 ≤ N ∧ N ≤ 4) (hK : K ≤ 3) (hM : M ≤ 3) (B : WB ws) : AnI N K M cc φ (cT N ^ K) (anFind cc K N (ord N).1 (ord N).2.1 (ord N).2.2.2 (vT N) (partsF M) φ as0 ws).1 ∧ (anFind cc K N (ord N).1 (ord N).2.1 (ord N).2.2.2 (vT N) (partsF M) φ as0 ws).1.2.2.2.2.2.2.2 = 1 := by
  have hc := cT_le N
  unfold anFind
  have I := chF_I (tkf := (ord N).2.1) (cnt := (ord N).1) (my := fillF (fun _ => 0) 3 (ord N).2.2.2) (by rw [ord_cT h1.1 h1.2]; omega) K 0 (ws.1, ws.2.1, 1) ⟨fun kd h => absurd h (by omega), rfl⟩
  have CB := chF_B (tkf := (ord N).2.1) (my := fillF (fun _ => 0) 3 (ord N).2.2.2) (cnt := (ord N).1) (by rw [ord_cT h1.1 h1.2]; omega) K 0 (ws.1, ws.2.1, 1) B.1 B.2.1
  rw [Nat.zero_add] at I
  rw [show (List.range' 0 K).foldl (chS (ord N).2.1 (ord N).1 (fillF (fun _ => 0) 3 (ord N).2.2.2)) (ws.1, ws.2.1, 1) = chF (ord N).2.1 (ord N).1 K (fillF (fun _ => 0) 3 (ord N).2.2.2) ws.1 ws.2.1 from rfl] at I CB
  generalize chF (ord N).2.1 (ord N).1 K (fillF (fun _ => 0) 3 (ord N).2.2.2) ws.1 ws.2.1 = ch at I CB ⊢
  dsimp only
  have hmy : ∀ kd, kd < K → fillF (fun _ => 0) 3 (ord N).2.2.2 kd = (ord N).2.2.2 := fun kd hk => if_pos (show kd < 3 by omega)
  rw [ord_cT h1.1 h1.2] at I
  have full : ∀ kd, kd < K → ch.2.1 kd = cT N ∧ ∀ y, y < cT N → ch.1 (24 * kd + y) = y := fun kd hk => (I.1 kd hk).2.2.2 (fun o ho => by rw [hmy kd hk]; exact opO_al h1 ho)
  have lay : ch.2.2 = cT N ^ K := by rw [I.2]; exact prod_c K (fun kd hk => (full kd hk).1)
  have W : WkI N K ch.1 ch.2.1 0 (stF (vT N) N K (ch.1, ch.2.1, ws.2.2)) := stF_I h1 (fun kd y hk hy => by rw [(full kd hk).1] at hy; rw [(full kd hk).2 y hy]; exact hy) (fun kd hk => by rw [(full kd hk).1]; omega) rfl rfl
  have WB1 : WB (stF (vT N) N K (ch.1, ch.2.1, ws.2.2)) := stF_WB _ _ ⟨CB.1, CB.2.1, B.2.2⟩
  refine ⟨?_, ?_⟩
  · have := an_loop V h1 hK hM (fun kd hk => (full kd hk).1) (fun kd y hk hy => (full kd hk).2 y hy) (cT N ^ K) 0 ((as0.1, as0.2.1, as0.2.2.1, as0.2.2.2.1, as0.2.2.2.2.1, as0.2.2.2.2.2.1, as0.2.2.2.2.2.2.1, 1), stF (vT N) N K (ch.1, ch.2.1, ws.2.2)) WB1 W anI_0
    rw [Nat.zero_add] at this
    rw [lay]
    exact this
  · rw [anLoop_flag]
/-- the class's answers beside the reference's -/
def TA (N K M cc : Nat) (φ : Nat → PhiT) (s : AS) (rn : Int32) (kp : Nat) : Prop := (s = as0 ∧ rn = 0 ∧ kp = 0) ∨ (s.2.2.2.2.2.2.2 = 1 ∧ AnI N K M cc φ (cT N ^ K) s ∧ ((rn = 0 ∧ kp = 0) ∨ (rn = 1 ∧ kp = min 100 (cnF (okS N K M cc φ) (stN N K M)))))
set_option maxRecDepth 10000 in
theorem fnd_I {s : AS} {ws : WS} {rn : Int32} {kp : Nat} (V : PhiV N K cc φ) (h1 : 1 ≤ N ∧ N ≤ 4) (hK : K ≤ 3) (hM : M ≤ 3) (B : WB ws) (T : TA N K M cc φ s rn kp) : AnI N K M cc φ (cT N ^ K) (fndF N K M cc φ s ws).1 ∧ (fndF N K M cc φ s ws).1.2.2.2.2.2.2.2 = 1 := by
  unfold fndF
  rcases T with ⟨rfl, _⟩ | ⟨h2, h3, _⟩
  · rw [if_pos (show as0.2.2.2.2.2.2.2 = 0 from rfl)]
    exact find_I V h1 hK hM B
  · rw [if_neg (by rw [h2]; decide)]
    exact ⟨h3, h2⟩
set_option maxRecDepth 10000 in
theorem stN_c : cT N ^ K * 2 ^ M = stN N K M := Nat.mul_comm _ _
/-! often -/
set_option maxRecDepth 10000 in
theorem cnF_dis {P Q R : Nat → Bool} : ∀ (b : Nat), (∀ q, q < b → R q = (P q || Q q)) → (∀ q, q < b → (P q && Q q) = false) → cnF R b = cnF P b + cnF Q b
  | 0, _, _ => rfl
  | b + 1, h1, h2 => by
    rw [cnF, cnF, cnF, cnF_dis b (fun q hq => h1 q (by omega)) (fun q hq => h2 q (by omega)), h1 b (by omega)]
    have := h2 b (by omega)
    cases hP : P b <;> cases hQ : Q b
    · rfl
    · rw [if_pos (show (false || true) = true from rfl), if_neg (by decide), if_pos rfl]; omega
    · rw [if_pos (show (true || false) = true from rfl), if_pos (show true = true from rfl), if_neg (show ¬ false = true by decide)]; omega
    · rw [hP, hQ] at this; exact absurd this (by decide)
set_option maxRecDepth 10000 in
theorem cw_I {co : Nat → Int32} {ok : Nat → Bool} {g : Nat → Nat} {vf : Nat → Nat} {S t kd w : Nat} : ∀ (k a : Nat) (u : Int32), (∀ o, a ≤ o → o < a + k → co (24 * kd + o) = nI (cnF (fun st => ok st && (g st == o)) S)) → u = nI (cnF (fun st => ok st && (decide (g st < a) && (vf (4 * g st + t) == w))) S) → (List.range' a k).foldl (fun u o => if vf (4 * o + t) = w then u + co (24 * kd + o) else u) u = nI (cnF (fun st => ok st && (decide (g st < a + k) && (vf (4 * g st + t) == w))) S)
  | 0, a, u, _, hu => hu
  | k + 1, a, u, hc, hu => by
    rw [List.range'_succ, List.foldl_cons, show a + (k + 1) = a + 1 + k by omega]
    refine cw_I k (a + 1) _ (fun o h1 h2 => hc o (by omega) (by omega)) ?_
    by_cases e : vf (4 * a + t) = w
    · rw [if_pos e, hu, hc a (Nat.le_refl _) (by omega), nI_add]
      congr 1
      refine (cnF_dis S (fun q _ => ?_) (fun q _ => ?_)).symm
      · by_cases e2 : g q = a
        · rw [e2, beq_self_eq_true, Bool.and_true, decide_eq_true (show a < a + 1 by omega), e, beq_self_eq_true, decide_eq_false (show ¬ a < a by omega)]
          cases ok q <;> rfl
        · rw [beq_eq_false_iff_ne.mpr e2, Bool.and_false, Bool.or_false, decide_eq_decide.mpr (show g q < a + 1 ↔ g q < a by omega)]
      · by_cases e2 : g q = a
        · rw [e2, decide_eq_false (show ¬ a < a by omega), Bool.false_and, Bool.and_false, Bool.false_and]
        · rw [beq_eq_false_iff_ne.mpr e2, Bool.and_false, Bool.and_false]
    · rw [if_neg e, hu]
      congr 1
      refine cnF_cg S (fun q _ => ?_)
      by_cases e2 : g q = a
      · rw [e2, beq_eq_false_iff_ne.mpr e]; simp only [Bool.and_false]
      · rw [decide_eq_decide.mpr (show g q < a + 1 ↔ g q < a by omega)]
set_option maxRecDepth 10000 in
theorem often_T {s : AS} {t kd w : Nat} (h1 : 1 ≤ N ∧ N ≤ 4) (I : AnI N K M cc φ (cT N ^ K) s) (hk : kd < K) : cwF (ord N).1 (vT N) s.2.2.1 t kd w = nI (cnF (ofP N K M cc φ t kd w) (stN N K M)) := by
  unfold cwF
  rw [ord_cT h1.1 h1.2, cw_I (ok := okS N K M cc φ) (g := fun st => ofS N K M st kd) (S := stN N K M) (cT N) 0 0 (fun o _ ho => by rw [I.2.2.1 kd o hk (by omega), stN_c]) (by rw [cnF_z _ (fun q _ => by rw [decide_eq_false (by omega), Bool.false_and, Bool.and_false])]; rfl)]
  congr 1
  refine cnF_cg _ (fun q _ => ?_)
  unfold ofP
  rw [decide_eq_true (show ofS N K M q kd < 0 + cT N by rw [Nat.zero_add]; exact ofS_lt hk), Bool.true_and]
end TAN

section TFI
variable {N K M cc : Nat} {φ : Nat → PhiT}
set_option maxRecDepth 10000 in
theorem exP_i {P : Nat → Bool} : ∀ {i : Nat}, exP P i = true ↔ ∃ j, j < i ∧ P j = true
  | 0 => ⟨fun h => absurd h (by simp [exP]), fun ⟨j, h, _⟩ => absurd h (by omega)⟩
  | i + 1 => by
    rw [exP, Bool.or_eq_true, exP_i (i := i)]
    constructor
    · rintro (⟨j, h1, h2⟩ | h)
      · exact ⟨j, by omega, h2⟩
      · exact ⟨i, by omega, h⟩
    · rintro ⟨j, h1, h2⟩
      by_cases e : j = i
      · subst e; exact Or.inr h2
      · exact Or.inl ⟨j, by omega, h2⟩
set_option maxRecDepth 10000 in
theorem exP_cn {P : Nat → Bool} : ∀ {i : Nat}, exP P i = false ↔ cnF P i = 0
  | 0 => ⟨fun _ => rfl, fun _ => rfl⟩
  | i + 1 => by
    rw [exP, cnF, Bool.or_eq_false_iff, exP_cn (i := i)]
    cases P i <;> simp
set_option maxRecDepth 10000 in
theorem exP_add {P : Nat → Bool} (a : Nat) : ∀ (b : Nat), exP P (a + b) = (exP P a || exP (fun q => P (a + q)) b)
  | 0 => by rw [Nat.add_zero, exP, Bool.or_false]
  | b + 1 => by
    show (exP P (a + b) || P (a + b)) = _
    rw [exP_add a b, exP, Bool.or_assoc]
set_option maxRecDepth 10000 in
theorem KpI.skips {ok : Nat → Bool} {i : Nat} {s : AS} (h : KpI N K M ok i s) : ∀ (b : Nat), (∀ q, q < b → ok (i + q) = false) → KpI N K M ok (i + b) s
  | 0, _ => h
  | b + 1, hq => (h.skips b (fun q hb => hq q (by omega))).skip (Or.inl (hq b (by omega)))
set_option maxRecDepth 10000 in
theorem cnF_z {P : Nat → Bool} : ∀ (b : Nat), (∀ q, q < b → P q = false) → cnF P b = 0
  | 0, _ => rfl
  | b + 1, h => by rw [cnF, cnF_z b (fun q hq => h q (by omega)), if_neg (by rw [h b (by omega)]; decide)]
set_option maxRecDepth 10000 in
theorem dg_cg {a b : Nat → Nat} : ∀ (K i kd : Nat), (∀ k, k < K → a k = b k) → dg a K i kd = dg b K i kd
  | 0, _, _, _ => rfl
  | K + 1, i, kd, h => by
    unfold dg
    rw [h K (by omega), dg_cg K _ kd (fun k hk => h k (by omega))]
set_option maxRecDepth 10000 in
theorem uc_fold {w : Nat → Nat} {x : Int32} (hw : ∀ kd, w kd < 24) : ∀ (k a : Nat) (f : Nat → Int32), (∀ kd o, a ≤ kd → kd < a + k → o < 24 → (List.range' a k).foldl (fun f kd => upd f (24 * kd + w kd) (f (24 * kd + w kd) + x)) f (24 * kd + o) = if o = w kd then f (24 * kd + o) + x else f (24 * kd + o)) ∧ ∀ j, (j < 24 * a ∨ 24 * (a + k) ≤ j) → (List.range' a k).foldl (fun f kd => upd f (24 * kd + w kd) (f (24 * kd + w kd) + x)) f j = f j
  | 0, a, f => ⟨fun kd o h1 h2 => by omega, fun _ _ => rfl⟩
  | k + 1, a, f => by
    rw [List.range'_succ, List.foldl_cons]
    have ih := uc_fold (w := w) (x := x) hw k (a + 1) (upd f (24 * a + w a) (f (24 * a + w a) + x))
    have ha := hw a
    refine ⟨fun kd o h1 h2 ho => ?_, fun j hj => ?_⟩
    · by_cases e : kd = a
      · subst e
        rw [ih.2 _ (by omega)]
        by_cases e2 : o = w kd
        · subst e2; rw [if_pos rfl, upd_ss]
        · rw [if_neg e2, upd_nn _ _ (by omega)]
      · rw [ih.1 kd o (by omega) (by omega) ho, upd_nn _ _ (by omega)]
    · rw [ih.2 j (by omega), upd_nn _ _ (by omega)]
set_option maxRecDepth 10000 in
theorem nd_fold {O : Int32} {r : Nat → Int32} : ∀ (k a : Nat) (f : Nat → Int32), (∀ c, a ≤ c → c < a + k → (List.range' a k).foldl (fun f c => if O &&& (r c ^^^ (-1)) = 0 then f else upd f c 1) f c = if O &&& (r c ^^^ (-1)) = 0 then f c else 1) ∧ ∀ j, (j < a ∨ a + k ≤ j) → (List.range' a k).foldl (fun f c => if O &&& (r c ^^^ (-1)) = 0 then f else upd f c 1) f j = f j
  | 0, a, f => ⟨fun kd h1 h2 => by omega, fun _ _ => rfl⟩
  | k + 1, a, f => by
    rw [List.range'_succ, List.foldl_cons]
    have ih := nd_fold (O := O) (r := r) k (a + 1) (if O &&& (r a ^^^ (-1)) = 0 then f else upd f a 1)
    refine ⟨fun c h1 h2 => ?_, fun j hj => ?_⟩
    · by_cases e : c = a
      · subst e
        rw [ih.2 _ (by omega)]
        split
        · rfl
        · exact upd_ss _ _ _
      · rw [ih.1 c (by omega) (by omega)]
        split
        · split
          · rfl
          · exact upd_nn _ _ e
        · rfl
    · rw [ih.2 j (by omega)]
      split
      · rfl
      · exact upd_nn _ _ (by omega)
/-- what the answers hold, the layouts below l weighed -/
def AnI (N K M cc : Nat) (φ : Nat → PhiT) (l : Nat) (s : AS) : Prop :=
  s.2.2.2.2.2.1 = nI (cnF (okS N K M cc φ) (l * 2 ^ M)) ∧ KpI N K M (okS N K M cc φ) (l * 2 ^ M) s ∧
  (∀ kd o, kd < K → o < cT N → s.2.2.1 (24 * kd + o) = nI (cnF (fun st => okS N K M cc φ st && (ofS N K M st kd == o)) (l * 2 ^ M))) ∧
  ∀ c, c < cc → s.2.2.2.2.1 c = bI (exP (olS N K M cc φ c) (l * 2 ^ M) = true)
set_option maxRecDepth 10000 in
theorem st_blk {l q : Nat} (hq : q < 2 ^ M) : (l * 2 ^ M + q) / 2 ^ M = l ∧ (l * 2 ^ M + q) % 2 ^ M = q := by
  rw [Nat.mul_comm l]
  refine ⟨?_, ?_⟩
  · rw [Nat.mul_add_div (Nat.two_pow_pos M), Nat.div_eq_of_lt hq, Nat.add_zero]
  · rw [Nat.mul_add_mod, Nat.mod_eq_of_lt hq]
set_option maxRecDepth 10000 in
theorem an_step {l : Nat} {s : AS} {ws : WS} (V : PhiV N K cc φ) (h1 : 1 ≤ N ∧ N ≤ 4) (hK : K ≤ 3) (hM : M ≤ 3) (hw : ∀ kd, wOrd ws kd < 24) (hw2 : ∀ kd, kd < K → wOrd ws kd = dg (fun _ => cT N) K l kd) (hth : ∀ kd w, kd < K → w < N → ws.2.2.2 (4 * kd + w) = sT N (dg (fun _ => cT N) K l kd) w) (I : AnI N K M cc φ l s) : AnI N K M cc φ (l + 1) (anWeigh cc K (partsF M) φ ws s) := by
  have ei : (l + 1) * 2 ^ M = l * 2 ^ M + 2 ^ M := by rw [Nat.add_mul, Nat.one_mul]
  have W := wl_I (φ := φ) (th := nA ws.2.2.2) (pM := partsF M) cc 0 (s.2.2.2.1, partsF M, 0) wl_0
  unfold anWeigh
  rw [Nat.zero_add] at W
  generalize (List.range' 0 cc).foldl (wlS φ (nA ws.2.2.2)) (s.2.2.2.1, partsF M, 0) = x at W ⊢
  obtain ⟨w1, w2, w3⟩ := W
  -- the states of this layout
  have HS : ∀ q, q < 2 ^ M → ∀ c, c < cc → Hs N K M φ (l * 2 ^ M + q) c = tb (φ c (nA ws.2.2.2)) (q * 2 ^ (3 - M)) := by
    intro q hq c hc
    have b := st_blk (l := l) hq
    have := Hs_th (st := l * 2 ^ M + q) (M := M) V h1.2 hc (th := ws.2.2.2) (fun kd w hk hw => by
      show _ = sT N (dg _ K ((l * 2 ^ M + q) / 2 ^ M) kd) w
      rw [b.1]; exact hth kd w hk hw)
    rw [this]
    show tb _ ((l * 2 ^ M + q) % 2 ^ M * 2 ^ (3 - M)) = _
    rw [b.2]
  have q8 : ∀ q, q < 2 ^ M → q * 2 ^ (3 - M) < 8 ∧ q * 2 ^ (3 - M) % 2 ^ (3 - M) = 0 := by
    intro q hq
    refine ⟨?_, Nat.mul_mod_left _ _⟩
    rcases DE hM with ⟨d, e⟩ | ⟨d, e⟩ | ⟨d, e⟩ | ⟨d, e⟩ <;> rw [e] at hq <;> rw [d] <;> omega
  have pq : ∀ q, q < 2 ^ M → tb (partsF M) (q * 2 ^ (3 - M)) = true := fun q hq => by
    have := q8 q hq
    rw [pa_T hM (by omega)]; exact decide_eq_true this
  have p8 : ∀ p, p < 32 → tb (partsF M) p = true → p < 8 ∧ ∃ q, q < 2 ^ M ∧ p = q * 2 ^ (3 - M) := by
    intro p hp hq
    rw [pa_T hM hp, decide_eq_true_iff] at hq
    refine ⟨hq.1, p / 2 ^ (3 - M), ?_, ?_⟩
    · rcases DE hM with ⟨d, e⟩ | ⟨d, e⟩ | ⟨d, e⟩ | ⟨d, e⟩ <;> rw [d, e] <;> omega
    · rcases DE hM with ⟨d, e⟩ | ⟨d, e⟩ | ⟨d, e⟩ | ⟨d, e⟩ <;> rw [d] at hq ⊢ <;> omega
  have hA : ∀ q, q < 2 ^ M → tb x.2.1 (q * 2 ^ (3 - M)) = okS N K M cc φ (l * 2 ^ M + q) := by
    intro q hq
    have b := q8 q hq
    apply Bool.eq_iff_iff.mpr
    rw [w1 _ (by omega)]
    unfold okS
    rw [decide_eq_true_iff]
    constructor
    · rintro ⟨_, y⟩ c hc
      rw [HS q hq c hc]; exact y c hc
    · intro y
      exact ⟨pq q hq, fun c hc => by rw [← HS q hq c hc]; exact y c hc⟩
  have hAp : ∀ p, p < 32 → tb x.2.1 p = true → tb (partsF M) p = true := fun p hp y => ((w1 p hp).mp y).1
  have hA2 : ∀ p, p < 8 → ¬ p % 2 ^ (3 - M) = 0 → tb x.2.1 p = false := by
    intro p hp hm
    cases y : tb x.2.1 p
    · rfl
    · have := hAp p (by omega) y
      rw [pa_T hM (by omega), decide_eq_true_iff] at this
      exact absurd this.2 hm
  have hb := bc_T hM hAp
  obtain ⟨i1, i2, i3, i4⟩ := I
  have blk : cnF (okS N K M cc φ) (l * 2 ^ M + 2 ^ M) = cnF (okS N K M cc φ) (l * 2 ^ M) + cnF (fun q => tb x.2.1 (q * 2 ^ (3 - M))) (2 ^ M) := by
    rw [cnF_add]
    congr 1
    exact cnF_cg _ (fun q hq => (hA q hq).symm)
  have blk2 : ∀ kd o, kd < K → cnF (fun st => okS N K M cc φ st && (ofS N K M st kd == o)) (l * 2 ^ M + 2 ^ M) = cnF (fun st => okS N K M cc φ st && (ofS N K M st kd == o)) (l * 2 ^ M) + (if o = wOrd ws kd then cnF (fun q => tb x.2.1 (q * 2 ^ (3 - M))) (2 ^ M) else 0) := by
    intro kd o hkd
    rw [cnF_add]
    congr 1
    have eo : ∀ q, q < 2 ^ M → ofS N K M (l * 2 ^ M + q) kd = wOrd ws kd := fun q hq => by
      show dg _ K ((l * 2 ^ M + q) / 2 ^ M) kd = _
      rw [(st_blk hq).1, hw2 kd hkd]
    by_cases e : o = wOrd ws kd
    · rw [if_pos e]
      exact cnF_cg _ (fun q hq => by rw [eo q hq, e, beq_self_eq_true, Bool.and_true, hA q hq])
    · rw [if_neg e]
      exact cnF_z _ (fun q hq => by rw [eo q hq, beq_eq_false_iff_ne.mpr (fun y => e y.symm), Bool.and_false])
  -- the first part: what is added
  have add : ∀ s1 : AS, s1 = (if x.2.1 = 0 then (s.1, s.2.1, s.2.2.1, x.1, s.2.2.2.2) else anAdd K ws (s.1, s.2.1, s.2.2.1, x.1, s.2.2.2.2) x.2.1) →
      s1.2.2.2.2.2.1 = nI (cnF (okS N K M cc φ) (l * 2 ^ M + 2 ^ M)) ∧ KpI N K M (okS N K M cc φ) (l * 2 ^ M + 2 ^ M) s1 ∧ (∀ kd o, kd < K → o < cT N → s1.2.2.1 (24 * kd + o) = nI (cnF (fun st => okS N K M cc φ st && (ofS N K M st kd == o)) (l * 2 ^ M + 2 ^ M))) ∧ s1.2.2.2.2.1 = s.2.2.2.2.1 ∧ s1.2.2.2.1 = x.1 := by
    intro s1 hs1
    by_cases z : x.2.1 = 0
    · rw [if_pos z] at hs1
      subst hs1
      have zz : cnF (fun q => tb x.2.1 (q * 2 ^ (3 - M))) (2 ^ M) = 0 := cnF_z _ (fun q _ => by rw [z, tb_0])
      refine ⟨by rw [blk, zz]; exact i1, (KpI.skips (s := (s.1, s.2.1, s.2.2.1, x.1, s.2.2.2.2)) i2 (2 ^ M) (fun q hq => by rw [← hA q hq, z, tb_0])), fun kd o hkd ho => ?_, rfl, rfl⟩
      rw [blk2 kd o hkd, zz, ite_self]
      exact i3 kd o hkd ho
    · rw [if_neg z] at hs1
      have uc := uc_fold (w := wOrd ws) (x := bcF x.2.1) hw K 0 s.2.2.1
      unfold anAdd at hs1
      have sm := kp_same (K := K) (A := x.2.1) (ws := ws) (List.range' 0 8) (s.1, s.2.1, (List.range' 0 K).foldl (fun f kd => upd f (24 * kd + wOrd ws kd) (f (24 * kd + wOrd ws kd) + bcF x.2.1)) s.2.2.1, x.1, s.2.2.2.2.1, s.2.2.2.2.2.1 + bcF x.2.1, s.2.2.2.2.2.2)
      have kp := kp_I (N := N) hK hM hA hA2 hw2 8 0 (s.1, s.2.1, (List.range' 0 K).foldl (fun f kd => upd f (24 * kd + wOrd ws kd) (f (24 * kd + wOrd ws kd) + bcF x.2.1)) s.2.2.1, x.1, s.2.2.2.2.1, s.2.2.2.2.2.1 + bcF x.2.1, s.2.2.2.2.2.2) rfl (by
        have e0 : (0 + 2 ^ (3 - M) - 1) / 2 ^ (3 - M) = 0 := by rcases DE hM with ⟨d, _⟩ | ⟨d, _⟩ | ⟨d, _⟩ | ⟨d, _⟩ <;> rw [d]
        rw [e0]; exact i2)
      dsimp only at hs1
      rw [← hs1] at sm kp
      obtain ⟨m1, m2, m3, m4⟩ := sm
      refine ⟨?_, kp, fun kd o hkd ho => ?_, m3, m2⟩
      · rw [m4, blk, ← nI_add, hb, i1]
      · have ho24 : o < 24 := by have := cT_le N; omega
        rw [m1, blk2 kd o hkd]
        show (List.range' 0 K).foldl _ s.2.2.1 (24 * kd + o) = _
        rw [uc.1 kd o (by omega) (by omega) ho24]
        by_cases e : o = wOrd ws kd
        · rw [if_pos e, if_pos e, ← nI_add, hb, i3 kd o hkd ho]
        · rw [if_neg e, if_neg e, Nat.add_zero]; exact i3 kd o hkd ho
  -- the second: who is needed
  have ol : ∀ c, c < cc → (¬ x.2.2 &&& (φ c (nA ws.2.2.2) ^^^ (-1)) = 0 ↔ exP (fun q => olS N K M cc φ c (l * 2 ^ M + q)) (2 ^ M) = true) := by
    intro c hc
    rw [tb_nz, exP_i]
    constructor
    · rintro ⟨p, hp, y⟩
      rw [tb_and, tb_not _ hp, Bool.and_eq_true, Bool.not_eq_true', w2 p hp] at y
      obtain ⟨⟨y1, c0, y2, y3, y4⟩, y5⟩ := y
      obtain ⟨hp8, q, hq, rfl⟩ := p8 p hp y1
      have e : c = c0 := Decidable.byContradiction (fun ne => by rw [y4 c hc ne] at y5; exact absurd y5 (by decide))
      subst e
      refine ⟨q, hq, ?_⟩
      unfold olS
      rw [decide_eq_true_iff]
      exact ⟨by rw [HS q hq c hc]; exact y5, fun c' hc' ne => by rw [HS q hq c' hc']; exact y4 c' hc' ne⟩
    · rintro ⟨q, hq, y⟩
      unfold olS at y
      rw [decide_eq_true_iff] at y
      have b := q8 q hq
      refine ⟨q * 2 ^ (3 - M), by omega, ?_⟩
      rw [tb_and, tb_not _ (by omega), Bool.and_eq_true, Bool.not_eq_true', w2 _ (by omega)]
      refine ⟨⟨pq q hq, c, hc, ?_, fun c' hc' ne => ?_⟩, ?_⟩
      · rw [← HS q hq c hc]; exact y.1
      · rw [← HS q hq c' hc']; exact y.2 c' hc' ne
      · rw [← HS q hq c hc]; exact y.1
  unfold AnI
  rw [ei]
  unfold anEnd
  by_cases z : x.2.2 = 0
  · rw [if_pos z]
    obtain ⟨a1, a2, a3, a4, a5⟩ := add _ rfl
    refine ⟨a1, a2, a3, fun c hc => ?_⟩
    rw [a4, i4 c hc, exP_add]
    have : exP (fun q => olS N K M cc φ c (l * 2 ^ M + q)) (2 ^ M) = false := by
      cases y : exP (fun q => olS N K M cc φ c (l * 2 ^ M + q)) (2 ^ M)
      · rfl
      · exact absurd (by rw [z, Int32.zero_and]) ((ol c hc).mpr y)
    rw [this, Bool.or_false]
  · rw [if_neg z]
    obtain ⟨a1, a2, a3, a4, a5⟩ := add _ rfl
    generalize (if x.2.1 = 0 then (s.1, s.2.1, s.2.2.1, x.1, s.2.2.2.2) else anAdd K ws (s.1, s.2.1, s.2.2.1, x.1, s.2.2.2.2) x.2.1) = s1 at a1 a2 a3 a4 a5 ⊢
    refine ⟨a1, a2, a3, fun c hc => ?_⟩
    have nd := nd_fold (O := x.2.2) (r := s1.2.2.2.1) cc 0 s1.2.2.2.2.1
    show (List.range' 0 cc).foldl (fun f c => if x.2.2 &&& (s1.2.2.2.1 c ^^^ (-1)) = 0 then f else upd f c 1) s1.2.2.2.2.1 c = _
    rw [nd.1 c (by omega) (by omega), a5, w3 (fun y => z (tb_z.mpr (fun p hp => by
      have := tb_z.mp y p hp
      rw [tb_or, Bool.or_eq_false_iff] at this
      exact this.2))) c hc, a4, i4 c hc, exP_add]
    by_cases y : x.2.2 &&& (φ c (nA ws.2.2.2) ^^^ (-1)) = 0
    · rw [if_pos y]
      have : exP (fun q => olS N K M cc φ c (l * 2 ^ M + q)) (2 ^ M) = false := by
        cases y2 : exP (fun q => olS N K M cc φ c (l * 2 ^ M + q)) (2 ^ M)
        · rfl
        · exact absurd y ((ol c hc).mpr y2)
      rw [this, Bool.or_false]
    · rw [if_neg y, (ol c hc).mp y, Bool.or_true, bI_t rfl]
end TFI

section TSE
variable {N K M cc : Nat} {φ : Nat → PhiT}
set_option maxRecDepth 10000 in
theorem prod_pos {a : Nat → Nat} : ∀ (k : Nat), 0 < (List.range' 0 k).foldl (fun p kd => p * a kd) 1 → ∀ kd, kd < k → 0 < a kd
  | 0, _, kd, h => absurd h (by omega)
  | k + 1, hp, kd, h => by
    rw [List.range'_concat, List.foldl_append, List.foldl_cons, List.foldl_nil, Nat.zero_add, Nat.one_mul] at hp
    by_cases e : kd = k
    · subst e; exact Nat.pos_of_mul_pos_left hp
    · exact prod_pos k (Nat.pos_of_mul_pos_right hp) kd (by omega)
/-- what the looking stands on -/
def LoF (N K M cc : Nat) (φ : Nat → PhiT) (A : Nat → Int32) (B : Int32) (my be : Nat → Int32) (op oc : Nat → Nat) (lay c : Nat) : Prop := PhiV N K cc φ ∧ c < cc ∧ (1 ≤ N ∧ N ≤ 4) ∧ K ≤ 3 ∧ M ≤ 3 ∧ RelX N K M A B my be ∧ ChI (ord N).2.1 (cT N) A K (op, oc, lay)
set_option maxRecDepth 10000 in
theorem LoF.pos {A : Nat → Int32} {B : Int32} {my be : Nat → Int32} {op oc : Nat → Nat} {lay c : Nat} (F : LoF N K M cc φ A B my be op oc lay c) (hl : 0 < lay) : (∀ kd, kd < K → 0 < oc kd) ∧ ∀ kd x, kd < K → x < oc kd → op (24 * kd + x) < cT N := by
  obtain ⟨V, hc, h1, hK, hM, R, C1, C2⟩ := F
  have C2 : lay = (List.range' 0 K).foldl (fun p kd => p * oc kd) 1 := C2
  rw [C2] at hl
  exact ⟨prod_pos K hl, fun kd x hk hx => ((C1 kd hk).2.1 x hx).1⟩
set_option maxRecDepth 10000 in
/-- an order's ticks are open just when each of its values may be -/
theorem op_iff {A : Nat → Int32} {B : Int32} {my be : Nat → Int32} {kd o : Nat} (h1 : 1 ≤ N ∧ N ≤ 4) (R : RelX N K M A B my be) (hk : kd < K) (ho : o < cT N) : opO (ord N).2.1 (A kd) o ↔ ∀ t, t < N → tb (my (4 * kd + t)) (vT N (4 * o + t)) = true := by
  unfold opO
  rw [tb_z]
  constructor
  · intro y t ht
    have hv := (vs_T h1.1 h1.2 ho ht).1
    have d1 : (4 * t + vT N (4 * o + t)) / 4 = t := by omega
    have d2 : (4 * t + vT N (4 * o + t)) % 4 = vT N (4 * o + t) := by omega
    have := y (4 * t + vT N (4 * o + t)) (by omega)
    rw [tb_and, tb_not _ (by omega), tk_T h1.1 h1.2 ho (by omega), R.1 kd _ hk (by omega), d1, d2, decide_eq_true (show t < N ∧ vT N (4 * o + t) = vT N (4 * o + t) from ⟨ht, rfl⟩), decide_eq_true ht, Bool.true_and, Bool.true_and] at this
    simpa using this
  · intro y p hp
    rw [tb_and, tb_not _ hp, tk_T h1.1 h1.2 ho hp, R.1 kd p hk hp]
    by_cases e : p / 4 < N ∧ vT N (4 * o + p / 4) = p % 4
    · have := y (p / 4) e.1
      rw [e.2] at this
      rw [decide_eq_true e, decide_eq_true e.1, this]; rfl
    · rw [decide_eq_false e, Bool.false_and]
set_option maxRecDepth 10000 in
theorem pa_iff {A : Nat → Int32} {B : Int32} {my be : Nat → Int32} {st : Nat} (hM : M ≤ 3) (R : RelX N K M A B my be) : tb (opF M B) (ptS M st) = true ↔ ∀ q, q < M → tb (be q) (zS M st q) = true := by
  have hp := ptS_lt (st := st) hM
  have hpt : tb (partsF M) (ptS M st) = true := by
    rw [pa_T hM (by omega)]
    exact decide_eq_true ⟨hp, Nat.mul_mod_left _ _⟩
  unfold opF
  rw [op_fold (by omega) M 0 _ (by omega), hpt]
  have key : ∀ q, q < M → tb B (2 * q + (if tb (truthF q) (ptS M st) = true then 1 else 0)) = tb (be q) (zS M st q) := by
    intro q hq
    rw [tru_pt hM hq]
    show tb B (2 * q + zS M st q) = _
    have hz : zS M st q < 2 := by unfold zS; split <;> decide
    rw [R.2.2.1 _ (by omega), show (2 * q + zS M st q) / 2 = q by omega, show (2 * q + zS M st q) % 2 = zS M st q by omega, decide_eq_true hq, Bool.true_and]
  constructor
  · rintro ⟨_, y⟩ q hq
    rw [← key q hq]; exact y q (by omega) (by omega)
  · intro y
    exact ⟨rfl, fun q _ hq => by rw [key q (by omega)]; exact y q (by omega)⟩
set_option maxRecDepth 10000 in
theorem see_fw {A : Nat → Int32} {B : Int32} {my be : Nat → Int32} {op oc : Nat → Nat} {lay c j p : Nat} (F : LoF N K M cc φ A B my be op oc lay c) (hj : j < lay) (hp : p < 32) (hb : tb (mW N K (φ c) op oc j &&& opF M B) p = true) : ∃ st, st < stN N K M ∧ esB N K M φ my be c st = true ∧ (∀ kd, kd < K → ofS N K M st kd = oW op oc K j kd) ∧ ptS M st = p := by
  obtain ⟨P1, P2⟩ := F.pos (by omega)
  obtain ⟨V, hc, h1, hK, hM, R, C1, C2⟩ := F
  have ho : ∀ kd, kd < K → oW op oc K j kd < cT N := fun kd hk => P2 kd _ hk (dg_lt hk (fun k hk => P1 k hk))
  obtain ⟨l, hl, hd⟩ := dg_sur (oc := fun _ => cT N) K (fun kd => oW op oc K j kd) ho
  rw [prod_c K (fun _ _ => rfl)] at hl
  rw [tb_and, Bool.and_eq_true] at hb
  have hpa : tb (partsF M) p = true := by
    have := hb.2
    unfold opF at this
    exact ((op_fold hp M 0 _ (by omega)).mp this).1
  rw [pa_T hM hp, decide_eq_true_iff] at hpa
  have hq : p / 2 ^ (3 - M) < 2 ^ M := by rcases DE hM with ⟨d, e⟩ | ⟨d, e⟩ | ⟨d, e⟩ | ⟨d, e⟩ <;> rw [d, e] <;> omega
  have hpq : p / 2 ^ (3 - M) * 2 ^ (3 - M) = p := by rcases DE hM with ⟨d, e⟩ | ⟨d, e⟩ | ⟨d, e⟩ | ⟨d, e⟩ <;> rw [d] at hpa ⊢ <;> omega
  have sb := st_blk (l := l) hq
  have eo : ∀ kd, kd < K → ofS N K M (l * 2 ^ M + p / 2 ^ (3 - M)) kd = oW op oc K j kd := fun kd hk => by
    show dg _ K ((l * 2 ^ M + p / 2 ^ (3 - M)) / 2 ^ M) kd = _
    rw [sb.1]; exact hd kd hk
  have ept : ptS M (l * 2 ^ M + p / 2 ^ (3 - M)) = p := by
    show (l * 2 ^ M + p / 2 ^ (3 - M)) % 2 ^ M * 2 ^ (3 - M) = p
    rw [sb.2]; exact hpq
  refine ⟨l * 2 ^ M + p / 2 ^ (3 - M), ?_, ?_, eo, ept⟩
  · rw [← stN_c]
    calc l * 2 ^ M + p / 2 ^ (3 - M) < l * 2 ^ M + 2 ^ M := by omega
      _ = (l + 1) * 2 ^ M := by rw [Nat.add_mul, Nat.one_mul]
      _ ≤ cT N ^ K * 2 ^ M := Nat.mul_le_mul_right _ hl
  · unfold esB
    rw [Bool.and_eq_true]
    refine ⟨?_, opB_t ⟨fun kd hk t ht => ?_, ?_⟩⟩
    · rw [Hs_th V h1.2 hc (th := fun x => sT N (oW op oc K j (x / 4)) (x % 4)) (fun kd w hk hw => by
        dsimp only
        rw [show (4 * kd + w) / 4 = kd by omega, show (4 * kd + w) % 4 = w by omega, eo kd hk]), ept]
      exact hb.1
    · show tb (my (4 * kd + t)) (vT N (4 * ofS N K M _ kd + t)) = true
      rw [eo kd hk]
      have : opO (ord N).2.1 (A kd) (oW op oc K j kd) := ((C1 kd hk).2.1 _ (dg_lt hk (fun k hk => P1 k hk))).2
      exact (op_iff h1 R hk (ho kd hk)).mp this t ht
    · refine (pa_iff hM R).mp ?_
      rw [ept]; exact hb.2
set_option maxRecDepth 10000 in
theorem see_bw {A : Nat → Int32} {B : Int32} {my be : Nat → Int32} {op oc : Nat → Nat} {lay c st : Nat} (F : LoF N K M cc φ A B my be op oc lay c) (es : esB N K M φ my be c st = true) : ∃ j, j < lay ∧ tb (mW N K (φ c) op oc j &&& opF M B) (ptS M st) = true ∧ ∀ kd, kd < K → oW op oc K j kd = ofS N K M st kd := by
  obtain ⟨V, hc, h1, hK, hM, R, C1, C2⟩ := F
  unfold esB at es
  rw [Bool.and_eq_true, opB_i] at es
  obtain ⟨e1, e2, e3⟩ := es
  have ex : ∀ kd, kd < K → ∃ y, y < oc kd ∧ op (24 * kd + y) = ofS N K M st kd := fun kd hk => (C1 kd hk).2.2.1 _ (ofS_lt hk) ((op_iff h1 R hk (ofS_lt hk)).mpr (fun t ht => e2 kd hk t ht))
  have C2 : lay = (List.range' 0 K).foldl (fun p kd => p * oc kd) 1 := C2
  obtain ⟨g, hg⟩ : ∃ g : Nat → Nat, ∀ kd, kd < K → g kd < oc kd ∧ op (24 * kd + g kd) = ofS N K M st kd := ⟨fun kd => if h : kd < K then Classical.choose (ex kd h) else 0, fun kd hk => by
    have e : (if h : kd < K then Classical.choose (ex kd h) else 0) = Classical.choose (ex kd hk) := dif_pos hk
    dsimp only
    rw [e]; exact Classical.choose_spec (ex kd hk)⟩
  obtain ⟨j, hj, hd⟩ := dg_sur (oc := oc) K g (fun kd hk => (hg kd hk).1)
  have eo : ∀ kd, kd < K → oW op oc K j kd = ofS N K M st kd := fun kd hk => by
    show op (24 * kd + dg oc K j kd) = _
    rw [hd kd hk]; exact (hg kd hk).2
  refine ⟨j, by rw [C2]; exact hj, ?_, eo⟩
  rw [tb_and, Bool.and_eq_true]
  refine ⟨?_, (pa_iff hM R).mpr e3⟩
  rw [Hs_th V h1.2 hc (th := fun x => sT N (oW op oc K j (x / 4)) (x % 4)) (fun kd w hk hw => by
    dsimp only
    rw [show (4 * kd + w) / 4 = kd by omega, show (4 * kd + w) % 4 = w by omega, eo kd hk])] at e1
  exact e1
set_option maxRecDepth 10000 in
/-- what was seen, beside the reference's -/
theorem see_T {A : Nat → Int32} {B : Int32} {my be so sb : Nat → Int32} {op oc : Nat → Nat} {lay c : Nat} {x : (Nat → Int32) × Int32 × WS} (F : LoF N K M cc φ A B my be op oc lay c) (L : LkI N K (ord N).2.1 (φ c) op oc (opF M B) lay x) (hso : SoB N K M φ my be c so (stN N K M)) (hsb : SbB N K M φ my be c sb (stN N K M)) : RelX N K M x.1 (wiF M x.2.1) so sb := by
  have F0 := F
  obtain ⟨V, hc, h1, hK, hM, R, C1, C2⟩ := F
  have hz : ∀ st q, zS M st q < 2 := fun st q => by unfold zS; split <;> decide
  refine ⟨fun kd p hk hp => ?_, fun kd t p hk ht hN hp => ?_, fun p hp => ?_, fun q p hq h2 hp => ?_⟩
  · apply Bool.eq_iff_iff.mpr
    rw [L.1 kd p hk hp]
    constructor
    · rintro ⟨j, hj, y, z⟩
      obtain ⟨b, hb, yb⟩ := tb_nz.mp y
      obtain ⟨st, s1, s2, s3, s4⟩ := see_fw F0 hj hb yb
      have ho : oW op oc K j kd < cT N := by rw [← s3 kd hk]; exact ofS_lt hk
      rw [tk_T h1.1 h1.2 ho hp, decide_eq_true_iff] at z
      rw [decide_eq_true z.1, Bool.true_and, hso kd (p / 4) (p % 4) hk z.1 (by omega)]
      unfold svB
      rw [exP_i]
      refine ⟨st, s1, ?_⟩
      rw [s2, Bool.true_and]
      show (vT N (4 * ofS N K M st kd + p / 4) == p % 4) = true
      rw [s3 kd hk, z.2, beq_self_eq_true]
    · intro y
      rw [Bool.and_eq_true, decide_eq_true_iff] at y
      have y2 := y.2
      rw [hso kd (p / 4) (p % 4) hk y.1 (by omega)] at y2
      unfold svB at y2
      rw [exP_i] at y2
      obtain ⟨st, s1, s2⟩ := y2
      rw [Bool.and_eq_true] at s2
      obtain ⟨j, hj, z1, z2⟩ := see_bw F0 s2.1
      refine ⟨j, hj, tb_nz.mpr ⟨_, Nat.lt_of_lt_of_le (ptS_lt hM) (by decide), z1⟩, ?_⟩
      rw [z2 kd hk, tk_T h1.1 h1.2 (ofS_lt hk) hp, decide_eq_true_iff]
      exact ⟨y.1, beq_iff_eq.mp s2.2⟩
  · rw [hso kd t p hk ht hp]
    cases y : svB N K M φ my be c kd t p (stN N K M)
    · rfl
    · unfold svB at y
      rw [exP_i] at y
      obtain ⟨st, _, s2⟩ := y
      rw [Bool.and_eq_true] at s2
      have := vS_lt (M := M) (st := st) h1 hk ht
      have := beq_iff_eq.mp s2.2
      omega
  · apply Bool.eq_iff_iff.mpr
    unfold wiF
    rw [wi_fold hp M 0 0 (by omega), tb_0]
    constructor
    · rintro (y | ⟨_, y1, b, hb, y2, y3⟩)
      · exact absurd y (by decide)
      · have y1 : p / 2 < M := by omega
        obtain ⟨j, hj, z⟩ := (L.2 b hb).mp y2
        obtain ⟨st, s1, s2, s3, s4⟩ := see_fw F0 hj hb z
        rw [decide_eq_true y1, Bool.true_and, hsb (p / 2) (p % 2) y1 (by omega)]
        unfold sbB
        rw [exP_i]
        refine ⟨st, s1, ?_⟩
        rw [s2, Bool.true_and, beq_iff_eq]
        rw [← s4, tru_pt hM y1] at y3
        show (if st.testBit (M - 1 - p / 2) = true then 1 else 0) = p % 2
        rw [y3]
        by_cases e : p % 2 = 1
        · rw [if_pos (decide_eq_true e), e]
        · rw [if_neg (by rw [decide_eq_true_iff]; exact e)]; omega
    · intro y
      rw [Bool.and_eq_true, decide_eq_true_iff] at y
      have y2 := y.2
      rw [hsb (p / 2) (p % 2) y.1 (by omega)] at y2
      unfold sbB at y2
      rw [exP_i] at y2
      obtain ⟨st, s1, s2⟩ := y2
      rw [Bool.and_eq_true] at s2
      obtain ⟨j, hj, z1, z2⟩ := see_bw F0 s2.1
      refine Or.inr ⟨by omega, by omega, ptS M st, Nat.lt_of_lt_of_le (ptS_lt hM) (by decide), (L.2 _ (Nat.lt_of_lt_of_le (ptS_lt hM) (by decide))).mpr ⟨j, hj, z1⟩, ?_⟩
      rw [tru_pt hM y.1]
      have e : (if st.testBit (M - 1 - p / 2) = true then 1 else 0) = p % 2 := beq_iff_eq.mp s2.2
      cases tt : st.testBit (M - 1 - p / 2)
      · rw [tt, if_neg (by decide)] at e
        exact (decide_eq_false (by omega)).symm
      · rw [tt, if_pos rfl] at e
        exact (decide_eq_true (by omega)).symm
  · rw [hsb q p hq hp]
    cases y : sbB N K M φ my be c q p (stN N K M)
    · rfl
    · unfold sbB at y
      rw [exP_i] at y
      obtain ⟨st, _, s2⟩ := y
      rw [Bool.and_eq_true] at s2
      have := hz st q
      have := beq_iff_eq.mp s2.2
      omega
end TSE

section TC2
variable {E : EV} {h : HP} {n mo N K M cc : Nat} {u : Nat → Int32} {f : Nat → Nat → Int32} {φ : Nat → PhiT}
set_option maxRecDepth 10000 in
/-- one clue tried, on both sides -/
theorem cr_one {Q : Option Value → HP → Nat → Prop} (hb : E.2.2.2.1 ≤ mo) (V : PhiV N K cc φ) {c lay : Nat} {x : XS × WS} {v : Nat → Int32} {G : Nat → Nat → Int32} (hc : c < cc) (P : MP v N K M cc) (kn : KnF v G N K M cc φ) (X : XI N K M x.1 v G) (Ch : ChI (ord N).2.1 (cT N) x.1.1 K (x.2.1, x.2.2.1, lay)) (uo : ∀ j, j ≠ 33 → v j = u j) (hG : ∀ j, j < 15 → G j = f j)
    (k0 : ∀ F, ¬ 0 < cuF K (lkF K N M (vT N) (ord N).2.1 (φ c) lay x.1 x.2).1 → KnF v F N K M cc φ → XI N K M (lkF K N M (vT N) (ord N).2.1 (φ c) lay x.1 x.2).1 v F → ChI (ord N).2.1 (cT N) (lkF K N M (vT N) (ord N).2.1 (φ c) lay x.1 x.2).1.1 K ((lkF K N M (vT N) (ord N).2.1 (φ c) lay x.1 x.2).2.1, (lkF K N M (vT N) (ord N).2.1 (φ c) lay x.1 x.2).2.2.1, lay) → potF (F 15) (F 16) N K M = potF (G 15) (G 16) N K M → (∀ j, j < 15 → F j = f j) → ∀ L, L.take 2 = [(0, .ref mo), (1, .int (nI (c + 1)))] → J E m_Md_cross 4 0 0 37 L [] (hM E h mo v F) n Q)
    (k1 : ∀ v2 G2, 0 < cuF K (lkF K N M (vT N) (ord N).2.1 (φ c) lay x.1 x.2).1 → MP v2 N K M cc → KnF v2 G2 N K M cc φ → XI N K M (xoF K (lkF K N M (vT N) (ord N).2.1 (φ c) lay x.1 x.2).1 c (cuF K (lkF K N M (vT N) (ord N).2.1 (φ c) lay x.1 x.2).1)) v2 G2 → potF (G2 15) (G2 16) N K M < potF (G 15) (G 16) N K M → (∀ j, j ≠ 33 → v2 j = u j) → (∀ j, j < 15 → G2 j = f j) → ∀ L, L.take 2 = [(0, .ref mo), (1, .int (nI 0))] → J E m_Md_cross 4 0 0 37 L [] (hM E h mo v2 G2) n Q) :
    ∀ L, L.take 2 = [(0, .ref mo), (1, .int (nI c))] → J E m_Md_cross 4 0 0 37 L [] (hM E h mo v G) n Q := by
  have h1 := P.2.2.2.2.1
  have hK := P.2.2.2.2.2.1
  have hM := P.2.2.2.2.2.2.1
  have h20 := P.2.2.2.2.2.2.2
  have Lo : LoF N K M cc φ x.1.1 x.1.2.2.1 (G 15) (G 16) x.2.1 x.2.2.1 lay c := ⟨V, hc, h1, hK, hM, X.1, Ch⟩
  refine cr_by hb P kn hc (by have := X.2.2.2; omega) (fun F so sb CF z => ?_) (fun F so sb CF z z2 => ?_)
  · obtain ⟨S1, S2, S3⟩ := lkF_T Lo CF.2.1 CF.2.2.1
    have pp := pot_step (N := N) (K := K) (M := M) CF.2.2.2.1 CF.2.2.2.2
    have cu := cu_T (s := (lkF K N M (vT N) (ord N).2.1 (φ c) lay x.1 x.2).1) h1 hM X.1 S1
    rw [z] at cu
    exact k0 F (by rw [cu]; decide) (kn.cg rfl (CF.1 _ (by omega)) (CF.1 _ (by omega)) (CF.1 _ (by omega))) (X.none h1 CF z) (by rw [S2, S3]; exact Ch) (by omega) (fun j hj => by rw [CF.1 j (by omega)]; exact hG j hj)
  · obtain ⟨S1, S2, S3⟩ := lkF_T Lo CF.2.1 CF.2.2.1
    have pp := pot_step (N := N) (K := K) (M := M) CF.2.2.2.1 CF.2.2.2.2
    have cu := cu_T (s := (lkF K N M (vT N) (ord N).2.1 (φ c) lay x.1 x.2).1) h1 hM X.1 S1
    have lt : 0 < cuF K (lkF K N M (vT N) (ord N).2.1 (φ c) lay x.1 x.2).1 := by rw [cu]; exact nI_lt (a := 0) z (by omega)
    have RS := fun A' eA => rel_step (A := x.1.1) (A' := A') (B := x.1.2.2.1) S1 CF.2.1 CF.2.2.1 CF.2.2.2.1 CF.2.2.2.2 eA
    have k1 := fun v2 G2 => k1 v2 G2 lt
    rw [cu] at k1
    obtain ⟨x1, x2, x3, x4⟩ := X
    have s54 : x.1.2.2.2.2.2.2.1 < 54 := by omega
    have exo : xoF K (lkF K N M (vT N) (ord N).2.1 (φ c) lay x.1 x.2).1 c (nI (muN (G 15) so N K + muB (G 16) sb M)) = ((List.range' 0 K).foldl (fun f kd => upd f kd ((lkF K N M (vT N) (ord N).2.1 (φ c) lay x.1 x.2).1.2.1 kd)) x.1.1, (lkF K N M (vT N) (ord N).2.1 (φ c) lay x.1 x.2).1.2.1, (lkF K N M (vT N) (ord N).2.1 (φ c) lay x.1 x.2).1.2.2.2.1, (lkF K N M (vT N) (ord N).2.1 (φ c) lay x.1 x.2).1.2.2.2.1, upd x.1.2.2.2.2.1 x.1.2.2.2.2.2.2.1 (nI c), upd x.1.2.2.2.2.2.1 x.1.2.2.2.2.2.2.1 (nI (muN (G 15) so N K + muB (G 16) sb M)), x.1.2.2.2.2.2.2.1 + 1, x.1.2.2.2.2.2.2.2) := if_pos s54
    rw [exo] at k1
    generalize (lkF K N M (vT N) (ord N).2.1 (φ c) lay x.1 x.2).1.2.1 = SA at RS k1
    generalize (lkF K N M (vT N) (ord N).2.1 (φ c) lay x.1 x.2).1.2.2.2.1 = SB at RS k1
    generalize muN (G 15) so N K + muB (G 16) sb M = mu at z z2 pp k1
    generalize x.1.2.2.2.2.2.2.1 = s at x2 x3 x4 s54 k1
    refine j_aload_n d_Md_cross_61 rfl ?_
    refine m_get d_Md_cross_62 fl_Md_70 rfl ?_
    refine j_aload_n d_Md_cross_65 rfl ?_
    refine m_get d_Md_cross_66 fl_Md_92 rfl ?_
    rw [x2]
    refine j_iload_n d_Md_cross_69 rfl ?_
    refine m_ast (k := 19) (N := 60) d_Md_cross_70 (by decide) rfl hb (by omega) (by decide) ?_
    refine j_aload_n d_Md_cross_71 rfl ?_
    refine m_get d_Md_cross_72 fl_Md_73 rfl ?_
    refine j_aload_n d_Md_cross_75 rfl ?_
    refine m_get d_Md_cross_76 fl_Md_92 rfl ?_
    rw [x2]
    refine j_iload_n d_Md_cross_79 rfl ?_
    refine m_ast (k := 20) (N := 60) d_Md_cross_80 (by decide) rfl hb (by omega) (by decide) ?_
    refine j_aload_n d_Md_cross_81 rfl ?_
    refine j_dup d_Md_cross_82 rfl ?_
    refine m_get d_Md_cross_83 fl_Md_92 rfl ?_
    refine j_iconst (v := 1) d_Md_cross_86 (by decide) ?_
    refine j_iadd d_Md_cross_87 ?_
    rw [x2, nI_1]
    refine m_put d_Md_cross_88 fl_Md_92 rfl rfl hb rfl rfl ?_
    refine j_iconst (v := 0) d_Md_cross_91 (by decide) ?_
    refine j_istore_n d_Md_cross_92 (by decide) ?_
    refine j_goto (tgt := 37) d_Md_cross_93 (by decide) ?_
    refine k1 (upd v 33 (nI (s + 1))) (upG (upG F 19 (upd (F 19) s (nI c))) 20 (upd (F 20) s (nI mu))) (P.up (by decide)) (kn.cg rfl (CF.1 _ (by omega)) (CF.1 _ (by omega)) (CF.1 _ (by omega))) ?_ ?_ (fun j hj => by rw [upd_nn _ _ hj]; exact uo j hj) (fun j hj => by rw [upG_n _ _ (by omega), upG_n _ _ (by omega), CF.1 j (by omega)]; exact hG j hj) _ rfl
    · refine ⟨RS _ (fun kd hk => (xo_fold (SA := SA) K 0 x.1.1).1 kd (by omega) (by omega)), rfl, fun j hj => ?_, ?_⟩
      · show upd (F 19) s (nI c) j = upd x.1.2.2.2.2.1 s (nI c) j ∧ upd (F 20) s (nI mu) j = upd x.1.2.2.2.2.2.1 s (nI mu) j
        by_cases e : j = s
        · subst e; rw [upd_ss, upd_ss, upd_ss, upd_ss]; exact ⟨rfl, rfl⟩
        · have hj : j < s + 1 := hj
          rw [upd_nn _ _ e, upd_nn _ _ e, upd_nn _ _ e, upd_nn _ _ e, CF.1 19 (by omega), CF.1 20 (by omega)]
          exact x3 j (by omega)
      · show s + 1 + potF (F 15) (F 16) N K M ≤ 54
        omega
    · show potF (F 15) (F 16) N K M < _
      omega
set_option maxRecDepth 10000 in
theorem cr_all (hb : E.2.2.2.1 ≤ mo) (V : PhiV N K cc φ) : ∀ (k kc c : Nat) (x : XS × WS) (lay : Nat) (v : Nat → Int32) (G : Nat → Nat → Int32), c + kc = cc → MP v N K M cc → KnF v G N K M cc φ → XI N K M x.1 v G → ChI (ord N).2.1 (cT N) x.1.1 K (x.2.1, x.2.2.1, lay) → potF (G 15) (G 16) N K M ≤ k + 1 → (∀ j, j ≠ 33 → v j = u j) → (∀ j, j < 15 → G j = f j) →
    ∀ L, L.take 2 = [(0, .ref mo), (1, .int (nI c))] → J E m_Md_cross 4 0 0 37 L [] (hM E h mo v G) n (CrQ E h n mo u f N K M (fiL K N M cc (ord N).1 (vT N) (ord N).2.1 φ k (tsL K N M (vT N) (ord N).2.1 φ lay kc c x).1 (tsL K N M (vT N) (ord N).2.1 φ lay kc c x).2).1) := by
  intro k
  induction k with
  | zero =>
    intro kc
    induction kc with
    | zero =>
      intro c x lay v G hc P kn X Ch hp uo hG
      have hc : c = cc := by omega
      subst hc
      exact cr_end P X uo hG
    | succ kc ih =>
      intro c x lay v G hc P kn X Ch hp uo hG
      refine cr_one hb V (by omega) P kn X Ch uo hG (fun F lt kn2 X2 Ch2 pp hF => ?_) (fun v2 G2 lt P2 kn2 X2 pp uo2 hG2 => ?_)
      · rw [tsL, if_neg lt]
        exact ih (c + 1) _ lay v F (by omega) P kn2 X2 Ch2 (by omega) uo hF
      · rw [tsL, if_pos lt]
        exact cr_rest hb cc 0 v2 G2 (by omega) P2 kn2 X2 (by omega) uo2 hG2
  | succ k ihk =>
    intro kc
    induction kc with
    | zero =>
      intro c x lay v G hc P kn X Ch hp uo hG
      have hc : c = cc := by omega
      subst hc
      have e : fiL K N M c (ord N).1 (vT N) (ord N).2.1 φ (k + 1) (tsL K N M (vT N) (ord N).2.1 φ lay 0 c x).1 (tsL K N M (vT N) (ord N).2.1 φ lay 0 c x).2 = x := by rw [fiL, tsL, if_pos rfl]
      rw [e]
      exact cr_end P X uo hG
    | succ kc ih =>
      intro c x lay v G hc P kn X Ch hp uo hG
      refine cr_one hb V (by omega) P kn X Ch uo hG (fun F lt kn2 X2 Ch2 pp hF => ?_) (fun v2 G2 lt P2 kn2 X2 pp uo2 hG2 => ?_)
      · rw [tsL, if_neg lt]
        exact ih (c + 1) _ lay v F (by omega) P kn2 X2 Ch2 (by omega) uo hF
      · rw [tsL, if_pos lt, fiL, if_neg (show ¬ (1 : Int32) = 0 by decide)]
        have h1 := P2.2.2.2.2.1
        have cl := cT_le N
        generalize xoF K (lkF K N M (vT N) (ord N).2.1 (φ c) lay x.1 x.2).1 c (cuF K (lkF K N M (vT N) (ord N).2.1 (φ c) lay x.1 x.2).1) = xo at X2 ⊢
        generalize (lkF K N M (vT N) (ord N).2.1 (φ c) lay x.1 x.2).2 = w
        have I := chF_I (tkf := (ord N).2.1) (cnt := cT N) (my := xo.1) cl.2 K 0 (w.1, w.2.1, 1) ⟨fun kd hh => absurd hh (by omega), rfl⟩
        rw [Nat.zero_add] at I
        have := ihk cc 0 (xo, ((chF (ord N).2.1 (ord N).1 K xo.1 w.1 w.2.1).1, (chF (ord N).2.1 (ord N).1 K xo.1 w.1 w.2.1).2.1, w.2.2)) (chF (ord N).2.1 (ord N).1 K xo.1 w.1 w.2.1).2.2 v2 G2 (by omega) P2 kn2 X2 (by rw [ord_cT h1.1 h1.2]; exact I) (by omega) uo2 hG2
        exact this
/-- the crossing's tie -/
def TX (N K M : Nat) (xs : XS) (v : Nat → Int32) (f : Nat → Nat → Int32) : Prop := XI N K M xs v f ∧ ((xs = xs0 K M (ord N).2.2.2 ∧ v 24 = 0) ∨ (¬ xs.2.2.2.2.2.2.2 = 0 ∧ v 24 = 1))
set_option maxRecDepth 10000 in
theorem my0_I {al : Int32} : ∀ (k a : Nat) (g : Nat → Int32), (∀ kd, a ≤ kd → kd < a + k → (List.range' a k).foldl (fun f kd => upd f kd al) g kd = al) := fun k a g kd h1 h2 => (xo_fold (SA := fun _ => al) k a g).1 kd h1 h2
set_option maxRecDepth 10000 in
/-- at first all may be -/
theorem rel_0 {my be : Nat → Int32} (h1 : 1 ≤ N ∧ N ≤ 4) (hK : K ≤ 3) (hM : M ≤ 3) (e1 : ∀ j, j < 12 → my j = 1 <<< (nI N &&& 31) - 1) (e2 : ∀ j, j < 3 → be j = 3) : RelX N K M (xs0 K M (ord N).2.2.2).1 (xs0 K M (ord N).2.2.2).2.2.1 my be ∧ potF my be N K M ≤ 54 := by
  refine ⟨⟨fun kd p hk hp => ?_, fun kd t p hk ht hN hp => ?_, fun p hp => ?_, fun q p hq h2 hp => ?_⟩, ?_⟩
  · show tb (my0 K (ord N).2.2.2 kd) p = _
    unfold my0
    rw [my0_I K 0 _ kd (by omega) (by omega), al_T h1.1 h1.2 hp]
    by_cases e : p / 4 < N
    · rw [e1 _ (by omega), tb_full (by omega) (by omega), decide_eq_true e, Bool.true_and]
      exact decide_eq_decide.mpr ⟨fun y => y.2, fun y => ⟨e, y⟩⟩
    · rw [decide_eq_false e, Bool.false_and, decide_eq_false (fun y => e y.1)]
  · rw [e1 _ (by omega), tb_full (by omega) hp, decide_eq_false (by omega)]
  · show tb (wiF M (partsF M)) p = _
    have k : ∀ M : Fin 4, ∀ p : Fin 32, tb (wiF M.1 (partsF M.1)) p.1 = decide (p.1 / 2 < M.1) := by decide +kernel
    rw [k ⟨M, by omega⟩ ⟨p, hp⟩]
    by_cases e : p / 2 < M
    · rw [e2 _ (by omega)]
      have k2 : ∀ p : Fin 2, tb 3 p.1 = true := by decide +kernel
      rw [k2 ⟨p % 2, by omega⟩, Bool.and_true]
    · rw [decide_eq_false e, Bool.false_and]
  · rw [e2 _ (by omega)]
    have k2 : ∀ p : Fin 32, 2 ≤ p.1 → tb 3 p.1 = false := by decide +kernel
    exact k2 ⟨p, hp⟩ h2
  · have a : suT (fun kd => suT (fun t => cfN (my (4 * kd + t))) N) K ≤ K * 16 := by
      refine suT_le K (fun kd hk => Nat.le_trans (suT_le (b := 4) N (fun t ht => ?_)) (by omega))
      unfold cfN
      split <;> split <;> split <;> split <;> omega
    have b : suT (fun q => cfN (be q)) M ≤ M * 2 := by
      refine suT_le M (fun q hq => ?_)
      rw [e2 q (by omega)]
      decide +kernel
    unfold potF
    omega
end TC2

section TCR
variable {E : EV} {h : HP} {n mo N K M cc : Nat} {u : Nat → Int32} {f : Nat → Nat → Int32} {φ : Nat → PhiT}
set_option maxRecDepth 10000 in
theorem stF_op {vf : Nat → Nat} : ∀ (l : List Nat) (s : WS), (l.foldl (fun s kd => goF vf N s kd 0) s).1 = s.1 ∧ (l.foldl (fun s kd => goF vf N s kd 0) s).2.1 = s.2.1
  | [], _ => ⟨rfl, rfl⟩
  | a :: l, s => by rw [List.foldl_cons]; exact stF_op l (goF vf N s a 0)
set_option maxRecDepth 10000 in
theorem lkF_T {xs : XS} {ws : WS} {my be so sb : Nat → Int32} {lay c : Nat} (F : LoF N K M cc φ xs.1 xs.2.2.1 my be ws.1 ws.2.1 lay c) (hso : SoB N K M φ my be c so (stN N K M)) (hsb : SbB N K M φ my be c sb (stN N K M)) :
    RelX N K M (lkF K N M (vT N) (ord N).2.1 (φ c) lay xs ws).1.2.1 (lkF K N M (vT N) (ord N).2.1 (φ c) lay xs ws).1.2.2.2.1 so sb ∧ (lkF K N M (vT N) (ord N).2.1 (φ c) lay xs ws).2.1 = ws.1 ∧ (lkF K N M (vT N) (ord N).2.1 (φ c) lay xs ws).2.2.1 = ws.2.1 := by
  have K3 := F.2.2.2.1
  have L0 : LkI N K (ord N).2.1 (φ c) ws.1 ws.2.1 (opF M xs.2.2.1) 0 (fillF xs.2.1 3 0, 0, stF (vT N) N K ws) := by
    refine ⟨fun kd b hk hb => ⟨fun y => ?_, fun ⟨j, hj, _⟩ => absurd hj (by omega)⟩, fun b hb => ⟨fun y => ?_, fun ⟨j, hj, _⟩ => absurd hj (by omega)⟩⟩
    · dsimp only at y
      rw [show fillF xs.2.1 3 0 kd = 0 from if_pos (show kd < 3 by omega), tb_0] at y
      exact absurd y (by decide)
    · rw [tb_0] at y
      exact absurd y (by decide)
  have key : LkI N K (ord N).2.1 (φ c) ws.1 ws.2.1 (opF M xs.2.2.1) lay (lkL K N (vT N) (ord N).2.1 (φ c) (opF M xs.2.2.1) lay (fillF xs.2.1 3 0, 0, stF (vT N) N K ws)) ∧ (lkL K N (vT N) (ord N).2.1 (φ c) (opF M xs.2.2.1) lay (fillF xs.2.1 3 0, 0, stF (vT N) N K ws)).2.2.1 = ws.1 ∧ (lkL K N (vT N) (ord N).2.1 (φ c) (opF M xs.2.2.1) lay (fillF xs.2.1 3 0, 0, stF (vT N) N K ws)).2.2.2.1 = ws.2.1 := by
    by_cases e : lay = 0
    · subst e
      exact ⟨L0, (stF_op _ _).1, (stF_op _ _).2⟩
    · obtain ⟨P1, P2⟩ := F.pos (by omega)
      have := lk_I (tkf := (ord N).2.1) (pa := opF M xs.2.2.1) (fun th th' hh => F.1 c F.2.1 th th' hh) F.2.2.1 P2 P1 lay 0 (fillF xs.2.1 3 0, 0, stF (vT N) N K ws) (stF_I F.2.2.1 P2 P1 rfl rfl) L0
      rw [Nat.zero_add] at this
      exact this
  exact ⟨see_T F key.1 hso hsb, key.2⟩
/-- the crossing, both sides -/
def XI (N K M : Nat) (xs : XS) (v : Nat → Int32) (f : Nat → Nat → Int32) : Prop := RelX N K M xs.1 xs.2.2.1 (f 15) (f 16) ∧ v 33 = nI xs.2.2.2.2.2.2.1 ∧ (∀ j, j < xs.2.2.2.2.2.2.1 → f 19 j = xs.2.2.2.2.1 j ∧ f 20 j = xs.2.2.2.2.2.1 j) ∧ xs.2.2.2.2.2.2.1 + potF (f 15) (f 16) N K M ≤ 54
def CrQ (E : EV) (h : HP) (n mo : Nat) (u : Nat → Int32) (f : Nat → Nat → Int32) (N K M : Nat) (R : XS) : Option Value → HP → Nat → Prop := fun r h' n' => n' = n ∧ ∃ v' f', h' = hM E h mo v' f' ∧ XI N K M R v' f' ∧ (∀ j, j ≠ 33 → v' j = u j) ∧ (∀ j, j < 15 → f' j = f j) ∧ r = some (.int (nI R.2.2.2.2.2.2.1))
/-- one clue tried -/
def CbF (N K M : Nat) (φ : Nat → PhiT) (f F : Nat → Nat → Int32) (so sb : Nat → Int32) (c : Nat) : Prop := (∀ j, j < 15 ∨ 18 < j → F j = f j) ∧ SoB N K M φ (f 15) (f 16) c so (stN N K M) ∧ SbB N K M φ (f 15) (f 16) c sb (stN N K M) ∧ (∀ kd t, kd < K → t < N → F 15 (4 * kd + t) = f 15 (4 * kd + t) &&& so (4 * kd + t)) ∧ ∀ q, q < M → F 16 q = f 16 q &&& sb q
set_option maxRecDepth 10000 in
theorem cr_by {c : Nat} {v : Nat → Int32} {G : Nat → Nat → Int32} {Q : Option Value → HP → Nat → Prop} (hb : E.2.2.2.1 ≤ mo) (P : MP v N K M cc) (kn : KnF v G N K M cc φ) (hc : c < cc) (hpot : potF (G 15) (G 16) N K M ≤ 54)
    (k0 : ∀ F so sb, CbF N K M φ G F so sb c → muN (G 15) so N K + muB (G 16) sb M = 0 → ∀ L, L.take 2 = [(0, .ref mo), (1, .int (nI (c + 1)))] → J E m_Md_cross 4 0 0 37 L [] (hM E h mo v F) n Q)
    (k1 : ∀ F so sb, CbF N K M φ G F so sb c → 0 < muN (G 15) so N K + muB (G 16) sb M → muN (G 15) so N K + muB (G 16) sb M ≤ 54 → J E m_Md_cross 4 0 0 61 [(0, .ref mo), (1, .int (nI c)), (2, .int (nI (muN (G 15) so N K + muB (G 16) sb M)))] [] (hM E h mo v F) n Q) :
    ∀ L, L.take 2 = [(0, .ref mo), (1, .int (nI c))] → J E m_Md_cross 4 0 0 37 L [] (hM E h mo v G) n Q := by
  intro L hL
  have h20 := P.2.2.2.2.2.2.2
  refine J.tk 2 ?_
  rw [hL]
  refine j_iload_n d_Md_cross_37 rfl ?_
  refine j_aload_n d_Md_cross_38 rfl ?_
  refine m_get d_Md_cross_39 fl_Md_144 rfl ?_
  rw [P.2.2.2.1]
  refine j_icmp_ge (tgt := 96) d_Md_cross_42 (by decide) (fun z => absurd z (nI_ge hc (by omega))) (fun _ => ?_)
  refine j_aload_n d_Md_cross_45 rfl ?_
  refine j_iload_n d_Md_cross_46 rfl ?_
  refine m_callV (As := [.int (nI c)]) d_Md_cross_47 cb_Md_195 vv_Md_crossBy rfl rfl rfl (Nat.le_of_ble_eq_true rfl) (d' := 3) (by decide) (c_Md_crossBy hb P kn hc) (fun w h' n' q _ => ?_)
  obtain ⟨rfl, F, so, sb, rfl, q1, q2, q3, q4, q5, rfl⟩ := q
  have hmu := pot_step (N := N) (K := K) (M := M) q4 q5
  have CF : CbF N K M φ G F so sb c := ⟨q1, q2, q3, q4, q5⟩
  have k0 := k0 F so sb CF
  have k1 := k1 F so sb CF
  generalize muN (G 15) so N K + muB (G 16) sb M = mu at hmu k0 k1 ⊢
  refine j_istore_n d_Md_cross_50 (by decide) ?_
  refine j_iload_n d_Md_cross_51 rfl ?_
  refine j_if_ne (tgt := 61) d_Md_cross_52 (by decide) (fun z => ?_) (fun z => ?_)
  · exact k1 (Nat.pos_of_ne_zero (fun y => z (by rw [y]; rfl))) (by omega)
  · have m0 : mu = 0 := (nI_eq (b := 0) (by omega) (by decide)).mp z
    refine j_iinc (v := nI (c + 1)) d_Md_cross_55 rfl (nI_succ c).symm (by decide) ?_
    refine j_goto (tgt := 37) d_Md_cross_58 (by decide) ?_
    exact k0 m0 _ rfl
set_option maxRecDepth 10000 in
theorem cr_end {v : Nat → Int32} {G : Nat → Nat → Int32} {R : XS} (P : MP v N K M cc) (X : XI N K M R v G) (uo : ∀ j, j ≠ 33 → v j = u j) (hG : ∀ j, j < 15 → G j = f j) : ∀ L, L.take 2 = [(0, .ref mo), (1, .int (nI cc))] → J E m_Md_cross 4 0 0 37 L [] (hM E h mo v G) n (CrQ E h n mo u f N K M R) := by
  intro L hL
  have h20 := P.2.2.2.2.2.2.2
  refine J.tk 2 ?_
  rw [hL]
  refine j_iload_n d_Md_cross_37 rfl ?_
  refine j_aload_n d_Md_cross_38 rfl ?_
  refine m_get d_Md_cross_39 fl_Md_144 rfl ?_
  rw [P.2.2.2.1]
  refine j_icmp_ge (tgt := 96) d_Md_cross_42 (by decide) (fun _ => ?_) (fun z => absurd (nI_le (Nat.le_refl _) (by omega)) z)
  refine j_aload_n d_Md_cross_96 rfl ?_
  refine m_get d_Md_cross_97 fl_Md_92 rfl ?_
  rw [X.2.1]
  exact j_iret d_Md_cross_100 rfl ⟨rfl, v, G, rfl, X, uo, hG, rfl⟩
set_option maxRecDepth 10000 in
theorem XI.none {R : XS} {v : Nat → Int32} {G F : Nat → Nat → Int32} {so sb : Nat → Int32} {c : Nat} (h1 : 1 ≤ N ∧ N ≤ 4) (X : XI N K M R v G) (CF : CbF N K M φ G F so sb c) (z : muN (G 15) so N K + muB (G 16) sb M = 0) : XI N K M R v F := by
  obtain ⟨x1, x2, x3, x4⟩ := X
  have hp := pot_step (N := N) (K := K) (M := M) CF.2.2.2.1 CF.2.2.2.2
  exact ⟨rel_none h1 x1 z CF.2.2.2.1 CF.2.2.2.2, x2, fun j hj => by rw [CF.1 19 (by omega), CF.1 20 (by omega)]; exact x3 j hj, by omega⟩
set_option maxRecDepth 10000 in
theorem cr_rest (hb : E.2.2.2.1 ≤ mo) {R : XS} : ∀ (k c : Nat) (v : Nat → Int32) (G : Nat → Nat → Int32), c + k = cc → MP v N K M cc → KnF v G N K M cc φ → XI N K M R v G → potF (G 15) (G 16) N K M = 0 → (∀ j, j ≠ 33 → v j = u j) → (∀ j, j < 15 → G j = f j) → ∀ L, L.take 2 = [(0, .ref mo), (1, .int (nI c))] → J E m_Md_cross 4 0 0 37 L [] (hM E h mo v G) n (CrQ E h n mo u f N K M R)
  | 0, c, v, G, hc, P, kn, X, hp, uo, hG => by
    have hc : c = cc := by omega
    subst hc
    exact cr_end P X uo hG
  | k + 1, c, v, G, hc, P, kn, X, hp, uo, hG => by
    have ih := cr_rest hb (R := R) k
    have h1 := P.2.2.2.2.1
    refine cr_by hb P kn (by omega) (by omega) (fun F so sb CF z => ?_) (fun F so sb CF z _ => ?_)
    · have pp := pot_step (N := N) (K := K) (M := M) CF.2.2.2.1 CF.2.2.2.2
      exact ih (c + 1) v F (by omega) P (kn.cg rfl (CF.1 _ (by omega)) (CF.1 _ (by omega)) (CF.1 _ (by omega))) (X.none h1 CF z) (by omega) uo (fun j hj => by rw [CF.1 j (by omega)]; exact hG j hj)
    · have pp := pot_step (N := N) (K := K) (M := M) CF.2.2.2.1 CF.2.2.2.2
      omega
set_option maxRecDepth 10000 in
theorem xo_fold {SA : Nat → Int32} : ∀ (k a : Nat) (g : Nat → Int32), (∀ kd, a ≤ kd → kd < a + k → (List.range' a k).foldl (fun f kd => upd f kd (SA kd)) g kd = SA kd) ∧ ∀ j, (j < a ∨ a + k ≤ j) → (List.range' a k).foldl (fun f kd => upd f kd (SA kd)) g j = g j
  | 0, a, g => ⟨fun kd h1 h2 => by omega, fun _ _ => rfl⟩
  | k + 1, a, g => by
    rw [List.range'_succ, List.foldl_cons]
    have ih := xo_fold (SA := SA) k (a + 1) (upd g a (SA a))
    refine ⟨fun kd h1 h2 => ?_, fun j hj => ?_⟩
    · by_cases e : kd = a
      · subst e
        rw [ih.2 _ (by omega)]; exact upd_ss _ _ _
      · exact ih.1 kd (by omega) (by omega)
    · rw [ih.2 j (by omega)]; exact upd_nn _ _ (by omega)
end TCR

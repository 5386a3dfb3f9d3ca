section BO2
variable {E : EV} {H : HP} {n c mo : Nat}
set_option maxRecDepth 10000 in
theorem t_answer {t th kd : Int32} (I : LI E H n c mo) : CallT E m_C_answer m_Md_answer [.int t, .int th, .int kd] 2 2 0 0 H n c mo := by
  obtain ⟨p, a, ln, nn, k, m, cc, txf, φ, s, ws, xs, xws, rn, v, f, C, B, hs, D, V⟩ := I
  have hn4 := C.2.1.2.2.2.1
  have hk3 := C.2.1.2.2.2.2.1
  obtain ⟨kp, A, T, _⟩ := V.2.2.2.2.2.1
  refine ⟨_, _, C.1.1, c_C_answer C B, fun w' h' n' q => ?_⟩
  obtain ⟨rfl, rfl, q3⟩ := q; have q3 := q3.symm; subst q3
  refine ⟨_, v, f, _, rfl, hs, c_Md_answer (kp := kp) (φ := φ) D.2.2.2 V.2.2.1 A, fun w2 h2 n2 q => ?_⟩
  obtain ⟨q3, rfl, q⟩ := q; have q3 := q3.symm; subst q3
  refine ⟨?_, LI.th C B hs D V rfl⟩
  have hkp : kp ≤ 100 := A.2.1
  rcases T with ⟨rfl, rfl, rfl⟩ | ⟨_, I, T⟩
  · rcases q with ⟨q1, _⟩ | ⟨_, rfl⟩
    · exact absurd (Int32.lt_of_le_of_lt q1.1 q1.2) (by decide)
    · rw [if_neg (fun z => z.1.1 rfl)]
  · rcases T with ⟨rfl, rfl⟩ | ⟨rfl, ekp⟩
    · rcases q with ⟨q1, _⟩ | ⟨_, rfl⟩
      · exact absurd (Int32.lt_of_le_of_lt q1.1 q1.2) (by decide)
      · rw [if_neg (fun z => z.1.1 rfl)]
    · have hk : s.2.2.2.2.2.2.1 = kp := by rw [I.2.1.1, stN_c]; exact ekp.symm
      rw [hk]
      rcases q with ⟨q1, q2, st, q3, rfl⟩ | ⟨q1, rfl⟩
      · rw [if_pos ⟨⟨by decide, q1⟩, q2⟩]
        obtain ⟨j, hj, rfl⟩ := in_nI (by omega) q1
        obtain ⟨i, hi, rfl⟩ := in_nI (by omega) q2.2
        rw [nI_clamp (n := j) (by omega)] at q3 ⊢
        rw [nI_clamp (n := i) (by omega)]
        obtain ⟨st', a1, a2, a3, a4, a5⟩ := I.2.1.2 j (by rw [stN_c, ← ekp]; exact hj)
        rw [stN_c] at a1
        have := q3.uni (show IsA _ _ j st' from ⟨a1, a2, a3⟩)
        subst this
        rw [a4 i hi]
      · rw [if_neg (fun z => q1 ⟨z.1.2, z.2⟩)]
set_option maxRecDepth 10000 in
theorem t_truth {t q0 : Int32} (I : LI E H n c mo) : CallT E m_C_truth m_Md_truth [.int t, .int q0] 2 1 0 0 H n c mo := by
  obtain ⟨p, a, ln, nn, k, m, cc, txf, φ, s, ws, xs, xws, rn, v, f, C, B, hs, D, V⟩ := I
  have hm3 := C.2.1.2.2.2.2.2.1
  obtain ⟨kp, A, T, _⟩ := V.2.2.2.2.2.1
  refine ⟨_, _, C.1.1, c_C_truth C, fun w' h' n' q => ?_⟩
  obtain ⟨rfl, rfl, q3⟩ := q; have q3 := q3.symm; subst q3
  refine ⟨_, v, f, _, rfl, hs, c_Md_truth (kp := kp) (φ := φ) D.2.2.2 V.2.2.1 A, fun w2 h2 n2 q => ?_⟩
  obtain ⟨q3, rfl, q⟩ := q; have q3 := q3.symm; subst q3
  refine ⟨?_, LI.th C B hs D V rfl⟩
  have hkp : kp ≤ 100 := A.2.1
  rcases T with ⟨rfl, rfl, rfl⟩ | ⟨_, I, T⟩
  · rcases q with ⟨q1, _⟩ | ⟨_, rfl⟩
    · exact absurd (Int32.lt_of_le_of_lt q1.1 q1.2) (by decide)
    · rw [if_neg (fun z => z.1.1 rfl)]
  · rcases T with ⟨rfl, rfl⟩ | ⟨rfl, ekp⟩
    · rcases q with ⟨q1, _⟩ | ⟨_, rfl⟩
      · exact absurd (Int32.lt_of_le_of_lt q1.1 q1.2) (by decide)
      · rw [if_neg (fun z => z.1.1 rfl)]
    · have hk : s.2.2.2.2.2.2.1 = kp := by rw [I.2.1.1, stN_c]; exact ekp.symm
      rw [hk]
      rcases q with ⟨q1, q2, st, q3, rfl⟩ | ⟨q1, rfl⟩
      · rw [if_pos ⟨⟨by decide, q1⟩, q2⟩]
        obtain ⟨j, hj, rfl⟩ := in_nI (by omega) q1
        obtain ⟨i, hi, rfl⟩ := in_nI (by omega) q2
        rw [nI_clamp (n := j) (by omega)] at q3 ⊢
        rw [nI_clamp (n := i) (by omega)]
        obtain ⟨st', a1, a2, a3, a4, a5⟩ := I.2.1.2 j (by rw [stN_c, ← ekp]; exact hj)
        rw [stN_c] at a1
        have := q3.uni (show IsA _ _ j st' from ⟨a1, a2, a3⟩)
        subst this
        have hp := ptS_lt (st := st) hm3
        rw [a5]
        congr 2
        have key : ((truthF i >>> (nI (ptS m st) &&& 31)) &&& 1 = 0) ↔ ¬ trS m st i := by
          rw [tb_low (by omega), tru_pt hm3 hi]
          exact ⟨bI_eq, fun y => bI_f y⟩
        by_cases e : trS m st i
        · rw [bI_t e]; exact (bI_t (p := ¬ (truthF i >>> (nI (ptS m st) &&& 31)) &&& 1 = 0) (fun z => key.mp z e)).symm
        · rw [bI_f e]; exact (bI_f (p := ¬ (truthF i >>> (nI (ptS m st) &&& 31)) &&& 1 = 0) (fun z => z (key.mpr e))).symm
      · rw [if_neg (fun z => q1 ⟨z.1.2, z.2⟩)]
set_option maxRecDepth 10000 in
theorem md_keep {H' : HP} {p a n' : Nat} {v : Nat → Int32} {f : Nat → Nat → Int32} (hs : hM E H mo v f = H) (D : DJ E n c p a mo) (o : p + 5 ≤ a) (F : FrC c a n n' H H') : hM E H' mo v f = H' := by
  obtain ⟨d1, d2, d3, d4⟩ := D
  exact hM_keep hs (fun q h1 h2 => F.2 q (by omega) (by omega) (by omega) (by omega))
set_option maxRecDepth 10000 in
theorem t_run (I : LI E H n c mo) : CallT E m_C_run m_Md_run [] 36 4 1 3 H n c mo := by
  obtain ⟨p, a, ln, nn, k, m, cc, txf, φ, s, ws, xs, xws, rn, v, f, C, B, hs, D, V⟩ := I
  obtain ⟨V1, V2, P, MC, K, ⟨kp, A, T, Z⟩, X⟩ := V
  refine ⟨_, _, C.1.1, c_C_run C B, fun w' h' n' q => ?_⟩
  obtain ⟨F, rfl, C2⟩ := q
  have hs2 := md_keep hs D C.2.2.1.2.1 F
  have fi := fnd_I MC.V P.2.2.2.2.1 P.2.2.2.2.2.1 P.2.2.2.2.2.2.1 C.2.2.2.1 T
  have fb := fndF_B (nn := nn) (k := k) (m := m) (cc := cc) (φ := φ) B C.2.2.2.1 C.2.2.2.2.2.1
  refine ⟨_, v, f, _, rfl, hs2, c_Md_run D.2.2.2 P MC K, fun w2 h2 n2 q => ?_⟩
  obtain ⟨q3, rfl, v', f', rfl, kn, v23, v0, v27, ar, vo, fo⟩ := q; have q3 := q3.symm; subst q3
  refine ⟨by rw [fi.1.1, stN_c], p, a, ln, nn, k, m, cc, txf, φ, _, _, xs, xws, 1, v', f', C2.md hs2 D.1 D.2.1, fb.2.1, hM_new, ⟨D.1, D.2.1, Nat.le_trans D.2.2.1 F.1, D.2.2.2⟩, ?_⟩
  refine ⟨(vo 1 (by decide) (by decide) (by decide) (by decide)).trans V1, (fo 1 (by omega)).trans V2, ⟨(vo 3 (by decide) (by decide) (by decide) (by decide)).trans P.1, (vo 4 (by decide) (by decide) (by decide) (by decide)).trans P.2.1, (vo 5 (by decide) (by decide) (by decide) (by decide)).trans P.2.2.1, (vo 6 (by decide) (by decide) (by decide) (by decide)).trans P.2.2.2.1, P.2.2.2.2⟩, ?_, Or.inr ⟨v23, kn⟩, ⟨_, ⟨v27, Nat.min_le_left _ _, Or.inr ⟨kn, ar⟩⟩, Or.inr ⟨fi.2, fi.1, Or.inr ⟨rfl, rfl⟩⟩, Or.inr v23⟩, ?_⟩
  · intro i hi
    rw [fo 2 (by omega), fo 3 (by omega), fo 4 (by omega), fo 5 (by omega)]
    exact MC i hi
  · refine ⟨X.1.cg (vo 33 (by decide) (by decide) (by decide) (by decide)) (fo _ (by omega)) (fo _ (by omega)) (fo _ (by omega)) (fo _ (by omega)), ?_⟩
    rw [vo 24 (by decide) (by decide) (by decide) (by decide)]
    exact X.2
set_option maxRecDepth 10000 in
/-- a question that may make the reference know -/
theorem ask_VB {ln nn k m cc kp : Nat} {txf : Nat → Nat} {φ : Nat → PhiT} {s s' : AS} {xs : XS} {rn : Int32} {v v' : Nat → Int32} {f f' : Nat → Nat → Int32} (V1 : v 1 = nI ln) (V2 : f 1 = nA txf) (P : MP v nn k m cc) (MC : MCl f nn k m cc φ) (K : KnD v f nn k m cc φ) (A : AnD v f nn k m cc kp φ) (T : TA nn k m cc φ s' rn kp) (Z : kp = 0 ∨ v 23 = 1) (X : TX nn k m xs v f) (kn : KnD v' f' nn k m cc φ) (h23 : v 23 = 1 → v' 23 = 1) (vo : ∀ j, j ≠ 0 → j ≠ 20 → j ≠ 23 → v' j = v j) (fo : ∀ j, j < 10 ∨ 13 < j → f' j = f j) : VB ln nn k m cc txf φ s' xs rn v' f' := by
  refine ⟨(vo 1 (by decide) (by decide) (by decide)).trans V1, (fo 1 (by omega)).trans V2, ⟨(vo 3 (by decide) (by decide) (by decide)).trans P.1, (vo 4 (by decide) (by decide) (by decide)).trans P.2.1, (vo 5 (by decide) (by decide) (by decide)).trans P.2.2.1, (vo 6 (by decide) (by decide) (by decide)).trans P.2.2.2.1, P.2.2.2.2⟩, MC.rows fo, kn, ⟨kp, ⟨(vo 27 (by decide) (by decide) (by decide)).trans A.1, A.2.1, ?_⟩, T, Z.imp id h23⟩, ?_⟩
  · rcases Z with e | e
    · exact Or.inl e
    · rcases A.2.2 with e2 | ⟨k1, k2⟩
      · exact Or.inl e2
      · rcases kn with y | y
        · rw [h23 e] at y; exact absurd y (by decide)
        · refine Or.inr ⟨y.2, fun j hj => ?_⟩
          rw [fo 14 (by omega)]; exact k2 j hj
  · refine ⟨X.1.cg (vo 33 (by decide) (by decide) (by decide)) (fo _ (by omega)) (fo _ (by omega)) (fo _ (by omega)) (fo _ (by omega)), ?_⟩
    rw [vo 24 (by decide) (by decide) (by decide)]
    exact X.2
set_option maxRecDepth 10000 in
theorem TA.up {nn k m cc kp : Nat} {φ : Nat → PhiT} {s s' : AS} {rn : Int32} (T : TA nn k m cc φ s rn kp) (h1 : s'.2.2.2.2.2.2.2 = 1) (h2 : AnI nn k m cc φ (cT nn ^ k) s') : TA nn k m cc φ s' rn kp := by
  rcases T with ⟨_, h3, h4⟩ | ⟨_, _, h5⟩
  · exact Or.inr ⟨h1, h2, Or.inl ⟨h3, h4⟩⟩
  · exact Or.inr ⟨h1, h2, h5⟩
set_option maxRecDepth 10000 in
theorem t_often {t kd w : Int32} (I : LI E H n c mo) : CallT E m_C_often m_Md_often [.int t, .int kd, .int w] 36 4 1 3 H n c mo := by
  obtain ⟨p, a, ln, nn, k, m, cc, txf, φ, s, ws, xs, xws, rn, v, f, C, B, hs, D, V⟩ := I
  obtain ⟨V1, V2, P, MC, K, ⟨kp, A, T, Z⟩, X⟩ := V
  have h1 := P.2.2.2.2.1
  have hk3 := P.2.2.2.2.2.1
  refine ⟨_, _, C.1.1, c_C_often C B, fun w' h' n' q => ?_⟩
  obtain ⟨F, q⟩ := q
  have hs2 := md_keep hs D C.2.2.1.2.1 F
  have fi := fnd_I MC.V h1 hk3 P.2.2.2.2.2.2.1 C.2.2.2.1 T
  have fb := fndF_B (nn := nn) (k := k) (m := m) (cc := cc) (φ := φ) B C.2.2.2.1 C.2.2.2.2.2.1
  rcases q with ⟨q1, rfl, C2⟩ | ⟨q1, rfl, rfl, q3⟩
  · refine ⟨_, v, f, _, rfl, hs2, c_Md_often D.2.2.2 P MC K, fun w2 h2 n2 q => ?_⟩
    obtain ⟨q3, rfl, v', f', rfl, kn, h23, v0, vo, fo⟩ := q; have q3 := q3.symm; subst q3
    refine ⟨?_, p, a, ln, nn, k, m, cc, txf, φ, _, _, xs, xws, rn, v', f', C2.md hs2 D.1 D.2.1, fb.2.1, hM_new, ⟨D.1, D.2.1, Nat.le_trans D.2.2.1 F.1, D.2.2.2⟩, ask_VB (s := s) V1 V2 P MC K A (T.up fi.2 fi.1) Z X kn h23 vo fo⟩
    obtain ⟨i, hi, e⟩ := in_nI (by omega) q1.2.1
    rw [if_pos ⟨⟨q1.1, q1.2.1⟩, q1.2.2⟩, often_T h1 fi.1 (by rw [e, nI_clamp (by omega)]; exact hi)]
  · have q3 := q3.symm; subst q3
    refine ⟨_, v, f, _, rfl, hs2, c_Md_often D.2.2.2 P MC K, fun w2 h2 n2 q => ?_⟩
    obtain ⟨q3, rfl, v', f', rfl, kn, h23, v0, vo, fo⟩ := q; have q3 := q3.symm; subst q3
    refine ⟨?_, p, a, ln, nn, k, m, cc, txf, φ, s, ws, xs, xws, rn, v', f', C.md hs2 D.1 D.2.1, B, hM_new, D, ask_VB (s := s) V1 V2 P MC K A T Z X kn h23 vo fo⟩
    rw [if_neg (fun z => q1 ⟨z.1.1, z.1.2, z.2⟩)]
set_option maxRecDepth 10000 in
theorem t_spare {t : Int32} (I : LI E H n c mo) : CallT E m_C_spare m_Md_spare [.int t] 36 4 1 3 H n c mo := by
  obtain ⟨p, a, ln, nn, k, m, cc, txf, φ, s, ws, xs, xws, rn, v, f, C, B, hs, D, V⟩ := I
  obtain ⟨V1, V2, P, MC, K, ⟨kp, A, T, Z⟩, X⟩ := V
  have h1 := P.2.2.2.2.1
  have h20 := P.2.2.2.2.2.2.2
  refine ⟨_, _, C.1.1, c_C_spare C B, fun w' h' n' q => ?_⟩
  obtain ⟨F, q⟩ := q
  have hs2 := md_keep hs D C.2.2.1.2.1 F
  have fi := fnd_I MC.V h1 P.2.2.2.2.2.1 P.2.2.2.2.2.2.1 C.2.2.2.1 T
  have fb := fndF_B (nn := nn) (k := k) (m := m) (cc := cc) (φ := φ) B C.2.2.2.1 C.2.2.2.2.2.1
  rcases q with ⟨q1, rfl, C2⟩ | ⟨q1, rfl, rfl, q3⟩
  · refine ⟨_, v, f, _, rfl, hs2, c_Md_spare D.2.2.2 P MC K, fun w2 h2 n2 q => ?_⟩
    obtain ⟨q3, rfl, v', f', rfl, kn, h23, v0, vo, fo⟩ := q; have q3 := q3.symm; subst q3
    refine ⟨?_, p, a, ln, nn, k, m, cc, txf, φ, _, _, xs, xws, rn, v', f', C2.md hs2 D.1 D.2.1, fb.2.1, hM_new, ⟨D.1, D.2.1, Nat.le_trans D.2.2.1 F.1, D.2.2.2⟩, ask_VB (s := s) V1 V2 P MC K A (T.up fi.2 fi.1) Z X kn h23 vo fo⟩
    obtain ⟨i, hi, rfl⟩ := in_nI (by omega) q1
    rw [nI_clamp (by omega), fi.1.2.2.2 i hi, stN_c]
    congr 2
    cases e : exP (olS nn k m cc φ i) (stN nn k m)
    · rw [if_pos (by decide), bI_t ⟨q1, exP_cn.mp e⟩]
    · rw [if_neg (by decide), bI_f (fun z => by rw [exP_cn.mpr z.2] at e; exact absurd e (by decide))]
  · have q3 := q3.symm; subst q3
    refine ⟨_, v, f, _, rfl, hs2, c_Md_spare D.2.2.2 P MC K, fun w2 h2 n2 q => ?_⟩
    obtain ⟨q3, rfl, v', f', rfl, kn, h23, v0, vo, fo⟩ := q; have q3 := q3.symm; subst q3
    refine ⟨?_, p, a, ln, nn, k, m, cc, txf, φ, s, ws, xs, xws, rn, v', f', C.md hs2 D.1 D.2.1, B, hM_new, D, ask_VB (s := s) V1 V2 P MC K A T Z X kn h23 vo fo⟩
    rw [bI_f (fun z => q1 z.1)]
set_option maxRecDepth 10000 in
theorem t_cross (I : LI E H n c mo) : CallT E m_C_cross m_Md_cross [] 37 4 0 0 H n c mo := by
  obtain ⟨p, a, ln, nn, k, m, cc, txf, φ, s, ws, xs, xws, rn, v, f, C, B, hs, D, V⟩ := I
  obtain ⟨V1, V2, P, MC, K, ⟨kp, A, T, Z⟩, X⟩ := V
  refine ⟨_, _, C.1.1, c_C_cross C, fun w' h' n' q => ?_⟩
  obtain ⟨q3, F, rfl, C2⟩ := q; have q3 := q3.symm; subst q3
  have hs2 := md_keep hs D C.2.2.1.2.1 F
  refine ⟨_, v, f, _, rfl, hs2, c_Md_cross (xws := xws) D.2.2.2 P MC K X, fun w2 h2 n2 q => ?_⟩
  obtain ⟨q3, rfl, v', f', rfl, kn, v23, v0, X2, vo, fo⟩ := q; have q3 := q3.symm; subst q3
  refine ⟨rfl, p, a, ln, nn, k, m, cc, txf, φ, s, ws, _, _, rn, v', f', C2.md hs2 D.1 D.2.1, B, hM_new, D, ?_⟩
  refine ⟨(vo 1 (by decide) (by decide) (by decide) (by decide) (by decide)).trans V1, (fo 1 (by omega)).trans V2, ⟨(vo 3 (by decide) (by decide) (by decide) (by decide) (by decide)).trans P.1, (vo 4 (by decide) (by decide) (by decide) (by decide) (by decide)).trans P.2.1, (vo 5 (by decide) (by decide) (by decide) (by decide) (by decide)).trans P.2.2.1, (vo 6 (by decide) (by decide) (by decide) (by decide) (by decide)).trans P.2.2.2.1, P.2.2.2.2⟩, ?_, Or.inr ⟨v23, kn⟩, ⟨kp, ⟨(vo 27 (by decide) (by decide) (by decide) (by decide) (by decide)).trans A.1, A.2.1, ?_⟩, T, Or.inr v23⟩, X2⟩
  · intro i hi
    rw [fo 2 (by omega), fo 3 (by omega), fo 4 (by omega), fo 5 (by omega)]
    exact MC i hi
  · rcases A.2.2 with e | ⟨k1, k2⟩
    · exact Or.inl e
    · refine Or.inr ⟨kn, fun j hj => ?_⟩
      rw [fo 14 (by omega)]; exact k2 j hj
set_option maxRecDepth 10000 in
theorem t_read (I : LI E H n c mo) : CallT E m_C_read m_Md_read [] 99 5 327 1896 H n c mo := by
  obtain ⟨p, a, ln, nn, k, m, cc, txf, φ, s, ws, xs, xws, rn, v, f, C, B, hs, D, V⟩ := I
  obtain ⟨V1, V2, P, MC, K, ⟨kp, A, T, Z⟩, X⟩ := V
  refine ⟨_, _, C.1.1, c_C_read C, fun w' h' n' q => ?_⟩
  have ht := C.2.1.1
  have hl := C.2.1.2.1
  have rd := c_Md_read (E := E) (h := h') (n := n') (mo := mo) (v := v) (f := f) (ln := ln) (txf := txf) D.2.2.2 V1 V2 hl ht
  generalize rdF txf ln = x at q rd
  obtain ⟨F, q⟩ := q
  have hs2 := md_keep hs D C.2.2.1.2.1 F
  rcases q with ⟨q1, rfl, C2⟩ | ⟨q1, rfl, p', a', hp', C2⟩
  · refine ⟨_, v, f, _, rfl, hs2, rd, fun w2 h2 n2 q => ?_⟩
    obtain ⟨q3, u, G, rfl, u0, u1, g1, q⟩ := q; have q3 := q3.symm; subst q3
    rcases q with ⟨_, rfl, uo, go⟩ | ⟨q2, _⟩
    · refine ⟨rfl, p, a, 0, nn, k, m, cc, txf, φ, s, ws, xs, xws, rn, u, G, C2.md hs2 D.1 D.2.1, B, hM_new, ⟨D.1, D.2.1, Nat.le_trans D.2.2.1 F.1, D.2.2.2⟩, ?_⟩
      have kcg : KnF v f nn k m cc φ → KnF u G nn k m cc φ := fun z => z.cg (uo 20 (by decide) (by decide)) (go 10 (by decide)) (go 11 (by decide)) (go 12 (by decide))
      have u23 := uo 23 (by decide) (by decide)
      refine ⟨u1, g1.trans V2, ⟨(uo 3 (by decide) (by decide)).trans P.1, (uo 4 (by decide) (by decide)).trans P.2.1, (uo 5 (by decide) (by decide)).trans P.2.2.1, (uo 6 (by decide) (by decide)).trans P.2.2.2.1, P.2.2.2.2⟩, ?_, ?_, ⟨kp, ⟨(uo 27 (by decide) (by decide)).trans A.1, A.2.1, ?_⟩, T, Z.imp id (fun z => u23.trans z)⟩, ?_⟩
      · intro i hi
        rw [go 2 (by decide), go 3 (by decide), go 4 (by decide), go 5 (by decide)]
        exact MC i hi
      · exact K.imp (fun z => u23.trans z) (fun z => ⟨u23.trans z.1, kcg z.2⟩)
      · rcases A.2.2 with e | ⟨k1, k2⟩
        · exact Or.inl e
        · refine Or.inr ⟨kcg k1, fun j hj => ?_⟩
          rw [go 14 (by decide)]; exact k2 j hj
      · refine ⟨X.1.cg (uo 33 (by decide) (by decide)) (go _ (by decide)) (go _ (by decide)) (go _ (by decide)) (go _ (by decide)), ?_⟩
        rw [uo 24 (by decide) (by decide)]
        exact X.2
    · rw [q1] at q2; exact absurd q2 (by decide)
  · refine ⟨_, v, f, _, rfl, hs2, rd, fun w2 h2 n2 q => ?_⟩
    obtain ⟨q3, u, G, rfl, u0, u1, g1, q⟩ := q; have q3 := q3.symm; subst q3
    rcases q with ⟨q2, _⟩ | ⟨_, rfl, P2, MC2, u23, u24, u27, u33, e15, e16⟩
    · rw [q1] at q2; exact absurd q2 (by decide)
    · have r0 := rel_0 (N := x.2.2.1) (K := x.2.2.2.1) (M := x.2.2.2.2.1) P2.2.2.2.2.1 P2.2.2.2.2.2.1 P2.2.2.2.2.2.2.1 e15 e16
      have D' : mo + 21 ≤ p' := Nat.le_trans D.2.2.1 hp'
      refine ⟨rfl, p', a', 0, _, _, _, _, txf, _, as0, ws0, _, ws0, 0, u, G, C2.md hs2 D.1 (Or.inr D'), AB0, hM_new, ⟨D.1, Or.inr D', Nat.le_trans D.2.2.1 F.1, D.2.2.2⟩, ?_⟩
      exact ⟨u1, g1.trans V2, P2, MC2, Or.inl u23, ⟨0, ⟨u27, by decide, Or.inl rfl⟩, Or.inl ⟨rfl, rfl, rfl⟩, Or.inl rfl⟩, ⟨r0.1, u33, fun j hj => absurd hj (by show ¬ j < 0; omega), by show 0 + _ ≤ 54; have := r0.2; omega⟩, Or.inl ⟨rfl, u24⟩⟩
set_option maxRecDepth 10000 in
theorem t_unit {u : Int32} (I : LI E H n c mo) : CallT E m_C_unit m_Md_unit [.int u] 0 0 0 0 H n c mo := by
  obtain ⟨p, a, ln, nn, k, m, cc, txf, φ, s, ws, xs, xws, rn, v, f, C, B, hs, D, V⟩ := I
  have hl := C.2.1.2.1
  refine ⟨_, _, C.1.1, c_C_unit C, fun w' h' n' q => ?_⟩
  obtain ⟨q3, F, q⟩ := q; have q3 := q3.symm; subst q3
  have hs2 := md_keep hs D C.2.2.1.2.1 F
  rcases q with ⟨b, hb, rfl, hln, rfl, C2⟩ | ⟨q1, rfl, rfl⟩
  · refine ⟨_, v, f, _, rfl, hs2, c_Md_unit D.2.2.2 V.1 hl, fun w2 h2 n2 q => ?_⟩
    obtain ⟨q3, q⟩ := q; have q3 := q3.symm; subst q3
    rcases q with ⟨_, rfl, rfl⟩ | ⟨q2, _⟩
    · obtain ⟨V1, V2, P, MC, K, ⟨kp, A, T, Z⟩, X⟩ := V
      refine ⟨rfl, p, a, ln + 1, nn, k, m, cc, _, φ, s, ws, xs, xws, rn, _, _, C2.md hs2 D.1 D.2.1, B, hM_new, D, ?_⟩
      refine ⟨rfl, ?_, (P.up (by decide)).up (by decide), MC, K.imp id (fun z => ⟨z.1, z.2.cg rfl rfl rfl rfl⟩), ⟨kp, ⟨A.1, A.2.1, A.2.2.imp id (fun z => ⟨z.1.cg rfl rfl rfl rfl, z.2⟩)⟩, T, Z⟩, ⟨X.1.cg rfl rfl rfl rfl rfl, X.2⟩⟩
      show upd (f 1) ln (nI b) = _
      rw [V2, upd_nA]
    · exfalso
      rcases q2 with q2 | q2 | q2
      · exact nI_pos (by omega) q2
      · exact nI_nlt (a := 255) (b := b) (by omega) (by decide) q2
      · omega
  · refine ⟨_, v, f, _, rfl, hs2, c_Md_unit D.2.2.2 V.1 hl, fun w2 h2 n2 q => ?_⟩
    obtain ⟨q3, q⟩ := q; have q3 := q3.symm; subst q3
    rcases q with ⟨q2, _⟩ | ⟨_, rfl, rfl⟩
    · exact absurd q1 q2
    · exact ⟨rfl, LI.th C B hs D V rfl⟩
end BO2

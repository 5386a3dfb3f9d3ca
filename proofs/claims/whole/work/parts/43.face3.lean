section FA3
variable {E : EV} {h : HP} {n c p a ln nn k m cc : Nat} {txf : Nat → Nat} {φ : Nat → PhiT} {s : AS} {ws : WS} {xs : XS} {xws : WS} {rn : Int32}
theorem c_C_often {t kd v : Int32} (C : CI E h n c p a ln nn k m cc txf φ s ws xs xws rn) (B : AB s) : Ct E m_C_often 36 1 3 [.ref c, .int t, .int kd, .int v] h n (fun r h' n' => FrC c a n n' h h' ∧ ((((0 ≤ t ∧ t < nI nn) ∧ (0 ≤ kd ∧ kd < nI k) ∧ (0 ≤ v ∧ v < nI nn)) ∧ r = some (.int (cwF (ord nn).1 (vT nn) (fndF nn k m cc φ s ws).1.2.2.1 t.toNatClampNeg kd.toNatClampNeg v.toNatClampNeg)) ∧ CI E h' n' c p a ln nn k m cc txf φ (fndF nn k m cc φ s ws).1 (fndF nn k m cc φ s ws).2 xs xws rn) ∨ (¬ ((0 ≤ t ∧ t < nI nn) ∧ (0 ≤ kd ∧ kd < nI k) ∧ (0 ≤ v ∧ v < nI nn)) ∧ r = some (.int (-1)) ∧ h' = h ∧ n' = n))) := by
  have hc := C.1.1
  have hp := C.1.2.2.1.1
  have hnn := C.2.1.2.2.2.1
  have hk3 := C.2.1.2.2.2.2.1
  refine Ct.go rfl rfl rfl ?_
  have no : ∀ cl sl, ¬ ((0 ≤ t ∧ t < nI nn) ∧ (0 ≤ kd ∧ kd < nI k) ∧ (0 ≤ v ∧ v < nI nn)) → J E m_C_often 36 cl sl 33 (lv_args 0 [.ref c, .int t, .int kd, .int v]) [] h n (fun r h' n' => FrC c a n n' h h' ∧ ((((0 ≤ t ∧ t < nI nn) ∧ (0 ≤ kd ∧ kd < nI k) ∧ (0 ≤ v ∧ v < nI nn)) ∧ r = some (.int (cwF (ord nn).1 (vT nn) (fndF nn k m cc φ s ws).1.2.2.1 t.toNatClampNeg kd.toNatClampNeg v.toNatClampNeg)) ∧ CI E h' n' c p a ln nn k m cc txf φ (fndF nn k m cc φ s ws).1 (fndF nn k m cc φ s ws).2 xs xws rn) ∨ (¬ ((0 ≤ t ∧ t < nI nn) ∧ (0 ≤ kd ∧ kd < nI k) ∧ (0 ≤ v ∧ v < nI nn)) ∧ r = some (.int (-1)) ∧ h' = h ∧ n' = n))) := by
    intro cl sl q
    refine j_iconst (v := (-1)) d_C_often_33 (by decide) ?_
    exact j_iret d_C_often_34 rfl ⟨FrC.rf, Or.inr ⟨q, rfl, rfl, rfl⟩⟩
  refine j_aload_n d_C_often_0 rfl ?_
  refine j_get d_C_often_1 fl_C_42 (by first | assumption | exact hset_s _ _ _ | (rw [hset_n _ _ (by omega)]; first | assumption | exact hset_s _ _ _ | (rw [hset_n _ _ (by omega)]; first | assumption | exact hset_s _ _ _ | (rw [hset_n _ _ (by omega)]; first | assumption | exact hset_s _ _ _ | (rw [hset_n _ _ (by omega)]; first | assumption | exact hset_s _ _ _))))) rfl ?_
  refine j_iload_n d_C_often_4 rfl ?_
  refine j_pV (As := [.int t]) d_C_often_5 cb_C_74 vv_Pz_hasThing hp rfl rfl rfl rfl (Nat.le_of_ble_eq_true rfl) (d' := 0) (by decide) (c_Pz_hasThing hp rfl) ?_
  refine j_if_eq (tgt := 33) d_C_often_8 (by decide) (fun q => no _ _ (fun x => bI_eq q x.1)) (fun q => ?_)
  refine j_aload_n d_C_often_11 rfl ?_
  refine j_get d_C_often_12 fl_C_42 (by first | assumption | exact hset_s _ _ _ | (rw [hset_n _ _ (by omega)]; first | assumption | exact hset_s _ _ _ | (rw [hset_n _ _ (by omega)]; first | assumption | exact hset_s _ _ _ | (rw [hset_n _ _ (by omega)]; first | assumption | exact hset_s _ _ _ | (rw [hset_n _ _ (by omega)]; first | assumption | exact hset_s _ _ _))))) rfl ?_
  refine j_iload_n d_C_often_15 rfl ?_
  refine j_pV (As := [.int kd]) d_C_often_16 cb_C_77 vv_Pz_hasKind hp rfl rfl rfl rfl (Nat.le_of_ble_eq_true rfl) (d' := 0) (by decide) (c_Pz_hasKind hp rfl) ?_
  refine j_if_eq (tgt := 33) d_C_often_19 (by decide) (fun q2 => no _ _ (fun x => bI_eq q2 x.2.1)) (fun q2 => ?_)
  refine j_aload_n d_C_often_22 rfl ?_
  refine j_get d_C_often_23 fl_C_42 (by first | assumption | exact hset_s _ _ _ | (rw [hset_n _ _ (by omega)]; first | assumption | exact hset_s _ _ _ | (rw [hset_n _ _ (by omega)]; first | assumption | exact hset_s _ _ _ | (rw [hset_n _ _ (by omega)]; first | assumption | exact hset_s _ _ _ | (rw [hset_n _ _ (by omega)]; first | assumption | exact hset_s _ _ _))))) rfl ?_
  refine j_iload_n d_C_often_26 rfl ?_
  refine j_pV (As := [.int v]) d_C_often_27 cb_C_91 vv_Pz_hasValue hp rfl rfl rfl rfl (Nat.le_of_ble_eq_true rfl) (d' := 0) (by decide) (c_Pz_hasValue hp rfl) ?_
  refine j_if_ne (tgt := 35) d_C_often_30 (by decide) (fun q3 => ?_) (fun q3 => no _ _ (fun x => bI_eq q3 x.2.2))
  have x1 := bI_ne q
  have x2 := bI_ne q2
  have x3 := bI_ne q3
  refine j_aload_n d_C_often_35 rfl ?_
  refine j_get d_C_often_36 fl_C_58 (by first | assumption | exact hset_s _ _ _ | (rw [hset_n _ _ (by omega)]; first | assumption | exact hset_s _ _ _ | (rw [hset_n _ _ (by omega)]; first | assumption | exact hset_s _ _ _ | (rw [hset_n _ _ (by omega)]; first | assumption | exact hset_s _ _ _ | (rw [hset_n _ _ (by omega)]; first | assumption | exact hset_s _ _ _))))) rfl ?_
  refine j_find C B d_C_often_39 cb_C_62 (Nat.le_of_ble_eq_true rfl) (by decide) (by decide) (by decide) (fun h3 n3 C3 F3 => ?_)
  have hc3 := C3.1.1
  have hA3 := C3.1.2.2.2.1
  have A3 := C3.1.2.2.1
  have o2 := C3.2.2.1.2.1
  have ha3 := hAn_0 (E := E) (h := h3) (a := a) (p := p) (od := p + 2) (K := k) (s := (fndF nn k m cc φ s ws).1) (ws := (fndF nn k m cc φ s ws).2)
  rw [hA3] at ha3
  obtain ⟨i, hi, rfl⟩ := in_nI (by omega) x1
  obtain ⟨j, hj, rfl⟩ := in_nI (by omega) x2
  obtain ⟨l, hl, rfl⟩ := in_nI (by omega) x3
  have ct := c_An_countWith (n := n3) (s := (fndF nn k m cc φ s ws).1) (ws := (fndF nn k m cc φ s ws).2) (t := i) (kd := j) (v := l) (a := a) A3.1 (by omega) (A3.od hnn o2) (by omega) (by omega) (by omega)
  rw [hA3] at ct
  refine j_aload_n d_C_often_42 rfl ?_
  refine j_get d_C_often_43 fl_C_58 (by first | assumption | exact hset_s _ _ _ | (rw [hset_n _ _ (by omega)]; first | assumption | exact hset_s _ _ _ | (rw [hset_n _ _ (by omega)]; first | assumption | exact hset_s _ _ _ | (rw [hset_n _ _ (by omega)]; first | assumption | exact hset_s _ _ _ | (rw [hset_n _ _ (by omega)]; first | assumption | exact hset_s _ _ _))))) rfl ?_
  refine j_iload_n d_C_often_46 rfl ?_
  refine j_iload_n d_C_often_47 rfl ?_
  refine j_iload_n d_C_often_48 rfl ?_
  refine j_pV (As := [.int (nI i), .int (nI j), .int (nI l)]) d_C_often_49 cb_C_94 vv_An_countWith ha3 rfl rfl rfl rfl (Nat.le_of_ble_eq_true rfl) (d' := 1) (by decide) ct ?_
  refine j_iret d_C_often_52 rfl ⟨F3, Or.inl ⟨⟨x1, x2, x3⟩, ?_, C3⟩⟩
  rw [nI_clamp (by omega), nI_clamp (by omega), nI_clamp (by omega)]
theorem c_C_spare {t : Int32} (C : CI E h n c p a ln nn k m cc txf φ s ws xs xws rn) (B : AB s) : Ct E m_C_spare 36 1 3 [.ref c, .int t] h n (fun r h' n' => FrC c a n n' h h' ∧ (((0 ≤ t ∧ t < nI cc) ∧ r = some (.int (if (fndF nn k m cc φ s ws).1.2.2.2.2.1 t.toNatClampNeg = 0 then 1 else 0)) ∧ CI E h' n' c p a ln nn k m cc txf φ (fndF nn k m cc φ s ws).1 (fndF nn k m cc φ s ws).2 xs xws rn) ∨ (¬ (0 ≤ t ∧ t < nI cc) ∧ r = some (.int 0) ∧ h' = h ∧ n' = n))) := by
  have hc := C.1.1
  have hp := C.1.2.2.1.1
  have h20 := C.2.1.2.2.2.2.2.2
  have BB := fndF_B (nn := nn) (k := k) (m := m) (cc := cc) (φ := φ) B C.2.2.2.1 C.2.2.2.2.2.1
  refine Ct.go rfl rfl rfl ?_
  refine j_aload_n d_C_spare_0 rfl ?_
  refine j_get d_C_spare_1 fl_C_42 (by first | assumption | exact hset_s _ _ _ | (rw [hset_n _ _ (by omega)]; first | assumption | exact hset_s _ _ _ | (rw [hset_n _ _ (by omega)]; first | assumption | exact hset_s _ _ _ | (rw [hset_n _ _ (by omega)]; first | assumption | exact hset_s _ _ _ | (rw [hset_n _ _ (by omega)]; first | assumption | exact hset_s _ _ _))))) rfl ?_
  refine j_iload_n d_C_spare_4 rfl ?_
  refine j_pV (As := [.int t]) d_C_spare_5 cb_C_97 vv_Pz_hasClue hp rfl rfl rfl rfl (Nat.le_of_ble_eq_true rfl) (d' := 0) (by decide) (c_Pz_hasClue hp rfl) ?_
  refine j_if_ne (tgt := 13) d_C_spare_8 (by decide) (fun q => ?_) (fun q => ?_)
  · have x1 := bI_ne q
    refine j_aload_n d_C_spare_13 rfl ?_
    refine j_get d_C_spare_14 fl_C_58 (by first | assumption | exact hset_s _ _ _ | (rw [hset_n _ _ (by omega)]; first | assumption | exact hset_s _ _ _ | (rw [hset_n _ _ (by omega)]; first | assumption | exact hset_s _ _ _ | (rw [hset_n _ _ (by omega)]; first | assumption | exact hset_s _ _ _ | (rw [hset_n _ _ (by omega)]; first | assumption | exact hset_s _ _ _))))) rfl ?_
    refine j_find C B d_C_spare_17 cb_C_62 (Nat.le_of_ble_eq_true rfl) (by decide) (by decide) (by decide) (fun h3 n3 C3 F3 => ?_)
    have hc3 := C3.1.1
    have hA3 := C3.1.2.2.2.1
    have ha3 := hAn_0 (E := E) (h := h3) (a := a) (p := p) (od := p + 2) (K := k) (s := (fndF nn k m cc φ s ws).1) (ws := (fndF nn k m cc φ s ws).2)
    have ha5 := hAn_5 (E := E) (h := h3) (a := a) (p := p) (od := p + 2) (K := k) (s := (fndF nn k m cc φ s ws).1) (ws := (fndF nn k m cc φ s ws).2)
    rw [hA3] at ha3 ha5
    obtain ⟨i, hi, rfl⟩ := in_nI (by omega) x1
    have b3 := BB.2.1.2.2 i
    refine j_aload_n d_C_spare_20 rfl ?_
    refine j_get d_C_spare_21 fl_C_58 (by first | assumption | exact hset_s _ _ _ | (rw [hset_n _ _ (by omega)]; first | assumption | exact hset_s _ _ _ | (rw [hset_n _ _ (by omega)]; first | assumption | exact hset_s _ _ _ | (rw [hset_n _ _ (by omega)]; first | assumption | exact hset_s _ _ _ | (rw [hset_n _ _ (by omega)]; first | assumption | exact hset_s _ _ _))))) rfl ?_
    refine j_iload_n d_C_spare_24 rfl ?_
    refine j_pV (As := [.int (nI i)]) d_C_spare_25 cb_C_100 vv_An_isNeeded ha3 rfl rfl rfl rfl (Nat.le_of_ble_eq_true rfl) (d' := 0) (by decide) (c_An_isNeeded ha3 ha5 (vp_in_nI (by omega) (by omega)) (by rw [nI_clamp (by omega)]; exact b3)) ?_
    refine j_if_ne (tgt := 35) d_C_spare_28 (by decide) (fun q2 => ?_) (fun q2 => ?_)
    · refine j_iconst (v := 0) d_C_spare_35 (by decide) ?_
      exact j_zret d_C_spare_36 rfl (Or.inl rfl) ⟨F3, Or.inl ⟨x1, by rw [if_neg q2], C3⟩⟩
    · refine j_iconst (v := 1) d_C_spare_31 (by decide) ?_
      refine j_goto (tgt := 36) d_C_spare_32 (by decide) ?_
      exact j_zret d_C_spare_36 rfl (Or.inr rfl) ⟨F3, Or.inl ⟨x1, by rw [if_pos q2], C3⟩⟩
  · refine j_iconst (v := 0) d_C_spare_11 (by decide) ?_
    exact j_zret d_C_spare_12 rfl (Or.inl rfl) ⟨FrC.rf, Or.inr ⟨bI_eq q, rfl, rfl, rfl⟩⟩
/-- what finish makes of the Crossing -/
def finF (nn k m cc : Nat) (φ : Nat → PhiT) (x : XS) (w : WS) : XS × WS := if x.2.2.2.2.2.2.2 = 0 then fiL k nn m cc (ord nn).1 (vT nn) (ord nn).2.1 φ 54 1 ((x.1, x.2.1, x.2.2.1, x.2.2.2.1, x.2.2.2.2.1, x.2.2.2.2.2.1, x.2.2.2.2.2.2.1, 1), w) else (x, w)
theorem fiL_B {K N M cc cnt : Nat} {vf : Nat → Nat} {tkf : Nat → Int32} {φ : Nat → (Nat → Int32) → Int32} (hc : cnt ≤ 24) : ∀ (k : Nat) (z : Int32) (x : XS × WS), WB x.2 → x.1.2.2.2.2.2.2.1 ≤ 54 → WB (fiL K N M cc cnt vf tkf φ k z x).2 ∧ (fiL K N M cc cnt vf tkf φ k z x).1.2.2.2.2.2.2.1 ≤ 54
  | 0, _, _, h1, h2 => ⟨h1, h2⟩
  | k + 1, z, x, h1, h2 => by
    unfold fiL
    split
    · exact ⟨h1, h2⟩
    · have := tsF_B (K := K) (N := N) (M := M) (cc := cc) (vf := vf) (tkf := tkf) (φ := φ) hc h1 h2
      exact fiL_B hc k _ _ this.1 this.2
theorem c_C_cross (C : CI E h n c p a ln nn k m cc txf φ s ws xs xws rn) : Ct E m_C_cross 37 0 0 [.ref c] h n (fun v h' n' => n' = n ∧ FrC c a n n' h h' ∧ v = some (.int (nI (finF nn k m cc φ xs xws).1.2.2.2.2.2.2.1)) ∧ CI E h' n' c p a ln nn k m cc txf φ s ws (finF nn k m cc φ xs xws).1 (finF nn k m cc φ xs xws).2 rn) := by
  have C0 := C
  obtain ⟨⟨h1, h2, A, hA, hX⟩, ⟨t1, t2, t3, t4, t5, t6, t7⟩, ⟨o1, o2, o3, o4⟩, r1, r2, r3, r4, r5⟩ := C
  have hx := hCr_0 (E := E) (h := h) (a := a + 11) (p := p) (od := p + 2) (K := k) (s := xs) (ws := xws)
  rw [hX] at hx
  refine Ct.go rfl rfl rfl ?_
  refine j_aload_n d_C_cross_0 rfl ?_
  refine j_get d_C_cross_1 fl_C_103 (by first | assumption | exact hset_s _ _ _ | (rw [hset_n _ _ (by omega)]; first | assumption | exact hset_s _ _ _ | (rw [hset_n _ _ (by omega)]; first | assumption | exact hset_s _ _ _ | (rw [hset_n _ _ (by omega)]; first | assumption | exact hset_s _ _ _ | (rw [hset_n _ _ (by omega)]; first | assumption | exact hset_s _ _ _))))) rfl ?_
  have fin : ∀ h' (x' : XS) (w' : WS), x' = (finF nn k m cc φ xs xws).1 → w' = (finF nn k m cc φ xs xws).2 → h' = hCr E h (a + 11) p (p + 2) k x' w' → WB w' → x'.2.2.2.2.2.2.1 ≤ 54 → J E m_C_cross 37 0 0 7 (lv_args 0 [.ref c]) [] h' n (fun v h' n' => n' = n ∧ FrC c a n n' h h' ∧ v = some (.int (nI (finF nn k m cc φ xs xws).1.2.2.2.2.2.2.1)) ∧ CI E h' n' c p a ln nn k m cc txf φ s ws (finF nn k m cc φ xs xws).1 (finF nn k m cc φ xs xws).2 rn) := by
    rintro h' x' w' e1 e2 rfl hw hs
    rw [← e1, ← e2]
    have px : ∀ q, (q < a + 11 ∨ a + 11 + 9 < q) → hCr E h (a + 11) p (p + 2) k x' w' q = h q := fun q y => hCr_x y
    have hx' := hCr_0 (E := E) (h := h) (a := a + 11) (p := p) (od := p + 2) (K := k) (s := x') (ws := w')
    have hc' : hCr E h (a + 11) p (p + 2) k x' w' c = some (oC (c + 1) (nI ln) p a (a + 11) rn) := (px c (by omega)).trans h1
    obtain ⟨_, _, _, _, _, _, _, _, _, _, hck, _⟩ := A.pg (a := a + 11) (by omega) (by omega) t7 t5 t6 hX
    refine j_aload_n d_C_cross_7 rfl ?_
    refine j_get d_C_cross_8 fl_C_103 (by first | assumption | exact hset_s _ _ _ | (rw [hset_n _ _ (by omega)]; first | assumption | exact hset_s _ _ _ | (rw [hset_n _ _ (by omega)]; first | assumption | exact hset_s _ _ _ | (rw [hset_n _ _ (by omega)]; first | assumption | exact hset_s _ _ _ | (rw [hset_n _ _ (by omega)]; first | assumption | exact hset_s _ _ _))))) rfl ?_
    refine j_pV (As := []) d_C_cross_11 cb_C_112 vv_Cr_steps hx' rfl rfl rfl rfl (Nat.le_of_ble_eq_true rfl) (d' := 0) (by decide) (c_Cr_steps hx' rfl) ?_
    refine j_iret d_C_cross_14 rfl ⟨rfl, ⟨Nat.le_refl _, fun q _ _ _ y => px q (by omega)⟩, rfl, ⟨⟨hc', (px _ (by omega)).trans h2, A.ck (CK_hCr hck) (fun q x y => px q (by omega)), ?_, ?_⟩, ⟨t1, t2, t3, t4, t5, t6, t7⟩, ⟨o1, o2, o3, o4⟩, r1, hw, r3, hs, r5⟩⟩
    · exact hAn_self (h := h) (fun q x y => by rw [px q (by omega), hA])
    · exact hCr_self (h := h) (fun q x y => rfl)
  by_cases hf : xs.2.2.2.2.2.2.2 = 0
  · have ct := c_Cr_finish (n := n) (A.pg (a := a + 11) (by omega) (by omega) t7 t5 t6 hX) (A.od t4 (by omega)) r2 r4 hf
    rw [hX] at ct
    have e : finF nn k m cc φ xs xws = fiL k nn m cc (ord nn).1 (vT nn) (ord nn).2.1 φ 54 1 ((xs.1, xs.2.1, xs.2.2.1, xs.2.2.2.1, xs.2.2.2.2.1, xs.2.2.2.2.2.1, xs.2.2.2.2.2.2.1, 1), xws) := if_pos hf
    have hB := fiL_B (K := k) (N := nn) (M := m) (cc := cc) (vf := vT nn) (tkf := (ord nn).2.1) (φ := φ) (ord_cnt nn) 54 1 ((xs.1, xs.2.1, xs.2.2.1, xs.2.2.2.1, xs.2.2.2.2.1, xs.2.2.2.2.2.1, xs.2.2.2.2.2.2.1, 1), xws) r2 r4
    refine j_callV (As := []) d_C_cross_4 cb_C_107 vv_Cr_finish hx rfl rfl rfl rfl (Nat.le_of_ble_eq_true rfl) (d' := 36) (by decide) (Nat.zero_le _) (Nat.zero_le _) ct (fun v' h' n' q _ => ?_)
    obtain ⟨rfl, rfl, q3⟩ := q; have q3 := q3.symm; subst q3
    exact fin _ _ _ (by rw [e]) (by rw [e]) rfl hB.1 hB.2
  · have ct := c_Cr_finish2 (E := E) (h := h) (n := n) (a := a + 11) (p := p) (od := p + 2) (K := k) (ws := xws) (d := 36) hf
    rw [hX] at ct
    have e : finF nn k m cc φ xs xws = (xs, xws) := if_neg hf
    refine j_callV (As := []) d_C_cross_4 cb_C_107 vv_Cr_finish hx rfl rfl rfl rfl (Nat.le_of_ble_eq_true rfl) (d' := 36) (by decide) (Nat.zero_le _) (Nat.zero_le _) ct (fun v' h' n' q _ => ?_)
    obtain ⟨rfl, rfl, q3⟩ := q; have q3 := q3.symm; subst q3
    exact fin _ xs xws (by rw [e]) (by rw [e]) hX.symm r2 r4
end FA3

section FAC
variable {E : EV} {h : HP} {n c p a ln nn k m cc : Nat} {txf : Nat → Nat} {φ : Nat → PhiT} {s : AS} {ws : WS} {xs : XS} {xws : WS} {rn : Int32}
/-- a ClueLogic at c, its text behind it, its puzzle at p, its Answers at a, its Crossing at a + 11 -/
def CI (E : EV) (h : HP) (n c p a ln nn k m cc : Nat) (txf : Nat → Nat) (φ : Nat → PhiT) (s : AS) (ws : WS) (xs : XS) (xws : WS) (rn : Int32) : Prop :=
  (h c = some (oC (c + 1) (nI ln) p a (a + 11) rn) ∧ h (c + 1) = some (arI E 0 300 (nA txf)) ∧ PzA E h p nn k m cc φ ∧ hAn E h a p (p + 2) k s ws = h ∧ hCr E h (a + 11) p (p + 2) k xs xws = h) ∧
  ((∀ j, txf j < 256) ∧ ln ≤ 300 ∧ 1 ≤ nn ∧ nn ≤ 4 ∧ k ≤ 3 ∧ m ≤ 3 ∧ cc ≤ 20) ∧
  (c + 1 < p ∧ p + 5 ≤ a ∧ a + 21 ≤ n ∧ E.2.2.2.1 ≤ c) ∧
  WB ws ∧ WB xws ∧ s.2.2.2.2.2.2.1 ≤ 100 ∧ xs.2.2.2.2.2.2.1 ≤ 54 ∧ (rn = 0 ∨ rn = 1)
theorem tsw3 {x : Int32} (h0 : ¬ x = 0) (h1 : ¬ x = 1) (h2 : ¬ x = 2) : x.toInt < 0 ∨ 2 < x.toInt := by
  have e0 : ¬ x.toInt = 0 := fun q => h0 (Int32.toInt_inj.mp q)
  have e1 : ¬ x.toInt = 1 := fun q => h1 (Int32.toInt_inj.mp q)
  have e2 : ¬ x.toInt = 2 := fun q => h2 (Int32.toInt_inj.mp q)
  omega
theorem c_C_told {w : Int32} (C : CI E h n c p a ln nn k m cc txf φ s ws xs xws rn) : Ct E m_C_told 1 0 0 [.ref c, .int w] h n (Rt (some (.int (if w = 0 then nI nn else if w = 1 then nI k else if w = 2 then nI m else -1))) h n) := by
  obtain ⟨⟨h1, h2, A, -⟩, -⟩ := C
  have hp := A.1
  refine Ct.go rfl rfl rfl ?_
  refine j_iload_n d_C_told_0 rfl ?_
  by_cases w0 : w = 0
  · subst w0
    refine j_tableIn (tgt := 28) (off := 27) d_C_told_1 (by decide) (by decide) (by decide) (by decide) ?_
    refine j_aload_n d_C_told_28 rfl ?_
    refine j_get d_C_told_29 fl_C_42 (by first | assumption | exact hset_s _ _ _ | (rw [hset_n _ _ (by omega)]; first | assumption | exact hset_s _ _ _ | (rw [hset_n _ _ (by omega)]; first | assumption | exact hset_s _ _ _ | (rw [hset_n _ _ (by omega)]; first | assumption | exact hset_s _ _ _ | (rw [hset_n _ _ (by omega)]; first | assumption | exact hset_s _ _ _))))) rfl ?_
    refine j_pV (As := []) d_C_told_32 cb_C_45 vv_Pz_things hp rfl rfl rfl rfl (Nat.le_of_ble_eq_true rfl) (by decide) (c_Pz_things hp rfl) ?_
    exact j_iret d_C_told_35 rfl ⟨rfl, rfl, rfl⟩
  by_cases w1 : w = 1
  · subst w1
    refine j_tableIn (tgt := 36) (off := 35) d_C_told_1 (by decide) (by decide) (by decide) (by decide) ?_
    refine j_aload_n d_C_told_36 rfl ?_
    refine j_get d_C_told_37 fl_C_42 (by first | assumption | exact hset_s _ _ _ | (rw [hset_n _ _ (by omega)]; first | assumption | exact hset_s _ _ _ | (rw [hset_n _ _ (by omega)]; first | assumption | exact hset_s _ _ _ | (rw [hset_n _ _ (by omega)]; first | assumption | exact hset_s _ _ _ | (rw [hset_n _ _ (by omega)]; first | assumption | exact hset_s _ _ _))))) rfl ?_
    refine j_pV (As := []) d_C_told_40 cb_C_48 vv_Pz_kinds hp rfl rfl rfl rfl (Nat.le_of_ble_eq_true rfl) (by decide) (c_Pz_kinds hp rfl) ?_
    exact j_iret d_C_told_43 rfl ⟨rfl, rfl, rfl⟩
  by_cases w2 : w = 2
  · subst w2
    refine j_tableIn (tgt := 44) (off := 43) d_C_told_1 (by decide) (by decide) (by decide) (by decide) ?_
    refine j_aload_n d_C_told_44 rfl ?_
    refine j_get d_C_told_45 fl_C_42 (by first | assumption | exact hset_s _ _ _ | (rw [hset_n _ _ (by omega)]; first | assumption | exact hset_s _ _ _ | (rw [hset_n _ _ (by omega)]; first | assumption | exact hset_s _ _ _ | (rw [hset_n _ _ (by omega)]; first | assumption | exact hset_s _ _ _ | (rw [hset_n _ _ (by omega)]; first | assumption | exact hset_s _ _ _))))) rfl ?_
    refine j_pV (As := []) d_C_told_48 cb_C_51 vv_Pz_persons hp rfl rfl rfl rfl (Nat.le_of_ble_eq_true rfl) (by decide) (c_Pz_persons hp rfl) ?_
    exact j_iret d_C_told_51 rfl ⟨rfl, rfl, rfl⟩
  · refine j_tableOut (tgt := 52) d_C_told_1 (tsw3 w0 w1 w2) (by decide) ?_
    refine j_iconst (v := (-1)) d_C_told_52 (by decide) ?_
    exact j_iret d_C_told_53 rfl ⟨by rw [if_neg w0, if_neg w1, if_neg w2], rfl, rfl⟩
theorem bI_ne {q : Prop} [Decidable q] (hq : ¬ bI q = 0) : q := Decidable.byContradiction (fun x => hq (bI_f x))
theorem bI_eq {q : Prop} [Decidable q] (hq : bI q = 0) : ¬ q := fun x => by rw [bI_t x] at hq; exact absurd hq (by decide)
theorem in_nI {t : Int32} {b : Nat} (hb : b < 2 ^ 31) (h : 0 ≤ t ∧ t < nI b) : ∃ j, j < b ∧ t = nI j := by
  obtain ⟨j, h1, h2⟩ := nI_of2 (n := b) (nI_toInt hb) (Int32.not_lt.mpr h.1) (Int32.le_of_lt h.2)
  subst h2
  exact ⟨j, (nI_ltI (by omega) hb).mp h.2, rfl⟩
theorem c_C_mayBe {t : Int32} (C : CI E h n c p a ln nn k m cc txf φ s ws xs xws rn) : Ct E m_C_mayBe 1 0 0 [.ref c, .int t] h n (Rt (some (.int (if 0 ≤ t ∧ t < nI m then (xs.2.2.1 >>> (2 * t &&& 31)) &&& 3 else -1))) h n) := by
  obtain ⟨⟨h1, h2, A, -, hX⟩, -⟩ := C
  have hp := A.1
  have hx := hCr_0 (E := E) (h := h) (a := a + 11) (p := p) (od := p + 2) (K := k) (s := xs) (ws := xws)
  rw [hX] at hx
  refine Ct.go rfl rfl rfl ?_
  refine j_aload_n d_C_mayBe_0 rfl ?_
  refine j_get d_C_mayBe_1 fl_C_42 (by first | assumption | exact hset_s _ _ _ | (rw [hset_n _ _ (by omega)]; first | assumption | exact hset_s _ _ _ | (rw [hset_n _ _ (by omega)]; first | assumption | exact hset_s _ _ _ | (rw [hset_n _ _ (by omega)]; first | assumption | exact hset_s _ _ _ | (rw [hset_n _ _ (by omega)]; first | assumption | exact hset_s _ _ _))))) rfl ?_
  refine j_iload_n d_C_mayBe_4 rfl ?_
  refine j_pV (As := [.int t]) d_C_mayBe_5 cb_C_84 vv_Pz_hasPerson hp rfl rfl rfl rfl (Nat.le_of_ble_eq_true rfl) (by decide) (c_Pz_hasPerson hp rfl) ?_
  refine j_if_ne (tgt := 13) d_C_mayBe_8 (by decide) (fun q => ?_) (fun q => ?_)
  · rw [if_pos (bI_ne q)]
    refine j_aload_n d_C_mayBe_13 rfl ?_
    refine j_get d_C_mayBe_14 fl_C_103 (by first | assumption | exact hset_s _ _ _ | (rw [hset_n _ _ (by omega)]; first | assumption | exact hset_s _ _ _ | (rw [hset_n _ _ (by omega)]; first | assumption | exact hset_s _ _ _ | (rw [hset_n _ _ (by omega)]; first | assumption | exact hset_s _ _ _ | (rw [hset_n _ _ (by omega)]; first | assumption | exact hset_s _ _ _))))) rfl ?_
    refine j_iload_n d_C_mayBe_17 rfl ?_
    refine j_pV (As := [.int t]) d_C_mayBe_18 cb_C_126 vv_Cr_waysLeft hx rfl rfl rfl rfl (Nat.le_of_ble_eq_true rfl) (by decide) (c_Cr_waysLeft hx) ?_
    exact j_iret d_C_mayBe_21 rfl ⟨rfl, rfl, rfl⟩
  · rw [if_neg (bI_eq q)]
    refine j_iconst (v := (-1)) d_C_mayBe_11 (by decide) ?_
    exact j_iret d_C_mayBe_12 rfl ⟨rfl, rfl, rfl⟩
theorem c_C_may {t kd : Int32} (C : CI E h n c p a ln nn k m cc txf φ s ws xs xws rn) : Ct E m_C_may 1 0 0 [.ref c, .int t, .int kd] h n (Rt (some (.int (if (0 ≤ t ∧ t < nI nn) ∧ (0 ≤ kd ∧ kd < nI k) then (xs.1 kd.toNatClampNeg >>> (4 * t &&& 31)) &&& 15 else -1))) h n) := by
  obtain ⟨⟨h1, h2, A, -, hX⟩, ⟨-, -, -, -, hk3, -⟩, -⟩ := C
  have hp := A.1
  have hx := hCr_0 (E := E) (h := h) (a := a + 11) (p := p) (od := p + 2) (K := k) (s := xs) (ws := xws)
  have hx1 := hCr_1 (E := E) (h := h) (a := a + 11) (p := p) (od := p + 2) (K := k) (s := xs) (ws := xws)
  rw [hX] at hx hx1
  refine Ct.go rfl rfl rfl ?_
  refine j_aload_n d_C_may_0 rfl ?_
  refine j_get d_C_may_1 fl_C_42 (by first | assumption | exact hset_s _ _ _ | (rw [hset_n _ _ (by omega)]; first | assumption | exact hset_s _ _ _ | (rw [hset_n _ _ (by omega)]; first | assumption | exact hset_s _ _ _ | (rw [hset_n _ _ (by omega)]; first | assumption | exact hset_s _ _ _ | (rw [hset_n _ _ (by omega)]; first | assumption | exact hset_s _ _ _))))) rfl ?_
  refine j_iload_n d_C_may_4 rfl ?_
  refine j_pV (As := [.int t]) d_C_may_5 cb_C_74 vv_Pz_hasThing hp rfl rfl rfl rfl (Nat.le_of_ble_eq_true rfl) (by decide) (c_Pz_hasThing hp rfl) ?_
  refine j_if_eq (tgt := 22) d_C_may_8 (by decide) (fun q => ?_) (fun q => ?_)
  · rw [if_neg (fun x => bI_eq q x.1)]
    refine j_iconst (v := (-1)) d_C_may_22 (by decide) ?_
    exact j_iret d_C_may_23 rfl ⟨rfl, rfl, rfl⟩
  · refine j_aload_n d_C_may_11 rfl ?_
    refine j_get d_C_may_12 fl_C_42 (by first | assumption | exact hset_s _ _ _ | (rw [hset_n _ _ (by omega)]; first | assumption | exact hset_s _ _ _ | (rw [hset_n _ _ (by omega)]; first | assumption | exact hset_s _ _ _ | (rw [hset_n _ _ (by omega)]; first | assumption | exact hset_s _ _ _ | (rw [hset_n _ _ (by omega)]; first | assumption | exact hset_s _ _ _))))) rfl ?_
    refine j_iload_n d_C_may_15 rfl ?_
    refine j_pV (As := [.int kd]) d_C_may_16 cb_C_77 vv_Pz_hasKind hp rfl rfl rfl rfl (Nat.le_of_ble_eq_true rfl) (by decide) (c_Pz_hasKind hp rfl) ?_
    refine j_if_ne (tgt := 24) d_C_may_19 (by decide) (fun q2 => ?_) (fun q2 => ?_)
    · rw [if_pos ⟨bI_ne q, bI_ne q2⟩]
      obtain ⟨j, hj, rfl⟩ := in_nI (by omega) (bI_ne q2)
      refine j_aload_n d_C_may_24 rfl ?_
      refine j_get d_C_may_25 fl_C_103 (by first | assumption | exact hset_s _ _ _ | (rw [hset_n _ _ (by omega)]; first | assumption | exact hset_s _ _ _ | (rw [hset_n _ _ (by omega)]; first | assumption | exact hset_s _ _ _ | (rw [hset_n _ _ (by omega)]; first | assumption | exact hset_s _ _ _ | (rw [hset_n _ _ (by omega)]; first | assumption | exact hset_s _ _ _))))) rfl ?_
      refine j_iload_n d_C_may_28 rfl ?_
      refine j_iload_n d_C_may_29 rfl ?_
      refine j_pV (As := [.int t, .int (nI j)]) d_C_may_30 cb_C_122 vv_Cr_valuesLeft hx rfl rfl rfl rfl (Nat.le_of_ble_eq_true rfl) (by decide) (c_Cr_valuesLeft hx hx1 (vp_in_nI (by omega) (by omega))) ?_
      exact j_iret d_C_may_33 rfl ⟨rfl, rfl, rfl⟩
    · rw [if_neg (fun x => bI_eq q2 x.2)]
      refine j_iconst (v := (-1)) d_C_may_22 (by decide) ?_
      exact j_iret d_C_may_23 rfl ⟨rfl, rfl, rfl⟩
theorem c_C_step {t w : Int32} (C : CI E h n c p a ln nn k m cc txf φ s ws xs xws rn) : Ct E m_C_step 1 0 0 [.ref c, .int t, .int w] h n (Rt (some (.int (if 0 ≤ t ∧ t < nI xs.2.2.2.2.2.2.1 then (if w = 0 then xs.2.2.2.2.1 t.toNatClampNeg else if w = 1 then xs.2.2.2.2.2.1 t.toNatClampNeg else -1) else -1))) h n) := by
  obtain ⟨⟨h1, h2, A, -, hX⟩, -, -, -, -, -, h54, -⟩ := C
  have hx := hCr_0 (E := E) (h := h) (a := a + 11) (p := p) (od := p + 2) (K := k) (s := xs) (ws := xws)
  have hx3 := hCr_3 (E := E) (h := h) (a := a + 11) (p := p) (od := p + 2) (K := k) (s := xs) (ws := xws)
  have hx4 := hCr_4 (E := E) (h := h) (a := a + 11) (p := p) (od := p + 2) (K := k) (s := xs) (ws := xws)
  rw [hX] at hx hx3 hx4
  refine Ct.go rfl rfl rfl ?_
  refine j_iload_n d_C_step_0 rfl ?_
  refine j_if_lt (tgt := 15) d_C_step_1 (by decide) (fun q => ?_) (fun q => ?_)
  · rw [if_neg (fun x => absurd x.1 (Int32.not_le.mpr q))]
    refine j_iconst (v := (-1)) d_C_step_15 (by decide) ?_
    exact j_iret d_C_step_16 rfl ⟨rfl, rfl, rfl⟩
  · refine j_iload_n d_C_step_4 rfl ?_
    refine j_aload_n d_C_step_5 rfl ?_
    refine j_get d_C_step_6 fl_C_103 (by first | assumption | exact hset_s _ _ _ | (rw [hset_n _ _ (by omega)]; first | assumption | exact hset_s _ _ _ | (rw [hset_n _ _ (by omega)]; first | assumption | exact hset_s _ _ _ | (rw [hset_n _ _ (by omega)]; first | assumption | exact hset_s _ _ _ | (rw [hset_n _ _ (by omega)]; first | assumption | exact hset_s _ _ _))))) rfl ?_
    refine j_pV (As := []) d_C_step_9 cb_C_112 vv_Cr_steps hx rfl rfl rfl rfl (Nat.le_of_ble_eq_true rfl) (by decide) (c_Cr_steps hx rfl) ?_
    refine j_icmp_lt (tgt := 17) d_C_step_12 (by decide) (fun q2 => ?_) (fun q2 => ?_)
    · obtain ⟨j, hj, rfl⟩ := in_nI (by omega) ⟨Int32.not_lt.mp q, q2⟩
      rw [if_pos ⟨Int32.not_lt.mp q, q2⟩]
      have hin : vp_in (nI j) 54 := vp_in_nI (by omega) (by omega)
      refine j_iload_n d_C_step_17 rfl ?_
      by_cases w0 : w = 0
      · subst w0
        refine j_lookup (tgt := 44) d_C_step_18 (by decide) (off := 26) (by decide) (by decide) ?_
        refine j_aload_n d_C_step_44 rfl ?_
        refine j_get d_C_step_45 fl_C_103 (by first | assumption | exact hset_s _ _ _ | (rw [hset_n _ _ (by omega)]; first | assumption | exact hset_s _ _ _ | (rw [hset_n _ _ (by omega)]; first | assumption | exact hset_s _ _ _ | (rw [hset_n _ _ (by omega)]; first | assumption | exact hset_s _ _ _ | (rw [hset_n _ _ (by omega)]; first | assumption | exact hset_s _ _ _))))) rfl ?_
        refine j_iload_n d_C_step_48 rfl ?_
        refine j_pV (As := [.int _]) d_C_step_49 cb_C_115 vv_Cr_clueOf hx rfl rfl rfl rfl (Nat.le_of_ble_eq_true rfl) (by decide) (c_Cr_clueOf hx hx3 hin) ?_
        exact j_iret d_C_step_52 rfl ⟨rfl, rfl, rfl⟩
      by_cases w1 : w = 1
      · subst w1
        refine j_lookup (tgt := 53) d_C_step_18 (by decide) (off := 35) (by decide) (by decide) ?_
        refine j_aload_n d_C_step_53 rfl ?_
        refine j_get d_C_step_54 fl_C_103 (by first | assumption | exact hset_s _ _ _ | (rw [hset_n _ _ (by omega)]; first | assumption | exact hset_s _ _ _ | (rw [hset_n _ _ (by omega)]; first | assumption | exact hset_s _ _ _ | (rw [hset_n _ _ (by omega)]; first | assumption | exact hset_s _ _ _ | (rw [hset_n _ _ (by omega)]; first | assumption | exact hset_s _ _ _))))) rfl ?_
        refine j_iload_n d_C_step_57 rfl ?_
        refine j_pV (As := [.int _]) d_C_step_58 cb_C_119 vv_Cr_crossedBy hx rfl rfl rfl rfl (Nat.le_of_ble_eq_true rfl) (by decide) (c_Cr_crossedBy hx hx4 hin) ?_
        exact j_iret d_C_step_61 rfl ⟨rfl, rfl, rfl⟩
      · rw [if_neg w0, if_neg w1]
        refine j_lookup (tgt := 62) d_C_step_18 (by decide) (off := 44) ?_ (by decide) ?_
        · show Op.lookupswitch.offset [(0, 26), (1, 35)] 44 w.toInt = 44
          rw [lv_osw w0 (by decide), lv_osw w1 (by decide)]
          rfl
        refine j_iconst (v := (-1)) d_C_step_62 (by decide) ?_
        exact j_iret d_C_step_63 rfl ⟨rfl, rfl, rfl⟩
    · rw [if_neg (fun x => q2 x.2)]
      refine j_iconst (v := (-1)) d_C_step_15 (by decide) ?_
      exact j_iret d_C_step_16 rfl ⟨rfl, rfl, rfl⟩
theorem c_C_isKept {t : Int32} (C : CI E h n c p a ln nn k m cc txf φ s ws xs xws rn) : Ct E m_C_isKept 1 0 0 [.ref c, .int t] h n (Rt (some (.int (bI (¬ rn = 0 ∧ 0 ≤ t ∧ t < nI s.2.2.2.2.2.2.1)))) h n) := by
  obtain ⟨⟨h1, h2, A, hA, -⟩, -⟩ := C
  have ha := hAn_0 (E := E) (h := h) (a := a) (p := p) (od := p + 2) (K := k) (s := s) (ws := ws)
  rw [hA] at ha
  refine Ct.go rfl rfl rfl ?_
  have no : ¬ (¬ rn = 0 ∧ 0 ≤ t ∧ t < nI s.2.2.2.2.2.2.1) → J E m_C_isKept 1 0 0 26 (lv_args 0 [.ref c, .int t]) [] h n (Rt (some (.int (bI (¬ rn = 0 ∧ 0 ≤ t ∧ t < nI s.2.2.2.2.2.2.1)))) h n) := by
    intro q
    rw [bI_f q]
    refine j_iconst (v := 0) d_C_isKept_26 (by decide) ?_
    exact j_zret d_C_isKept_27 rfl (Or.inl rfl) ⟨rfl, rfl, rfl⟩
  refine j_aload_n d_C_isKept_0 rfl ?_
  refine j_get d_C_isKept_1 fl_C_54 (by first | assumption | exact hset_s _ _ _ | (rw [hset_n _ _ (by omega)]; first | assumption | exact hset_s _ _ _ | (rw [hset_n _ _ (by omega)]; first | assumption | exact hset_s _ _ _ | (rw [hset_n _ _ (by omega)]; first | assumption | exact hset_s _ _ _ | (rw [hset_n _ _ (by omega)]; first | assumption | exact hset_s _ _ _))))) rfl ?_
  refine j_if_eq (tgt := 26) d_C_isKept_4 (by decide) (fun q => no (fun x => x.1 q)) (fun q => ?_)
  refine j_iload_n d_C_isKept_7 rfl ?_
  refine j_if_lt (tgt := 26) d_C_isKept_8 (by decide) (fun q2 => no (fun x => absurd x.2.1 (Int32.not_le.mpr q2))) (fun q2 => ?_)
  refine j_iload_n d_C_isKept_11 rfl ?_
  refine j_aload_n d_C_isKept_12 rfl ?_
  refine j_get d_C_isKept_13 fl_C_58 (by first | assumption | exact hset_s _ _ _ | (rw [hset_n _ _ (by omega)]; first | assumption | exact hset_s _ _ _ | (rw [hset_n _ _ (by omega)]; first | assumption | exact hset_s _ _ _ | (rw [hset_n _ _ (by omega)]; first | assumption | exact hset_s _ _ _ | (rw [hset_n _ _ (by omega)]; first | assumption | exact hset_s _ _ _))))) rfl ?_
  refine j_pV (As := []) d_C_isKept_16 cb_C_132 vv_An_kept ha rfl rfl rfl rfl (Nat.le_of_ble_eq_true rfl) (by decide) (c_An_kept ha rfl) ?_
  refine j_icmp_ge (tgt := 26) d_C_isKept_19 (by decide) (fun q3 => no (fun x => absurd x.2.2 (Int32.not_lt.mpr q3))) (fun q3 => ?_)
  rw [bI_t ⟨q, Int32.not_lt.mp q2, Int32.not_le.mp q3⟩]
  refine j_iconst (v := 1) d_C_isKept_22 (by decide) ?_
  refine j_goto (tgt := 27) d_C_isKept_23 (by decide) ?_
  exact j_zret d_C_isKept_27 rfl (Or.inr rfl) ⟨rfl, rfl, rfl⟩
end FAC

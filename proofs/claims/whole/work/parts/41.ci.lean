section CIS
variable {E : EV} {h h' : HP} {n n' c p a ln nn k m cc : Nat} {txf : Nat → Nat} {φ : Nat → PhiT} {s : AS} {ws : WS} {xs : XS} {xws : WS} {rn : Int32}
theorem hAn_reg {od K q : Nat} (h1 : a ≤ q) (h2 : q ≤ a + 10) : hAn E h a p od K s ws q = hAn E h' a p od K s ws q := by
  have e : q = a ∨ q = a + 1 ∨ q = a + 2 ∨ q = a + 3 ∨ q = a + 4 ∨ q = a + 5 ∨ q = a + 6 ∨ q = a + 6 + 1 ∨ q = a + 6 + 2 ∨ q = a + 6 + 3 ∨ q = a + 6 + 4 := by omega
  rcases e with rfl | rfl | rfl | rfl | rfl | rfl | rfl | rfl | rfl | rfl | rfl
  · rw [hAn_0, hAn_0]
  · rw [hAn_1, hAn_1]
  · rw [hAn_2, hAn_2]
  · rw [hAn_3, hAn_3]
  · rw [hAn_4, hAn_4]
  · rw [hAn_5, hAn_5]
  · rw [hAn_6, hAn_6]
  · unfold hAn; rw [hW_1, hW_1]
  · unfold hAn; rw [hW_2, hW_2]
  · unfold hAn; rw [hW_3, hW_3]
  · unfold hAn; rw [hW_4, hW_4]
theorem hCr_reg {x od K q : Nat} (h1 : x ≤ q) (h2 : q ≤ x + 9) : hCr E h x p od K xs ws q = hCr E h' x p od K xs ws q := by
  have e : q = x ∨ q = x + 1 ∨ q = x + 2 ∨ q = x + 3 ∨ q = x + 4 ∨ q = x + 5 ∨ q = x + 5 + 1 ∨ q = x + 5 + 2 ∨ q = x + 5 + 3 ∨ q = x + 5 + 4 := by omega
  rcases e with rfl | rfl | rfl | rfl | rfl | rfl | rfl | rfl | rfl | rfl
  · rw [hCr_0, hCr_0]
  · rw [hCr_1, hCr_1]
  · rw [hCr_2, hCr_2]
  · rw [hCr_3, hCr_3]
  · rw [hCr_4, hCr_4]
  · rw [hCr_5, hCr_5]
  · unfold hCr; rw [hW_1, hW_1]
  · unfold hCr; rw [hW_2, hW_2]
  · unfold hCr; rw [hW_3, hW_3]
  · unfold hCr; rw [hW_4, hW_4]
/-- a heap that has these cells is itself with them set -/
theorem hAn_self {od K : Nat} (hq : ∀ q, a ≤ q → q ≤ a + 10 → h' q = hAn E h a p od K s ws q) : hAn E h' a p od K s ws = h' := by
  funext q
  by_cases hr : a ≤ q ∧ q ≤ a + 10
  · rw [hq q hr.1 hr.2]; exact hAn_reg hr.1 hr.2
  · exact hAn_x (by omega)
theorem hCr_self {x od K : Nat} (hq : ∀ q, x ≤ q → q ≤ x + 9 → h' q = hCr E h x p od K xs ws q) : hCr E h' x p od K xs ws = h' := by
  funext q
  by_cases hr : x ≤ q ∧ q ≤ x + 9
  · rw [hq q hr.1 hr.2]; exact hCr_reg hr.1 hr.2
  · exact hCr_x (by omega)
/-- which cells of an object's may change: its own two, its Answers, its Crossing; and new ones come -/
def FrC (c a n n' : Nat) (h h' : HP) : Prop := n ≤ n' ∧ ∀ q, q < n → q ≠ c → q ≠ c + 1 → (q < a ∨ a + 21 ≤ q) → h' q = h q
theorem FrC.rf : FrC c a n n h h := ⟨Nat.le_refl _, fun _ _ _ _ _ => rfl⟩
theorem c_C_unit {u : Int32} (C : CI E h n c p a ln nn k m cc txf φ s ws xs xws rn) : Ct E m_C_unit 0 0 0 [.ref c, .int u] h n (fun v h' n' => n' = n ∧ FrC c a n n' h h' ∧ ((∃ b, b < 256 ∧ u = nI b ∧ ln < 300 ∧ v = some (.int 1) ∧ CI E h' n c p a (ln + 1) nn k m cc (upN txf ln b) φ s ws xs xws rn) ∨ ((u < 0 ∨ 255 < u ∨ 300 ≤ ln) ∧ v = some (.int 0) ∧ h' = h))) := by
  have C0 := C
  obtain ⟨⟨h1, h2, A, hA, hX⟩, ⟨t1, t2, t3, t4, t5, t6, t7⟩, ⟨o1, o2, o3, o4⟩, r⟩ := C
  refine Ct.go rfl rfl rfl ?_
  have no : (u < 0 ∨ 255 < u ∨ 300 ≤ ln) → J E m_C_unit 0 0 0 21 (lv_args 0 [.ref c, .int u]) [] h n (fun v h' n' => n' = n ∧ FrC c a n n' h h' ∧ ((∃ b, b < 256 ∧ u = nI b ∧ ln < 300 ∧ v = some (.int 1) ∧ CI E h' n c p a (ln + 1) nn k m cc (upN txf ln b) φ s ws xs xws rn) ∨ ((u < 0 ∨ 255 < u ∨ 300 ≤ ln) ∧ v = some (.int 0) ∧ h' = h))) := by
    intro q
    refine j_iconst (v := 0) d_C_unit_21 (by decide) ?_
    exact j_zret d_C_unit_22 rfl (Or.inl rfl) ⟨rfl, FrC.rf, Or.inr ⟨q, rfl, rfl⟩⟩
  refine j_iload_n d_C_unit_0 rfl ?_
  refine j_if_lt (tgt := 21) d_C_unit_1 (by decide) (fun q => no (Or.inl q)) (fun q => ?_)
  refine j_iload_n d_C_unit_4 rfl ?_
  refine j_sipush (v := 255) d_C_unit_5 (by decide) ?_
  refine j_icmp_gt (tgt := 21) d_C_unit_8 (by decide) (fun q2 => no (Or.inr (Or.inl q2))) (fun q2 => ?_)
  refine j_aload_n d_C_unit_11 rfl ?_
  refine j_get d_C_unit_12 fl_C_22 (by first | assumption | exact hset_s _ _ _ | (rw [hset_n _ _ (by omega)]; first | assumption | exact hset_s _ _ _ | (rw [hset_n _ _ (by omega)]; first | assumption | exact hset_s _ _ _ | (rw [hset_n _ _ (by omega)]; first | assumption | exact hset_s _ _ _ | (rw [hset_n _ _ (by omega)]; first | assumption | exact hset_s _ _ _))))) rfl ?_
  refine j_sipush (v := 300) d_C_unit_15 (by decide) ?_
  refine j_icmp_lt (tgt := 23) d_C_unit_18 (by decide) (fun q3 => ?_) (fun q3 => no (Or.inr (Or.inr (Nat.not_lt.mp (fun x => q3 ((nI_ltI (a := ln) (b := 300) (by omega) (by omega)).mpr x))))))
  have hln : ln < 300 := (nI_ltI (a := ln) (b := 300) (by omega) (by omega)).mp q3
  obtain ⟨b, hb, rfl⟩ := nI_of2 (n := 255) (M := 255) (by decide) q (Int32.not_lt.mp q2)
  refine j_aload_n d_C_unit_23 rfl ?_
  refine j_get d_C_unit_24 fl_C_9 (by first | assumption | exact hset_s _ _ _ | (rw [hset_n _ _ (by omega)]; first | assumption | exact hset_s _ _ _ | (rw [hset_n _ _ (by omega)]; first | assumption | exact hset_s _ _ _ | (rw [hset_n _ _ (by omega)]; first | assumption | exact hset_s _ _ _ | (rw [hset_n _ _ (by omega)]; first | assumption | exact hset_s _ _ _))))) rfl ?_
  refine j_aload_n d_C_unit_27 rfl ?_
  refine j_get d_C_unit_28 fl_C_22 (by first | assumption | exact hset_s _ _ _ | (rw [hset_n _ _ (by omega)]; first | assumption | exact hset_s _ _ _ | (rw [hset_n _ _ (by omega)]; first | assumption | exact hset_s _ _ _ | (rw [hset_n _ _ (by omega)]; first | assumption | exact hset_s _ _ _ | (rw [hset_n _ _ (by omega)]; first | assumption | exact hset_s _ _ _))))) rfl ?_
  refine j_iload_n d_C_unit_31 rfl ?_
  refine j_iast (t := 0) d_C_unit_32 rfl h2 (by omega) (vp_in_nI hln (by omega)) ?_
  rw [nI_clamp (by omega), upd_nA]
  have h1' : hset h (c + 1) (arI E 0 300 (nA (upN txf ln b))) c = some (oC (c + 1) (nI ln) p a (a + 11) rn) := by rw [hset_n _ _ (by omega)]; exact h1
  refine j_aload_n d_C_unit_33 rfl ?_
  refine j_dup d_C_unit_34 rfl ?_
  refine j_get d_C_unit_35 fl_C_22 (by first | assumption | exact hset_s _ _ _ | (rw [hset_n _ _ (by omega)]; first | assumption | exact hset_s _ _ _ | (rw [hset_n _ _ (by omega)]; first | assumption | exact hset_s _ _ _ | (rw [hset_n _ _ (by omega)]; first | assumption | exact hset_s _ _ _ | (rw [hset_n _ _ (by omega)]; first | assumption | exact hset_s _ _ _))))) rfl ?_
  refine j_iconst (v := 1) d_C_unit_38 (by decide) ?_
  refine j_iadd d_C_unit_39 ?_
  refine j_put d_C_unit_40 fl_C_22 fp_C (Or.inl rfl) h1' o4 rfl rfl (Nat.le_of_ble_eq_true rfl) ?_
  refine j_iconst (v := 1) d_C_unit_43 (by decide) ?_
  have px : ∀ q, q ≠ c → q ≠ c + 1 → ∀ e e', hset (hset h (c + 1) e) c e' q = h q := fun q x y e e' => by rw [hset_n _ _ x, hset_n _ _ y]
  refine j_zret d_C_unit_44 rfl (Or.inr rfl) ⟨rfl, ⟨Nat.le_refl _, fun q _ x y _ => px q x y _ _⟩, Or.inl ⟨b, by omega, rfl, hln, rfl, ?_⟩⟩
  refine ⟨⟨?_, ?_, ?_, ?_, ?_⟩, ⟨fun j => ?_, by omega, t3, t4, t5, t6, t7⟩, ⟨o1, o2, o3, o4⟩, r⟩
  · rw [hset_s]
    show some (oC (c + 1) (nI ln + 1) p a (a + 11) rn) = _
    rw [nI_1]
  · rw [hset_n _ _ (by omega), hset_s]
  · refine A.ck ?_ (fun q x y => px q (by omega) (by omega) _ _)
    refine CK.trans (CK.set (fun ci fs _ => by rw [h2]; exact fun z => by cases z)) (CK.set (fun ci fs hcl => by
      rw [h1']
      intro z
      cases z
      simp [clN] at hcl))
  · refine hAn_self (h := h) (fun q x y => ?_)
    rw [px q (by omega) (by omega), hA]
  · refine hCr_self (h := h) (fun q x y => ?_)
    rw [px q (by omega) (by omega), hX]
  · unfold upN
    split
    · omega
    · exact t1 j
end CIS

section FA2
variable {E : EV} {h : HP} {n c p a ln nn k m cc : Nat} {txf : Nat → Nat} {φ : Nat → PhiT} {s : AS} {ws : WS} {xs : XS} {xws : WS} {rn : Int32}
/-- what Answers keeps is small -/
def AB (s : AS) : Prop := (∀ j, s.1 j < 24) ∧ (∀ j, s.2.1 j < 8) ∧ ∀ j, s.2.2.2.2.1 j = 0 ∨ s.2.2.2.2.1 j = 1
theorem keep_f {K kp : Nat} (hw : WB ws) : ∀ (l : List Nat) (f : Nat → Nat), (∀ j, f j < 24) → ∀ j, l.foldl (fun f kd => upN f (3 * kp + kd) (wOrd ws kd)) f j < 24
  | [], _, h => h
  | _ :: l, f, h => keep_f (K := K) hw l _ (upN_lt h (hw.1 _))
theorem keepF_AB {K pt : Nat} (hw : WB ws) (hp : pt < 8) (h : AB s) : AB (keepF K ws s pt) := ⟨keep_f (K := K) hw _ _ h.1, upN_lt h.2.1 hp, h.2.2⟩
theorem kps_AB {K : Nat} {pts : Int32} (hw : WB ws) : ∀ (l : List Nat) (s : AS), (∀ v ∈ l, v < 8) → AB s → AB (l.foldl (kpS K ws pts) s)
  | [], _, _, h => h
  | v :: l, s, hl, h => by
    rw [List.foldl_cons]
    refine kps_AB hw l _ (fun x hx => hl x (List.mem_cons_of_mem _ hx)) ?_
    unfold kpS
    split
    · exact keepF_AB hw (hl v List.mem_cons_self) h
    · exact h
theorem anAdd_AB {K : Nat} {pts : Int32} (hw : WB ws) (h : AB s) : AB (anAdd K ws s pts) := by
  unfold anAdd
  exact kps_AB hw _ _ (by decide) ⟨h.1, h.2.1, h.2.2⟩
theorem need_f {ho : Nat → Int32} {pts : Int32} : ∀ (l : List Nat) (f : Nat → Int32), (∀ j, f j = 0 ∨ f j = 1) → ∀ j, l.foldl (fun f c => if pts &&& (ho c ^^^ (-1)) = 0 then f else upd f c 1) f j = 0 ∨ l.foldl (fun f c => if pts &&& (ho c ^^^ (-1)) = 0 then f else upd f c 1) f j = 1
  | [], _, h => h
  | v :: l, f, h => by
    rw [List.foldl_cons]
    refine need_f l _ ?_
    split
    · exact h
    · intro j
      unfold upd
      split
      · exact Or.inr rfl
      · exact h j
theorem anNeed_AB {cc : Nat} {pts : Int32} (h : AB s) : AB (anNeed cc s pts) := ⟨h.1, h.2.1, need_f _ _ h.2.2⟩
theorem anWeigh_AB {cc K : Nat} {pM : Int32} {φ : Nat → (Nat → Int32) → Int32} (hw : WB ws) (h : AB s) : AB (anWeigh cc K pM φ ws s) := by
  unfold anWeigh anEnd
  generalize (List.range' 0 cc).foldl (wlS φ (nA ws.2.2.2)) (s.2.2.2.1, pM, 0) = x
  have h1 : AB (s.1, s.2.1, s.2.2.1, x.1, s.2.2.2.2) := ⟨h.1, h.2.1, h.2.2⟩
  by_cases q1 : x.2.2 = 0 <;> by_cases q2 : x.2.1 = 0
  · rw [if_pos q1, if_pos q2]; exact h1
  · rw [if_pos q1, if_neg q2]; exact anAdd_AB hw h1
  · rw [if_neg q1, if_pos q2]; exact anNeed_AB h1
  · rw [if_neg q1, if_neg q2]; exact anNeed_AB (anAdd_AB hw h1)
theorem anLoop_B {cc K N : Nat} {vf : Nat → Nat} {pM : Int32} {φ : Nat → (Nat → Int32) → Int32} : ∀ (k : Nat) (x : AS × WS), WB x.2 → AB x.1 → x.1.2.2.2.2.2.2.1 ≤ 100 → WB (anLoop cc K N vf pM φ k x).2 ∧ AB (anLoop cc K N vf pM φ k x).1 ∧ (anLoop cc K N vf pM φ k x).1.2.2.2.2.2.2.1 ≤ 100
  | 0, _, h1, h2, h3 => ⟨h1, h2, h3⟩
  | k + 1, x, h1, h2, h3 => anLoop_B k (anWeigh cc K pM φ x.2 x.1, nxF vf N K x.2) (nxF_WB K _ h1) (anWeigh_AB h1 h2) (anWeigh_le h3)
theorem anFind_B {cc K N cnt : Nat} {tkf : Nat → Int32} {al : Int32} {vf : Nat → Nat} {pM : Int32} {φ : Nat → (Nat → Int32) → Int32} (hc : cnt ≤ 24) (h1 : WB ws) (h2 : AB s) (h3 : s.2.2.2.2.2.2.1 ≤ 100) : WB (anFind cc K N cnt tkf al vf pM φ s ws).2 ∧ AB (anFind cc K N cnt tkf al vf pM φ s ws).1 ∧ (anFind cc K N cnt tkf al vf pM φ s ws).1.2.2.2.2.2.2.1 ≤ 100 := by
  have hchB := chF_B (tkf := tkf) (my := fillF (fun _ => 0) 3 al) hc K 0 (ws.1, ws.2.1, 1) h1.1 h1.2.1
  exact anLoop_B _ ((s.1, s.2.1, s.2.2.1, s.2.2.2.1, s.2.2.2.2.1, s.2.2.2.2.2.1, s.2.2.2.2.2.2.1, 1), stF vf N K ((chF tkf cnt K (fillF (fun _ => 0) 3 al) ws.1 ws.2.1).1, (chF tkf cnt K (fillF (fun _ => 0) 3 al) ws.1 ws.2.1).2.1, ws.2.2)) (stF_WB _ _ ⟨hchB.1, hchB.2.1, h1.2.2⟩) ⟨h2.1, h2.2.1, h2.2.2⟩ h3
theorem c_C_answer {t th kd : Int32} (C : CI E h n c p a ln nn k m cc txf φ s ws xs xws rn) (B : AB s) : Ct E m_C_answer 2 0 0 [.ref c, .int t, .int th, .int kd] h n (Rt (some (.int (if (¬ rn = 0 ∧ 0 ≤ t ∧ t < nI s.2.2.2.2.2.2.1) ∧ (0 ≤ th ∧ th < nI nn) ∧ (0 ≤ kd ∧ kd < nI k) then nI (vT nn (4 * s.1 (3 * t.toNatClampNeg + kd.toNatClampNeg) + th.toNatClampNeg)) else -1))) h n) := by
  have C0 := C
  obtain ⟨⟨h1, h2, A, hA, -⟩, ⟨-, -, -, hnn, hk3, -⟩, -, -, -, h100, -⟩ := C
  have ha := hAn_0 (E := E) (h := h) (a := a) (p := p) (od := p + 2) (K := k) (s := s) (ws := ws)
  have ha1 := hAn_1 (E := E) (h := h) (a := a) (p := p) (od := p + 2) (K := k) (s := s) (ws := ws)
  rw [hA] at ha ha1
  have hp := A.1
  have ho := A.2.1
  have hv : h (p + 2 + 2) = some (arI E 0 96 (nA (vT nn))) := by rw [← ord_vT hnn]; exact A.2.2.2.1
  refine Ct.go rfl rfl rfl ?_
  have no : ∀ cl sl, ¬ ((¬ rn = 0 ∧ 0 ≤ t ∧ t < nI s.2.2.2.2.2.2.1) ∧ (0 ≤ th ∧ th < nI nn) ∧ (0 ≤ kd ∧ kd < nI k)) → J E m_C_answer 2 cl sl 30 (lv_args 0 [.ref c, .int t, .int th, .int kd]) [] h n (Rt (some (.int (if (¬ rn = 0 ∧ 0 ≤ t ∧ t < nI s.2.2.2.2.2.2.1) ∧ (0 ≤ th ∧ th < nI nn) ∧ (0 ≤ kd ∧ kd < nI k) then nI (vT nn (4 * s.1 (3 * t.toNatClampNeg + kd.toNatClampNeg) + th.toNatClampNeg)) else -1))) h n) := by
    intro cl sl q
    rw [if_neg q]
    refine j_iconst (v := (-1)) d_C_answer_30 (by decide) ?_
    exact j_iret d_C_answer_31 rfl ⟨rfl, rfl, rfl⟩
  refine j_aload_n d_C_answer_0 rfl ?_
  refine j_iload_n d_C_answer_1 rfl ?_
  refine j_pV (As := [.int t]) d_C_answer_2 cb_C_70 vv_C_isKept h1 rfl rfl rfl rfl (Nat.le_of_ble_eq_true rfl) (by decide) (c_C_isKept C0) ?_
  refine j_if_eq (tgt := 30) d_C_answer_5 (by decide) (fun q => no _ _ (fun x => bI_eq q x.1)) (fun q => ?_)
  refine j_aload_n d_C_answer_8 rfl ?_
  refine j_get d_C_answer_9 fl_C_42 (by first | assumption | exact hset_s _ _ _ | (rw [hset_n _ _ (by omega)]; first | assumption | exact hset_s _ _ _ | (rw [hset_n _ _ (by omega)]; first | assumption | exact hset_s _ _ _ | (rw [hset_n _ _ (by omega)]; first | assumption | exact hset_s _ _ _ | (rw [hset_n _ _ (by omega)]; first | assumption | exact hset_s _ _ _))))) rfl ?_
  refine j_iload_n d_C_answer_12 rfl ?_
  refine j_pV (As := [.int th]) d_C_answer_13 cb_C_74 vv_Pz_hasThing hp rfl rfl rfl rfl (Nat.le_of_ble_eq_true rfl) (d' := 0) (by decide) (c_Pz_hasThing hp rfl) ?_
  refine j_if_eq (tgt := 30) d_C_answer_16 (by decide) (fun q2 => no _ _ (fun x => bI_eq q2 x.2.1)) (fun q2 => ?_)
  refine j_aload_n d_C_answer_19 rfl ?_
  refine j_get d_C_answer_20 fl_C_42 (by first | assumption | exact hset_s _ _ _ | (rw [hset_n _ _ (by omega)]; first | assumption | exact hset_s _ _ _ | (rw [hset_n _ _ (by omega)]; first | assumption | exact hset_s _ _ _ | (rw [hset_n _ _ (by omega)]; first | assumption | exact hset_s _ _ _ | (rw [hset_n _ _ (by omega)]; first | assumption | exact hset_s _ _ _))))) rfl ?_
  refine j_iload_n d_C_answer_23 rfl ?_
  refine j_pV (As := [.int kd]) d_C_answer_24 cb_C_77 vv_Pz_hasKind hp rfl rfl rfl rfl (Nat.le_of_ble_eq_true rfl) (d' := 0) (by decide) (c_Pz_hasKind hp rfl) ?_
  refine j_if_ne (tgt := 32) d_C_answer_27 (by decide) (fun q3 => ?_) (fun q3 => no _ _ (fun x => bI_eq q3 x.2.2))
  have x1 := bI_ne q
  have x2 := bI_ne q2
  have x3 := bI_ne q3
  rw [if_pos ⟨x1, x2, x3⟩]
  obtain ⟨i, hi, rfl⟩ := in_nI (by omega) x1.2
  obtain ⟨j, hj, rfl⟩ := in_nI (by omega) x2
  obtain ⟨l, hl, rfl⟩ := in_nI (by omega) x3
  rw [nI_clamp (by omega), nI_clamp (by omega), nI_clamp (by omega)]
  have b1 := B.1 (3 * i + l)
  have e1 : (3 * nI i + nI l).toNatClampNeg = 3 * i + l := by rw [n3, nI_clamp (by omega)]
  have e2 : 4 * nA s.1 (3 * nI i + nI l).toNatClampNeg + nI j = nI (4 * s.1 (3 * i + l) + j) := by rw [e1]; exact nI_4 _ _
  refine j_aload_n d_C_answer_32 rfl ?_
  refine j_get d_C_answer_33 fl_C_58 (by first | assumption | exact hset_s _ _ _ | (rw [hset_n _ _ (by omega)]; first | assumption | exact hset_s _ _ _ | (rw [hset_n _ _ (by omega)]; first | assumption | exact hset_s _ _ _ | (rw [hset_n _ _ (by omega)]; first | assumption | exact hset_s _ _ _ | (rw [hset_n _ _ (by omega)]; first | assumption | exact hset_s _ _ _))))) rfl ?_
  refine j_iload_n d_C_answer_36 rfl ?_
  refine j_iload_n d_C_answer_37 rfl ?_
  refine j_iload_n d_C_answer_38 rfl ?_
  refine j_pV (As := [.int (nI i), .int (nI j), .int (nI l)]) d_C_answer_39 cb_C_80 vv_An_value ha rfl rfl rfl rfl (Nat.le_of_ble_eq_true rfl) (d' := 1) (by decide) (c_An_value ha hp ho hv ha1 (by rw [n3]; exact vp_in_nI (by omega) (by omega)) (by rw [e2]; exact vp_in_nI (by omega) (by omega))) ?_
  rw [e2, nI_clamp (by omega)]
  exact j_iret d_C_answer_42 rfl ⟨rfl, rfl, rfl⟩
theorem c_C_truth {t q0 : Int32} (C : CI E h n c p a ln nn k m cc txf φ s ws xs xws rn) : Ct E m_C_truth 2 0 0 [.ref c, .int t, .int q0] h n (Rt (some (.int (if (¬ rn = 0 ∧ 0 ≤ t ∧ t < nI s.2.2.2.2.2.2.1) ∧ (0 ≤ q0 ∧ q0 < nI m) then bI (¬ (truthF q0.toNatClampNeg >>> (nI (s.2.1 t.toNatClampNeg) &&& 31)) &&& 1 = 0) else -1))) h n) := by
  have C0 := C
  obtain ⟨⟨h1, h2, A, hA, -⟩, ⟨-, -, -, hnn, hk3, hm3, -⟩, -, -, -, h100, -⟩ := C
  have ha := hAn_0 (E := E) (h := h) (a := a) (p := p) (od := p + 2) (K := k) (s := s) (ws := ws)
  have ha2 := hAn_2 (E := E) (h := h) (a := a) (p := p) (od := p + 2) (K := k) (s := s) (ws := ws)
  rw [hA] at ha ha2
  have hp := A.1
  refine Ct.go rfl rfl rfl ?_
  have no : ∀ cl sl, ¬ ((¬ rn = 0 ∧ 0 ≤ t ∧ t < nI s.2.2.2.2.2.2.1) ∧ (0 ≤ q0 ∧ q0 < nI m)) → J E m_C_truth 2 cl sl 19 (lv_args 0 [.ref c, .int t, .int q0]) [] h n (Rt (some (.int (if (¬ rn = 0 ∧ 0 ≤ t ∧ t < nI s.2.2.2.2.2.2.1) ∧ (0 ≤ q0 ∧ q0 < nI m) then bI (¬ (truthF q0.toNatClampNeg >>> (nI (s.2.1 t.toNatClampNeg) &&& 31)) &&& 1 = 0) else -1))) h n) := by
    intro cl sl q
    rw [if_neg q]
    refine j_iconst (v := (-1)) d_C_truth_19 (by decide) ?_
    exact j_iret d_C_truth_20 rfl ⟨rfl, rfl, rfl⟩
  refine j_aload_n d_C_truth_0 rfl ?_
  refine j_iload_n d_C_truth_1 rfl ?_
  refine j_pV (As := [.int t]) d_C_truth_2 cb_C_70 vv_C_isKept h1 rfl rfl rfl rfl (Nat.le_of_ble_eq_true rfl) (by decide) (c_C_isKept C0) ?_
  refine j_if_eq (tgt := 19) d_C_truth_5 (by decide) (fun q => no _ _ (fun x => bI_eq q x.1)) (fun q => ?_)
  refine j_aload_n d_C_truth_8 rfl ?_
  refine j_get d_C_truth_9 fl_C_42 (by first | assumption | exact hset_s _ _ _ | (rw [hset_n _ _ (by omega)]; first | assumption | exact hset_s _ _ _ | (rw [hset_n _ _ (by omega)]; first | assumption | exact hset_s _ _ _ | (rw [hset_n _ _ (by omega)]; first | assumption | exact hset_s _ _ _ | (rw [hset_n _ _ (by omega)]; first | assumption | exact hset_s _ _ _))))) rfl ?_
  refine j_iload_n d_C_truth_12 rfl ?_
  refine j_pV (As := [.int q0]) d_C_truth_13 cb_C_84 vv_Pz_hasPerson hp rfl rfl rfl rfl (Nat.le_of_ble_eq_true rfl) (d' := 0) (by decide) (c_Pz_hasPerson hp rfl) ?_
  refine j_if_ne (tgt := 21) d_C_truth_16 (by decide) (fun q3 => ?_) (fun q3 => no _ _ (fun x => bI_eq q3 x.2))
  have x1 := bI_ne q
  have x3 := bI_ne q3
  rw [if_pos ⟨x1, x3⟩]
  obtain ⟨i, hi, rfl⟩ := in_nI (by omega) x1.2
  obtain ⟨l, hl, rfl⟩ := in_nI (by omega) x3
  refine j_aload_n d_C_truth_21 rfl ?_
  refine j_get d_C_truth_22 fl_C_58 (by first | assumption | exact hset_s _ _ _ | (rw [hset_n _ _ (by omega)]; first | assumption | exact hset_s _ _ _ | (rw [hset_n _ _ (by omega)]; first | assumption | exact hset_s _ _ _ | (rw [hset_n _ _ (by omega)]; first | assumption | exact hset_s _ _ _ | (rw [hset_n _ _ (by omega)]; first | assumption | exact hset_s _ _ _))))) rfl ?_
  refine j_iload_n d_C_truth_25 rfl ?_
  refine j_iload_n d_C_truth_26 rfl ?_
  refine j_pV (As := [.int (nI i), .int (nI l)]) d_C_truth_27 cb_C_87 vv_An_isTruthful ha rfl rfl rfl rfl (Nat.le_of_ble_eq_true rfl) (d' := 0) (by decide) (c_An_isTruthful ha ha2 (vp_in_nI (by omega) (by omega)) (vp_in_nI (by omega) (by omega))) ?_
  refine j_if_eq (tgt := 37) d_C_truth_30 (by decide) (fun q4 => ?_) (fun q4 => ?_)
  · refine j_iconst (v := 0) d_C_truth_37 (by decide) ?_
    exact j_iret d_C_truth_38 rfl ⟨congrArg (fun x => some (Value.int x)) q4.symm, rfl, rfl⟩
  · refine j_iconst (v := 1) d_C_truth_33 (by decide) ?_
    refine j_goto (tgt := 38) d_C_truth_34 (by decide) ?_
    exact j_iret d_C_truth_38 rfl ⟨congrArg (fun x => some (Value.int x)) (bI_t (bI_ne q4)).symm, rfl, rfl⟩
end FA2

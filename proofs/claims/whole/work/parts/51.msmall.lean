section MSM
variable {E : EV} {h : HP} {n mo ln : Nat} {v : Nat → Int32} {f : Nat → Nat → Int32} {txf : Nat → Nat}
theorem c_Md_byteAt {i : Nat} (hs : v 1 = nI ln) (hl : ln ≤ 300) (hi : i < 2 ^ 31) : Ct E m_Md_byteAt 0 0 0 [.ref mo, .int (nI i)] (hM E h mo v f) n (Rt (some (.int (if i < ln then f 1 i else -1))) (hM E h mo v f) n) := by
  refine Ct.go rfl rfl rfl ?_
  refine j_iload_n d_Md_byteAt_0 rfl ?_
  refine j_aload_n d_Md_byteAt_1 rfl ?_
  refine m_get d_Md_byteAt_2 fl_Md_98 rfl ?_
  rw [hs]
  refine j_icmp_ge (tgt := 17) d_Md_byteAt_5 (by decide) (fun c => ?_) (fun c => ?_)
  · have hge : ln ≤ i := (nI_leI (by omega) (by omega)).mp c
    rw [if_neg (by omega)]
    refine j_iconst (v := (-1)) d_Md_byteAt_17 (by decide) ?_
    exact j_iret d_Md_byteAt_18 rfl ⟨rfl, rfl, rfl⟩
  · have hlt : i < ln := Nat.not_le.mp (fun q => c ((nI_leI (by omega) (by omega)).mpr q))
    rw [if_pos hlt]
    refine j_aload_n d_Md_byteAt_8 rfl ?_
    refine m_get d_Md_byteAt_9 fl_Md_7 rfl ?_
    refine j_iload_n d_Md_byteAt_12 rfl ?_
    refine m_ald (k := 1) (N := 300) d_Md_byteAt_13 (by decide) rfl (by omega) (by decide) ?_
    refine j_goto (tgt := 18) d_Md_byteAt_14 (by decide) ?_
    exact j_iret d_Md_byteAt_18 rfl ⟨rfl, rfl, rfl⟩
/-- the text and the place of the reference -/
def MTx (v : Nat → Int32) (f : Nat → Nat → Int32) (ln pl : Nat) (txf : Nat → Nat) : Prop := v 1 = nI ln ∧ v 15 = nI pl ∧ f 1 = nA txf ∧ ln ≤ 300 ∧ pl ≤ ln ∧ ∀ j, txf j < 256
def byF (txf : Nat → Nat) (ln pl : Nat) : Int32 := if pl < ln then nI (txf pl) else -1
theorem c_Md_byte {pl : Nat} (T : MTx v f ln pl txf) : Ct E m_Md_byteAt 0 0 0 [.ref mo, .int (nI pl)] (hM E h mo v f) n (Rt (some (.int (byF txf ln pl))) (hM E h mo v f) n) := by
  have := c_Md_byteAt (E := E) (h := h) (mo := mo) (f := f) (n := n) (i := pl) T.1 T.2.2.2.1 (by have := T.2.2.2; omega)
  rw [T.2.2.1] at this
  exact this
theorem c_Md_digit {pl : Nat} {lo hi : Int32} (hb : E.2.2.2.1 ≤ mo) (T : MTx v f ln pl txf) : Ct E m_Md_digit 1 0 0 [.ref mo, .int lo, .int hi] (hM E h mo v f) n (Rt (some (.int (takeF txf ln 48 lo hi pl).1)) (hM E h mo (upd v 15 (nI (takeF txf ln 48 lo hi pl).2)) f) n) := by
  have T0 := T
  obtain ⟨t1, t2, t3, t4, t5, t6⟩ := T
  refine Ct.go rfl rfl rfl ?_
  have same : upd v 15 (nI pl) = v := by rw [← t2]; funext j; unfold upd; split <;> simp_all
  have no : ∀ w, takeF txf ln 48 lo hi pl = (-1, pl) → J E m_Md_digit 1 0 0 33 [(0, .ref mo), (1, .int lo), (2, .int hi), (3, .int w)] [] (hM E h mo v f) n (Rt (some (.int (takeF txf ln 48 lo hi pl).1)) (hM E h mo (upd v 15 (nI (takeF txf ln 48 lo hi pl).2)) f) n) := by
    intro w e
    rw [e]
    refine j_iconst (v := (-1)) d_Md_digit_33 (by decide) ?_
    exact j_iret d_Md_digit_34 rfl ⟨rfl, by rw [same], rfl⟩
  refine j_aload_n d_Md_digit_0 rfl ?_
  refine j_aload_n d_Md_digit_1 rfl ?_
  refine m_get d_Md_digit_2 fl_Md_101 rfl ?_
  rw [t2]
  refine m_pV (As := [.int (nI pl)]) d_Md_digit_5 cb_Md_104 vv_Md_byteAt rfl rfl rfl (Nat.le_of_ble_eq_true rfl) (by decide) (c_Md_byte T0) ?_
  refine j_bipush (v := 48) d_Md_digit_8 (by decide) ?_
  refine j_isub d_Md_digit_10 ?_
  refine j_istore_n d_Md_digit_11 (by decide) ?_
  refine j_aload_n d_Md_digit_12 rfl ?_
  refine m_get d_Md_digit_13 fl_Md_101 rfl ?_
  refine j_aload_n d_Md_digit_16 rfl ?_
  refine m_get d_Md_digit_17 fl_Md_98 rfl ?_
  rw [t2, t1]
  refine j_icmp_ge (tgt := 33) d_Md_digit_20 (by decide) (fun c => no _ (if_pos ((nI_leI (by omega) (by omega)).mp c))) (fun c => ?_)
  have hlt : pl < ln := Nat.not_le.mp (fun q => c ((nI_leI (by omega) (by omega)).mpr q))
  rw [show byF txf ln pl = nI (txf pl) from if_pos hlt]
  refine j_iload_n d_Md_digit_23 rfl ?_
  refine j_iload_n d_Md_digit_24 rfl ?_
  refine j_icmp_lt (tgt := 33) d_Md_digit_25 (by decide) (fun c2 => no _ (by unfold takeF; rw [if_neg (by omega), if_pos (Or.inl c2)])) (fun c2 => ?_)
  refine j_iload_n d_Md_digit_28 rfl ?_
  refine j_iload_n d_Md_digit_29 rfl ?_
  refine j_icmp_le (tgt := 35) d_Md_digit_30 (by decide) (fun c3 => ?_) (fun c3 => no _ (by unfold takeF; rw [if_neg (by omega), if_pos (Or.inr (Int32.not_le.mp c3))]))
  have e : takeF txf ln 48 lo hi pl = (nI (txf pl) - 48, pl + 1) := by unfold takeF; rw [if_neg (by omega), if_neg (fun q => q.elim c2 (fun q => absurd q (Int32.not_lt.mpr c3)))]
  rw [e]
  refine j_aload_n d_Md_digit_35 rfl ?_
  refine j_dup d_Md_digit_36 rfl ?_
  refine m_get d_Md_digit_37 fl_Md_101 rfl ?_
  refine j_iconst (v := 1) d_Md_digit_40 (by decide) ?_
  refine j_iadd d_Md_digit_41 ?_
  rw [t2, nI_1]
  refine m_put d_Md_digit_42 fl_Md_101 rfl rfl hb rfl rfl ?_
  refine j_iload_n d_Md_digit_45 rfl ?_
  exact j_iret d_Md_digit_46 rfl ⟨rfl, rfl, rfl⟩
theorem MTx.up {pl pl' k : Nat} {x : Int32} (hk : k ≠ 1 ∧ k ≠ 15) (T : MTx v f ln pl txf) : MTx (upd v k x) f ln pl txf := ⟨by show upd v k x 1 = _; unfold upd; rw [if_neg (by omega)]; exact T.1, by show upd v k x 15 = _; unfold upd; rw [if_neg (by omega)]; exact T.2.1, T.2.2⟩
theorem MTx.at {pl pl' : Nat} (hl : pl' ≤ ln) (T : MTx v f ln pl txf) : MTx (upd v 15 (nI pl')) f ln pl' txf := ⟨T.1, rfl, T.2.2.1, T.2.2.2.1, hl, T.2.2.2.2.2⟩
theorem MTx.row {pl k : Nat} {g : Nat → Int32} (hk : k ≠ 1) (T : MTx v f ln pl txf) : MTx v (upG f k g) ln pl txf := ⟨T.1, T.2.1, by rw [upG_n _ _ (Ne.symm hk)]; exact T.2.2.1, T.2.2.2⟩
theorem upd_upd (g : Nat → Int32) (k : Nat) (x y : Int32) : upd (upd g k x) k y = upd g k y := by
  funext j; unfold upd; split <;> rfl
theorem upd_id (g : Nat → Int32) (k : Nat) : upd g k (g k) = g := by
  funext j; unfold upd; split <;> simp_all
theorem upd_eq {g : Nat → Int32} {k : Nat} {x : Int32} (h : g k = x) : upd g k x = g := by rw [← h]; exact upd_id g k
theorem upd_ss (g : Nat → Int32) (k : Nat) (x : Int32) : upd g k x k = x := if_pos rfl
theorem upd_nn (g : Nat → Int32) {k j : Nat} (x : Int32) (h : j ≠ k) : upd g k x j = g j := if_neg h
theorem takeF_v {zero hi : Int32} {pl : Nat} (h : ¬ (takeF txf ln zero 0 hi pl).1 = -1) : 0 ≤ (takeF txf ln zero 0 hi pl).1 := by
  unfold takeF at h ⊢
  split
  · rename_i c; rw [if_pos c] at h; exact absurd rfl h
  · rename_i c
    rw [if_neg c] at h
    split
    · rename_i c2; rw [if_pos c2] at h; exact absurd rfl h
    · rename_i c2
      exact Int32.not_lt.mp (fun q => c2 (Or.inl q))
theorem c_Md_value {pl : Nat} {k nn : Nat} (hb : E.2.2.2.1 ≤ mo) (T : MTx v f ln pl txf) (hk : v 12 = nI k) (hnn : v 11 = nI nn) (hk3 : k ≤ 3) (hn4 : nn ≤ 4) : Ct E m_Md_value 2 0 0 [.ref mo] (hM E h mo v f) n (Rt (some (.int (tvF txf ln (nI k) (nI nn) pl).1)) (hM E h mo (upd v 15 (nI (tvF txf ln (nI k) (nI nn) pl).2)) f) n) := by
  have T0 := T
  obtain ⟨t1, t2, t3, t4, t5, t6⟩ := T
  refine Ct.go rfl rfl rfl ?_
  have no : ∀ w, tvF txf ln (nI k) (nI nn) pl = (-1, pl) → J E m_Md_value 2 0 0 35 [(0, .ref mo), (1, .int w)] [] (hM E h mo v f) n (Rt (some (.int (tvF txf ln (nI k) (nI nn) pl).1)) (hM E h mo (upd v 15 (nI (tvF txf ln (nI k) (nI nn) pl).2)) f) n) := by
    intro w e
    rw [e]
    refine j_iconst (v := (-1)) d_Md_value_35 (by decide) ?_
    exact j_iret d_Md_value_36 rfl ⟨rfl, by rw [upd_eq t2], rfl⟩
  refine j_aload_n d_Md_value_0 rfl ?_
  refine j_aload_n d_Md_value_1 rfl ?_
  refine m_get d_Md_value_2 fl_Md_101 rfl ?_
  rw [t2]
  refine m_pV (As := [.int (nI pl)]) d_Md_value_5 cb_Md_104 vv_Md_byteAt rfl rfl rfl (Nat.le_of_ble_eq_true rfl) (d' := 0) (by decide) (c_Md_byte T0) ?_
  refine j_bipush (v := 97) d_Md_value_8 (by decide) ?_
  refine j_isub d_Md_value_10 ?_
  refine j_istore_n d_Md_value_11 (by decide) ?_
  refine j_aload_n d_Md_value_12 rfl ?_
  refine m_get d_Md_value_13 fl_Md_101 rfl ?_
  refine j_aload_n d_Md_value_16 rfl ?_
  refine m_get d_Md_value_17 fl_Md_98 rfl ?_
  rw [t2, t1]
  have tv1 : (takeF txf ln 97 0 (nI k - 1) pl) = (-1, pl) → tvF txf ln (nI k) (nI nn) pl = (-1, pl) := fun e => by unfold tvF; rw [e]; rfl
  refine j_icmp_ge (tgt := 35) d_Md_value_20 (by decide) (fun c => no _ (tv1 (if_pos ((nI_leI (by omega) (by omega)).mp c)))) (fun c => ?_)
  have hlt : pl < ln := Nat.not_le.mp (fun q => c ((nI_leI (by omega) (by omega)).mpr q))
  rw [show byF txf ln pl = nI (txf pl) from if_pos hlt]
  refine j_iload_n d_Md_value_23 rfl ?_
  refine j_if_lt (tgt := 35) d_Md_value_24 (by decide) (fun c2 => no _ (tv1 (by unfold takeF; rw [if_neg (by omega), if_pos (Or.inl c2)]))) (fun c2 => ?_)
  refine j_iload_n d_Md_value_27 rfl ?_
  refine j_aload_n d_Md_value_28 rfl ?_
  refine m_get d_Md_value_29 fl_Md_108 rfl ?_
  rw [hk]
  have hlow : ¬ nI (txf pl) - 97 < nI k → nI k - 1 < nI (txf pl) - 97 := by
    intro q
    obtain ⟨j, hj, e⟩ := nI_of (x := nI (txf pl) - 97) c2
    rw [e] at q ⊢
    have q' : k ≤ j := Nat.not_lt.mp (fun z => q ((nI_ltI (by omega) (by omega)).mpr z))
    rcases k with _ | k
    · have : (nI 0 - 1 : Int32) < 0 := by decide
      exact Int32.lt_of_lt_of_le this (nI_pos' (by omega))
    · rw [nI_pred]; exact (nI_ltI (by omega) (by omega)).mpr (by omega)
  have hup : nI (txf pl) - 97 < nI k → ¬ nI k - 1 < nI (txf pl) - 97 := by
    intro q
    obtain ⟨j, hj, e⟩ := nI_of (x := nI (txf pl) - 97) c2
    rw [e] at q ⊢
    have q' : j < k := (nI_ltI (by omega) (by omega)).mp q
    rcases k with _ | k
    · omega
    · rw [nI_pred]; exact fun z => by have := (nI_ltI (by omega) (by omega)).mp z; omega
  refine j_icmp_lt (tgt := 37) d_Md_value_32 (by decide) (fun c3 => ?_) (fun c3 => no _ (tv1 (by unfold takeF; rw [if_neg (by omega), if_pos (Or.inr (hlow c3))])))
  have e1 : takeF txf ln 97 0 (nI k - 1) pl = (nI (txf pl) - 97, pl + 1) := by unfold takeF; rw [if_neg (by omega), if_neg (fun q => q.elim c2 (hup c3))]
  have ne1 : ¬ (nI (txf pl) - 97 : Int32) = -1 := fun q => c2 (by rw [q]; decide)
  have e2 : tvF txf ln (nI k) (nI nn) pl = if (takeF txf ln 48 0 (nI nn - 1) (pl + 1)).1 = -1 then (-1, (takeF txf ln 48 0 (nI nn - 1) (pl + 1)).2) else (4 * (nI (txf pl) - 97) + (takeF txf ln 48 0 (nI nn - 1) (pl + 1)).1, (takeF txf ln 48 0 (nI nn - 1) (pl + 1)).2) := by
    unfold tvF; rw [e1]; dsimp only; rw [if_neg ne1]
  refine j_aload_n d_Md_value_37 rfl ?_
  refine j_dup d_Md_value_38 rfl ?_
  refine m_get d_Md_value_39 fl_Md_101 rfl ?_
  refine j_iconst (v := 1) d_Md_value_42 (by decide) ?_
  refine j_iadd d_Md_value_43 ?_
  rw [t2, nI_1]
  refine m_put d_Md_value_44 fl_Md_101 rfl rfl hb rfl rfl ?_
  refine j_aload_n d_Md_value_47 rfl ?_
  refine j_iconst (v := 0) d_Md_value_48 (by decide) ?_
  refine j_aload_n d_Md_value_49 rfl ?_
  refine m_get d_Md_value_50 fl_Md_111 rfl ?_
  refine j_iconst (v := 1) d_Md_value_53 (by decide) ?_
  refine j_isub d_Md_value_54 ?_
  rw [show upd v 15 (nI (pl + 1)) 11 = nI nn from hnn]
  refine m_callV (As := [.int 0, .int (nI nn - 1)]) d_Md_value_55 cb_Md_114 vv_Md_digit rfl rfl rfl (Nat.le_of_ble_eq_true rfl) (by decide) (c_Md_digit hb (T0.at (pl' := pl + 1) (by omega))) (fun w h' n' q _ => ?_)
  obtain ⟨rfl, rfl, q3⟩ := q; have q3 := q3.symm; subst q3
  rw [upd_upd]
  refine j_istore_n d_Md_value_58 (by decide) ?_
  refine j_iload_n d_Md_value_59 rfl ?_
  refine j_if_ge (tgt := 67) d_Md_value_60 (by decide) (fun c4 => ?_) (fun c4 => ?_)
  · have ne2 : ¬ (takeF txf ln 48 0 (nI nn - 1) (pl + 1)).1 = -1 := fun q => absurd c4 (by rw [q]; decide)
    rw [e2, if_neg ne2]
    refine j_iconst (v := 4) d_Md_value_67 (by decide) ?_
    refine j_iload_n d_Md_value_68 rfl ?_
    refine j_imul d_Md_value_69 ?_
    refine j_iload_n d_Md_value_70 rfl ?_
    refine j_iadd d_Md_value_71 ?_
    exact j_iret d_Md_value_72 rfl ⟨rfl, rfl, rfl⟩
  · have ne2 : (takeF txf ln 48 0 (nI nn - 1) (pl + 1)).1 = -1 := Decidable.byContradiction (fun q => c4 (takeF_v q))
    rw [e2, if_pos ne2]
    refine j_iconst (v := (-1)) d_Md_value_63 (by decide) ?_
    refine j_goto (tgt := 72) d_Md_value_64 (by decide) ?_
    exact j_iret d_Md_value_72 rfl ⟨rfl, rfl, rfl⟩
end MSM

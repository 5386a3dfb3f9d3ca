section MAS
variable {E : EV} {h : HP} {n mo N K M cc : Nat} {v : Nat → Int32} {f : Nat → Nat → Int32} {φ : Nat → PhiT}
/-- state st is answer j -/
def IsA (ok : Nat → Bool) (S j st : Nat) : Prop := st < S ∧ ok st = true ∧ cnF ok st = j
set_option maxRecDepth 10000 in
theorem cnF_mono (P : Nat → Bool) {a : Nat} : ∀ {b : Nat}, a ≤ b → cnF P a ≤ cnF P b
  | 0, h => by rw [Nat.le_zero.mp h]; exact Nat.le_refl _
  | b + 1, h => by
    by_cases e : a = b + 1
    · subst e; exact Nat.le_refl _
    · have := cnF_mono P (a := a) (b := b) (by omega)
      rw [cnF]; omega
set_option maxRecDepth 10000 in
theorem IsA.uni {ok : Nat → Bool} {S j a b : Nat} (x : IsA ok S j a) (y : IsA ok S j b) : a = b := by
  have key : ∀ a b, IsA ok S j a → IsA ok S j b → ¬ a < b := by
    intro a b x y lt
    have h1 : cnF ok (a + 1) = cnF ok a + 1 := by rw [cnF, if_pos x.2.1]
    have h2 := cnF_mono ok (show a + 1 ≤ b from lt)
    have := x.2.2; have := y.2.2
    omega
  have := key a b x y
  have := key b a y x
  omega
def KnD (v : Nat → Int32) (f : Nat → Nat → Int32) (N K M cc : Nat) (φ : Nat → PhiT) : Prop := v 23 = 0 ∨ (v 23 = 1 ∧ KnF v f N K M cc φ)
/-- what was kept -/
def AnD (v : Nat → Int32) (f : Nat → Nat → Int32) (N K M cc kp : Nat) (φ : Nat → PhiT) : Prop := v 27 = nI kp ∧ kp ≤ 100 ∧ (kp = 0 ∨ (KnF v f N K M cc φ ∧ AnR f (okS N K M cc φ) (stN N K M) kp))
def AskQ (E : EV) (h : HP) (n mo : Nat) (v : Nat → Int32) (f : Nat → Nat → Int32) (N K M cc : Nat) (φ : Nat → PhiT) (R : Option Value → Prop) : Option Value → HP → Nat → Prop := fun r h' n' => n' = n ∧ R r ∧ ∃ v' f', h' = hM E h mo v' f' ∧ KnD v' f' N K M cc φ ∧ (v 23 = 1 → v' 23 = 1) ∧ v' 0 = 0 ∧ (∀ j, j ≠ 0 → j ≠ 20 → j ≠ 23 → v' j = v j) ∧ ∀ j, j < 10 ∨ 13 < j → f' j = f j
set_option maxRecDepth 10000 in
theorem c_Md_answer {k t kd : Int32} {kp : Nat} (hb : E.2.2.2.1 ≤ mo) (P : MP v N K M cc) (A : AnD v f N K M cc kp φ) :
    Ct E m_Md_answer 2 0 0 [.ref mo, .int k, .int t, .int kd] (hM E h mo v f) n (fun r h' n' => n' = n ∧ h' = hM E h mo (upd v 0 0) f ∧ (((0 ≤ k ∧ k < nI kp) ∧ ((0 ≤ t ∧ t < nI N) ∧ (0 ≤ kd ∧ kd < nI K)) ∧ ∃ st, IsA (okS N K M cc φ) (stN N K M) k.toNatClampNeg st ∧ r = some (.int (nI (vS N K M st t.toNatClampNeg kd.toNatClampNeg)))) ∨ (¬ ((0 ≤ k ∧ k < nI kp) ∧ ((0 ≤ t ∧ t < nI N) ∧ (0 ≤ kd ∧ kd < nI K))) ∧ r = some (.int (-1))))) := by
  have hsz := stN_le (N := N) P.2.2.2.2.2.1 P.2.2.2.2.2.2.1
  have P1 : MP (upd v 0 0) N K M cc := P.up (by decide)
  have h5 := P.2.2.2.2.1
  have h6 := P.2.2.2.2.2.1
  obtain ⟨a1, a2, a3⟩ := A
  refine Ct.go rfl rfl rfl ?_
  refine j_aload_n d_Md_answer_0 rfl ?_
  refine j_iconst (v := 0) d_Md_answer_1 (by decide) ?_
  refine m_put d_Md_answer_2 fl_Md_79 rfl rfl hb rfl rfl ?_
  refine j_aload_n d_Md_answer_5 rfl ?_
  refine j_iload_n d_Md_answer_6 rfl ?_
  refine m_pV (As := [.int k]) d_Md_answer_7 cb_Md_176 vv_Md_isKept rfl rfl rfl (Nat.le_of_ble_eq_true rfl) (d' := 0) (by decide) c_Md_isKept ?_
  rw [show upd v 0 0 27 = nI kp from a1]
  refine j_if_eq (tgt := 37) d_Md_answer_10 (by decide) (fun q => ?_) (fun q => ?_)
  · refine j_iconst (v := (-1)) d_Md_answer_37 (by decide) ?_
    exact j_iret d_Md_answer_38 rfl ⟨rfl, rfl, Or.inr ⟨fun z => bI_eq q z.1, rfl⟩⟩
  · refine j_aload_n d_Md_answer_13 rfl ?_
    refine j_iload_n d_Md_answer_14 rfl ?_
    refine j_iload_n d_Md_answer_15 rfl ?_
    refine m_pV (As := [.int t, .int kd]) d_Md_answer_16 cb_Md_179 vv_Md_isOf rfl rfl rfl (Nat.le_of_ble_eq_true rfl) (d' := 0) (by decide) c_Md_isOf ?_
    rw [show upd v 0 0 3 = nI N from P.1, show upd v 0 0 4 = nI K from P.2.1]
    refine j_if_eq (tgt := 37) d_Md_answer_19 (by decide) (fun q2 => ?_) (fun q2 => ?_)
    · refine j_iconst (v := (-1)) d_Md_answer_37 (by decide) ?_
      exact j_iret d_Md_answer_38 rfl ⟨rfl, rfl, Or.inr ⟨fun z => bI_eq q2 z.2, rfl⟩⟩
    · have c1 := bI_ne q
      have c2 := bI_ne q2
      obtain ⟨jk, hjk, rfl⟩ := in_nI (by omega) c1
      obtain ⟨jt, hjt, rfl⟩ := in_nI (by omega) c2.1
      obtain ⟨jd, hjd, rfl⟩ := in_nI (by omega) c2.2
      rcases a3 with a3 | ⟨kn, a3⟩
      · omega
      · obtain ⟨st, s1, s2, s3, s4⟩ := a3 jk hjk
        refine j_aload_n d_Md_answer_22 rfl ?_
        refine j_aload_n d_Md_answer_23 rfl ?_
        refine m_get d_Md_answer_24 fl_Md_55 rfl ?_
        refine j_iload_n d_Md_answer_27 rfl ?_
        refine m_ald (k := 14) (N := 100) d_Md_answer_28 (by decide) rfl (by omega) (by decide) ?_
        refine j_iload_n d_Md_answer_29 rfl ?_
        refine j_iload_n d_Md_answer_30 rfl ?_
        rw [s4]
        refine m_pV (As := [.int (nI st), .int (nI jt), .int (nI jd)]) d_Md_answer_31 cb_Md_182 vv_Md_valueOf rfl rfl rfl (Nat.le_of_ble_eq_true rfl) (d' := 1) (by decide) (c_Md_vO P1 kn.1 kn.2.1 hjd hjt (by omega)) ?_
        refine j_goto (tgt := 38) d_Md_answer_34 (by decide) ?_
        refine j_iret d_Md_answer_38 rfl ⟨rfl, rfl, Or.inl ⟨c1, c2, st, ⟨s1, s2, ?_⟩, ?_⟩⟩
        · rw [nI_clamp (by omega)]; exact s3
        · rw [nI_clamp (by omega), nI_clamp (by omega)]
set_option maxRecDepth 10000 in
theorem c_Md_truth {k q : Int32} {kp : Nat} (hb : E.2.2.2.1 ≤ mo) (P : MP v N K M cc) (A : AnD v f N K M cc kp φ) :
    Ct E m_Md_truth 1 0 0 [.ref mo, .int k, .int q] (hM E h mo v f) n (fun r h' n' => n' = n ∧ h' = hM E h mo (upd v 0 0) f ∧ (((0 ≤ k ∧ k < nI kp) ∧ (0 ≤ q ∧ q < nI M) ∧ ∃ st, IsA (okS N K M cc φ) (stN N K M) k.toNatClampNeg st ∧ r = some (.int (bI (trS M st q.toNatClampNeg)))) ∨ (¬ ((0 ≤ k ∧ k < nI kp) ∧ (0 ≤ q ∧ q < nI M)) ∧ r = some (.int (-1))))) := by
  have hsz := stN_le (N := N) P.2.2.2.2.2.1 P.2.2.2.2.2.2.1
  have P1 : MP (upd v 0 0) N K M cc := P.up (by decide)
  have h7 := P.2.2.2.2.2.2.1
  obtain ⟨a1, a2, a3⟩ := A
  refine Ct.go rfl rfl rfl ?_
  refine j_aload_n d_Md_truth_0 rfl ?_
  refine j_iconst (v := 0) d_Md_truth_1 (by decide) ?_
  refine m_put d_Md_truth_2 fl_Md_79 rfl rfl hb rfl rfl ?_
  refine j_aload_n d_Md_truth_5 rfl ?_
  refine j_iload_n d_Md_truth_6 rfl ?_
  refine m_pV (As := [.int k]) d_Md_truth_7 cb_Md_176 vv_Md_isKept rfl rfl rfl (Nat.le_of_ble_eq_true rfl) (d' := 0) (by decide) c_Md_isKept ?_
  rw [show upd v 0 0 27 = nI kp from a1]
  refine j_if_eq (tgt := 21) d_Md_truth_10 (by decide) (fun z => ?_) (fun z => ?_)
  · refine j_iconst (v := (-1)) d_Md_truth_21 (by decide) ?_
    refine j_goto (tgt := 44) d_Md_truth_22 (by decide) ?_
    exact j_iret d_Md_truth_44 rfl ⟨rfl, rfl, Or.inr ⟨fun y => bI_eq z y.1, rfl⟩⟩
  · refine j_aload_n d_Md_truth_13 rfl ?_
    refine j_iload_n d_Md_truth_14 rfl ?_
    refine m_pV (As := [.int q]) d_Md_truth_15 cb_Md_186 vv_Md_isPerson rfl rfl rfl (Nat.le_of_ble_eq_true rfl) (d' := 0) (by decide) c_Md_isPerson ?_
    rw [show upd v 0 0 5 = nI M from P.2.2.1]
    refine j_if_ne (tgt := 25) d_Md_truth_18 (by decide) (fun z2 => ?_) (fun z2 => ?_)
    · have c1 := bI_ne z
      have c2 := bI_ne z2
      obtain ⟨jk, hjk, rfl⟩ := in_nI (by omega) c1
      obtain ⟨jq, hjq, rfl⟩ := in_nI (by omega) c2
      rcases a3 with a3 | ⟨kn, a3⟩
      · omega
      · obtain ⟨st, s1, s2, s3, s4⟩ := a3 jk hjk
        have r : ∀ x : Int32, x = bI (trS M st jq) → (0 ≤ nI jk ∧ nI jk < nI kp) ∧ (0 ≤ nI jq ∧ nI jq < nI M) ∧ ∃ st, IsA (okS N K M cc φ) (stN N K M) (nI jk).toNatClampNeg st ∧ some (.int x) = some (Value.int (bI (trS M st (nI jq).toNatClampNeg))) := by
          intro x hx
          subst hx
          refine ⟨c1, c2, st, ⟨s1, s2, ?_⟩, ?_⟩
          · rw [nI_clamp (by omega)]; exact s3
          · rw [nI_clamp (by omega)]
        refine j_aload_n d_Md_truth_25 rfl ?_
        refine j_aload_n d_Md_truth_26 rfl ?_
        refine m_get d_Md_truth_27 fl_Md_55 rfl ?_
        refine j_iload_n d_Md_truth_30 rfl ?_
        refine m_ald (k := 14) (N := 100) d_Md_truth_31 (by decide) rfl (by omega) (by decide) ?_
        refine j_iload_n d_Md_truth_32 rfl ?_
        rw [s4]
        refine m_pV (As := [.int (nI st), .int (nI jq)]) d_Md_truth_33 cb_Md_156 vv_Md_isTruthful rfl rfl rfl (Nat.le_of_ble_eq_true rfl) (d' := 0) (by decide) (c_Md_isTruthful P1 hjq) ?_
        refine j_if_eq (tgt := 43) d_Md_truth_36 (by decide) (fun z3 => ?_) (fun z3 => ?_)
        · refine j_iconst (v := 0) d_Md_truth_43 (by decide) ?_
          exact j_iret d_Md_truth_44 rfl ⟨rfl, rfl, Or.inl (r 0 z3.symm)⟩
        · refine j_iconst (v := 1) d_Md_truth_39 (by decide) ?_
          refine j_goto (tgt := 44) d_Md_truth_40 (by decide) ?_
          exact j_iret d_Md_truth_44 rfl ⟨rfl, rfl, Or.inl (r 1 ((bI_01 _).resolve_left z3).symm)⟩
    · refine j_iconst (v := (-1)) d_Md_truth_21 (by decide) ?_
      refine j_goto (tgt := 44) d_Md_truth_22 (by decide) ?_
      exact j_iret d_Md_truth_44 rfl ⟨rfl, rfl, Or.inr ⟨fun y => bI_eq z2 y.2, rfl⟩⟩
end MAS

section CLP
variable {E : EV} {h : HP} {n r tx ln pl sg : Nat} {K N M : Int32} {txf : Nat → Nat}
abbrev PhiT : Type := (Nat → Int32) → Int32
/-- what reading a clue gives: the clue, the place, the signs -/
abbrev PcR : Type := Option PhiT × Nat × Nat
def pOp (txf : Nat → Nat) (ln : Nat) (M : Int32) (pl sg : Nat) : PcR := if (takeF txf ln 48 0 (M - 1) pl).1 = -1 then (none, (takeF txf ln 48 0 (M - 1) pl).2, sg) else (some (fun _ => truthF (takeF txf ln 48 0 (M - 1) pl).1.toNatClampNeg), (takeF txf ln 48 0 (M - 1) pl).2, sg)
def pTu (c : PcR) (t : Int32) : PcR := (c.1.map (fun ψ => fun th => t ^^^ ψ th), c.2)
def pSay (txf : Nat → Nat) (ln : Nat) (M : Int32) (rd : Nat → Nat → PcR) (pl sg : Nat) : PcR := if (takeF txf ln 48 0 (M - 1) pl).1 = -1 then (none, (takeF txf ln 48 0 (M - 1) pl).2, sg) else pTu (rd (takeF txf ln 48 0 (M - 1) pl).2 sg) (truthF (takeF txf ln 48 0 (M - 1) pl).1.toNatClampNeg ^^^ (-1))
def pJo2 (b : Int32) (ψ : PhiT) (c : PcR) : PcR := (c.1.map (fun χ => fun th => if b = 0 then ψ th ||| χ th else ψ th &&& χ th), c.2)
def pJo (rd : Nat → Nat → PcR) (b : Int32) (pl sg : Nat) : PcR := match (rd pl sg).1 with
  | none => (none, (rd pl sg).2)
  | some ψ => pJo2 b ψ (rd (rd pl sg).2.1 (rd pl sg).2.2)
noncomputable def pOv (txf : Nat → Nat) (ln : Nat) (K N b : Int32) (pl sg : Nat) : PcR := if (tvF txf ln K N pl).1 = -1 then (none, (tvF txf ln K N pl).2, sg) else if (tvF txf ln K N (tvF txf ln K N pl).2).1 = -1 then (none, (tvF txf ln K N (tvF txf ln K N pl).2).2, sg) else (some (fun th => relM b (th (tvF txf ln K N pl).1.toNatClampNeg) (th (tvF txf ln K N (tvF txf ln K N pl).2).1.toNatClampNeg)), (tvF txf ln K N (tvF txf ln K N pl).2).2, sg)
noncomputable def pcl (txf : Nat → Nat) (ln : Nat) (K N M : Int32) : Nat → Nat → Nat → PcR
  | 0, pl, sg => (none, pl, sg)
  | f + 1, pl, sg => if ¬ pl < ln ∨ ¬ sg < 30 ∨ isSg (txf pl) = false then (none, pl, sg)
    else if txf pl = 116 then pOp txf ln M (pl + 1) (sg + 1)
    else if txf pl = 112 then pSay txf ln M (pcl txf ln K N M f) (pl + 1) (sg + 1)
    else if txf pl = 126 then pTu (pcl txf ln K N M f (pl + 1) (sg + 1)) (-1)
    else if txf pl = 38 then pJo (pcl txf ln K N M f) 1 (pl + 1) (sg + 1)
    else if txf pl = 124 then pJo (pcl txf ln K N M f) 0 (pl + 1) (sg + 1)
    else pOv txf ln K N (nI (txf pl)) (pl + 1) (sg + 1)
theorem pOp_le : pl ≤ (pOp txf ln M pl sg).2.1 := by unfold pOp; split <;> exact takeF_le
theorem pTu_2 {c : PcR} {t : Int32} : (pTu c t).2 = c.2 := rfl
theorem pSay_le {rd : Nat → Nat → PcR} (hr : ∀ p s, p ≤ (rd p s).2.1) : pl ≤ (pSay txf ln M rd pl sg).2.1 := by
  unfold pSay; split
  · exact takeF_le
  · rw [pTu_2]; exact Nat.le_trans takeF_le (hr _ _)
theorem pJo_le {rd : Nat → Nat → PcR} {b : Int32} (hr : ∀ p s, p ≤ (rd p s).2.1) : pl ≤ (pJo rd b pl sg).2.1 := by
  unfold pJo; split
  · exact hr _ _
  · exact Nat.le_trans (hr _ _) (hr _ _)
theorem pOv_le {b : Int32} : pl ≤ (pOv txf ln K N b pl sg).2.1 := by
  unfold pOv; split
  · exact tvF_le
  · split <;> exact Nat.le_trans tvF_le tvF_le
theorem pcl_le : ∀ (f pl sg : Nat), pl ≤ (pcl txf ln K N M f pl sg).2.1
  | 0, _, _ => Nat.le_refl _
  | f + 1, pl, sg => by
    have ih := pcl_le f
    unfold pcl
    split
    · exact Nat.le_refl _
    · split
      · exact Nat.le_trans (Nat.le_succ _) pOp_le
      · split
        · exact Nat.le_trans (Nat.le_succ _) (pSay_le ih)
        · split
          · rw [pTu_2]; exact Nat.le_trans (Nat.le_succ _) (ih _ _)
          · split
            · exact Nat.le_trans (Nat.le_succ _) (pJo_le ih)
            · split
              · exact Nat.le_trans (Nat.le_succ _) (pJo_le ih)
              · exact Nat.le_trans (Nat.le_succ _) pOv_le
/-- the heap has grown, and is as it was below n -/
def Ext (h h2 : HP) (n n2 : Nat) : Prop := (∀ q, q < n → h2 q = h q) ∧ Dm h2 n2 ∧ n ≤ n2
theorem Ext.rf (hd : Dm h n) : Ext h h n n := ⟨fun _ _ => rfl, hd, Nat.le_refl _⟩
theorem Ext.trans {h h2 h3 : HP} {n n2 n3 : Nat} (a : Ext h h2 n n2) (b : Ext h2 h3 n2 n3) : Ext h h3 n n3 := ⟨fun q hq => (b.1 q (Nat.lt_of_lt_of_le hq a.2.2)).trans (a.1 q hq), b.2.1, Nat.le_trans a.2.2 b.2.2⟩
theorem Ext.push {e : va_E} (hd : Dm h n) : Ext h (hset h n e) n (n + 1) := by
  refine ⟨fun q hq => hset_n _ _ (by omega), fun q f hq => ?_, Nat.le_succ _⟩
  by_cases hqn : q = n
  · omega
  · rw [hset_n _ _ hqn] at hq
    exact Nat.lt_succ_of_lt (hd q f hq)
theorem Ext.ck {h2 : HP} {n2 : Nat} (hd : Dm h n) (a : Ext h h2 n n2) : CK h h2 := fun q ci fs _ hq => by rw [a.1 q (hd q _ hq)]; exact hq
/-- what a reading method of clues leaves -/
def RQ (h : HP) (n r tx ln : Nat) (K N M : Int32) (D : Nat) (c : PcR) : Option Value → HP → Nat → Prop := fun v H' n' => ∃ h2, H' = hR h2 r tx ln c.2.1 K N M c.2.2 ∧ Ext h h2 n n' ∧ ((c.1 = none ∧ v = some .null) ∨ ∃ φ y, c.1 = some φ ∧ v = some (.ref y) ∧ CR D h2 y φ)
/-- the ground on which a clue is read -/
def RG (E : EV) (h : HP) (n r tx ln : Nat) (txf : Nat → Nat) : Prop := RF E h r tx ln txf ∧ Dm h n ∧ r < n ∧ tx < n
theorem RG.ext {h2 : HP} {n2 : Nat} (G : RG E h n r tx ln txf) (a : Ext h h2 n n2) : RG E h2 n2 r tx ln txf := by
  obtain ⟨⟨g1, g2, g3, g4, g5⟩, g6, g7, g8⟩ := G
  exact ⟨⟨by rw [a.1 tx g8]; exact g1, g2, g3, g4, g5⟩, a.2.1, Nat.lt_of_lt_of_le g7 a.2.2, Nat.lt_of_lt_of_le g8 a.2.2⟩
theorem hR_push {e : va_E} (hq : r < n) : hset (hR h r tx ln pl K N M sg) n e = hR (hset h n e) r tx ln pl K N M sg := hset_comm _ _ _ (by omega)
theorem takeF_nI {low : Nat} {m : Nat} (hm : m < 2 ^ 31) (h : ¬ (takeF txf ln 48 0 (nI m - 1) pl).1 = -1) : ∃ j, j < m ∧ (takeF txf ln 48 0 (nI m - 1) pl).1 = nI j := by
  unfold takeF at h ⊢
  split at h
  · exact absurd rfl h
  · rename_i h1
    split at h
    · exact absurd rfl h
    · rename_i h2
      rw [if_neg h1, if_neg h2]
      have h3 : ¬ nI (txf pl) - 48 < 0 := fun q => h2 (Or.inl q)
      have h4 : nI (txf pl) - 48 ≤ nI m - 1 := Int32.not_lt.mp (fun q => h2 (Or.inr q))
      show ∃ j, j < m ∧ nI (txf pl) - 48 = nI j
      generalize nI (txf pl) - 48 = x at h3 h4
      cases m with
      | zero => exact absurd (Int32.lt_of_le_of_lt h4 (show nI 0 - 1 < 0 by decide)) h3
      | succ m =>
        rw [nI_pred] at h4
        obtain ⟨j, h5, h6⟩ := nI_of2 (n := m) (nI_toInt (by omega)) h3 h4
        exact ⟨j, by omega, h6⟩
theorem c_Rd_ofPerson {m D : Nat} (G : RG E h n r tx ln txf) (hpl : pl ≤ ln) (hm : m ≤ 3) : Ct E m_Rd_ofPerson 2 1 1 [.ref r] (hR h r tx ln pl K N (nI m) sg) n (RQ h n r tx ln K N (nI m) (D + 1) (pOp txf ln (nI m) pl sg)) := by
  obtain ⟨F, hdm, hrn, htn⟩ := G
  have hb : E.2.2.2.1 ≤ r := F.2.2.2.1
  refine Ct.go rfl rfl rfl ?_
  have hr := hR_r (h := h) (r := r) (tx := tx) (ln := ln) (pl := pl) (K := K) (N := N) (M := nI m) (sg := sg)
  refine j_aload_n d_Rd_ofPerson_0 rfl ?_
  refine j_bipush (v := 48) d_Rd_ofPerson_1 (by decide) ?_
  refine j_iconst (v := 0) d_Rd_ofPerson_3 (by decide) ?_
  refine j_aload_n d_Rd_ofPerson_4 rfl ?_
  refine j_get d_Rd_ofPerson_5 fl_Rd_34 (by first | assumption | exact hset_s _ _ _ | (rw [hset_n _ _ (by omega)]; first | assumption | exact hset_s _ _ _ | (rw [hset_n _ _ (by omega)]; first | assumption | exact hset_s _ _ _ | (rw [hset_n _ _ (by omega)]; first | assumption | exact hset_s _ _ _ | (rw [hset_n _ _ (by omega)]; first | assumption | exact hset_s _ _ _))))) rfl ?_
  refine j_iconst (v := 1) d_Rd_ofPerson_8 (by decide) ?_
  refine j_isub d_Rd_ofPerson_9 ?_
  refine j_callV (As := [.int 48, .int 0, .int (nI m - 1)]) d_Rd_ofPerson_10 cb_Rd_54 vv_Rd_take hr rfl rfl rfl rfl (Nat.le_of_ble_eq_true rfl) (by decide) (Nat.zero_le _) (Nat.zero_le _) (c_Rd_take F hpl) (fun v' h' n' q _ => ?_)
  obtain ⟨rfl, rfl, q3⟩ := q; have q3 := q3.symm; subst q3
  refine j_istore_n d_Rd_ofPerson_13 (by decide) ?_
  refine j_iload_n d_Rd_ofPerson_14 rfl ?_
  refine j_iconst (v := (-1)) d_Rd_ofPerson_15 (by decide) ?_
  refine j_icmp_ne (tgt := 23) d_Rd_ofPerson_16 (by decide) (fun c => ?_) (fun c => ?_)
  · obtain ⟨j, hj, ej⟩ := takeF_nI (low := 0) (by omega) c
    have e : pOp txf ln (nI m) pl sg = (some (fun _ => truthF j), (takeF txf ln 48 0 (nI m - 1) pl).2, sg) := by unfold pOp; rw [if_neg c, ej, nI_clamp (by omega)]
    rw [e]
    refine j_new (fs := [.int 0]) d_Rd_ofPerson_23 nw_Rd_83 (by decide) (by decide) (by decide) ?_
    refine j_dup d_Rd_ofPerson_26 rfl ?_
    refine j_iload_n d_Rd_ofPerson_27 rfl ?_
    rw [ej]
    refine j_callI (As := [.int (nI j)]) d_Rd_ofPerson_28 cb_Rd_85 iv_Op_init rfl rfl (Nat.le_of_ble_eq_true rfl) (by decide) (by decide) (by decide) (c_Op_init (by omega) (by omega)) (fun v' h' n' q _ => ?_)
    obtain ⟨rfl, rfl, q3⟩ := q; have q3 := q3.symm; subst q3
    refine j_aret d_Rd_ofPerson_31 rfl (Or.inl ⟨_, rfl⟩) rfl ⟨hset h n (oOp (truthF j)), hR_push hrn, Ext.push hdm, Or.inr ⟨_, n, rfl, rfl, Or.inr (Or.inl ⟨_, hset_s _ _ _, rfl⟩)⟩⟩
  · have e : pOp txf ln (nI m) pl sg = (none, (takeF txf ln 48 0 (nI m - 1) pl).2, sg) := by unfold pOp; rw [if_pos c]
    rw [e]
    refine j_null d_Rd_ofPerson_19 ?_
    refine j_goto (tgt := 31) d_Rd_ofPerson_20 (by decide) ?_
    exact j_aret d_Rd_ofPerson_31 rfl (Or.inl ⟨_, rfl⟩) rfl ⟨h, rfl, Ext.rf hdm, Or.inl ⟨rfl, rfl⟩⟩
theorem tvF_nI {k nn : Nat} (hk : k ≤ 3) (hn : nn ≤ 4) (h : ¬ (tvF txf ln (nI k) (nI nn) pl).1 = -1) : vp_in (tvF txf ln (nI k) (nI nn) pl).1 12 := by
  have key : ∀ (m : Nat) (zero : Int32) (p : Nat), m < 2 ^ 31 → ¬ (takeF txf ln zero 0 (nI m - 1) p).1 = -1 → ∃ j, j < m ∧ (takeF txf ln zero 0 (nI m - 1) p).1 = nI j := by
    intro m zero p hm h
    unfold takeF at h ⊢
    split at h
    · exact absurd rfl h
    · rename_i h1
      split at h
      · exact absurd rfl h
      · rename_i h2
        rw [if_neg h1, if_neg h2]
        have h3 : ¬ nI (txf p) - zero < 0 := fun q => h2 (Or.inl q)
        have h4 : nI (txf p) - zero ≤ nI m - 1 := Int32.not_lt.mp (fun q => h2 (Or.inr q))
        show ∃ j, j < m ∧ nI (txf p) - zero = nI j
        generalize nI (txf p) - zero = x at h3 h4
        cases m with
        | zero => exact absurd (Int32.lt_of_le_of_lt h4 (show nI 0 - 1 < 0 by decide)) h3
        | succ m =>
          rw [nI_pred] at h4
          obtain ⟨j, h5, h6⟩ := nI_of2 (n := m) (nI_toInt (by omega)) h3 h4
          exact ⟨j, by omega, h6⟩
  unfold tvF at h ⊢
  split at h
  · exact absurd rfl h
  · rename_i h1
    split at h
    · exact absurd rfl h
    · rename_i h2
      rw [if_neg h1, if_neg h2]
      obtain ⟨a, ha, ea⟩ := key k 97 pl (by omega) h1
      obtain ⟨b, hb, eb⟩ := key nn 48 _ (by omega) h2
      show vp_in (4 * _ + _) 12
      rw [ea, eb, nI_4]
      exact vp_in_nI (by omega) (by omega)
theorem c_Rd_ofValues {k nn D : Nat} {b : Int32} (G : RG E h n r tx ln txf) (hpl : pl ≤ ln) (hk : k ≤ 3) (hnn : nn ≤ 4) : Ct E m_Rd_ofValues 2 1 3 [.ref r, .int b] (hR h r tx ln pl (nI k) (nI nn) M sg) n (RQ h n r tx ln (nI k) (nI nn) M (D + 1) (pOv txf ln (nI k) (nI nn) b pl sg)) := by
  obtain ⟨F, hdm, hrn, htn⟩ := G
  have hb : E.2.2.2.1 ≤ r := F.2.2.2.1
  refine Ct.go rfl rfl rfl ?_
  have hr := hR_r (h := h) (r := r) (tx := tx) (ln := ln) (pl := pl) (K := nI k) (N := nI nn) (M := M) (sg := sg)
  refine j_aload_n d_Rd_ofValues_0 rfl ?_
  refine j_callV (As := []) d_Rd_ofValues_1 cb_Rd_101 vv_Rd_takeValue hr rfl rfl rfl rfl (Nat.le_of_ble_eq_true rfl) (by decide) (Nat.zero_le _) (Nat.zero_le _) (c_Rd_takeValue F hpl) (fun v' h' n' q _ => ?_)
  obtain ⟨rfl, rfl, q3⟩ := q; have q3 := q3.symm; subst q3
  have l1 : (tvF txf ln (nI k) (nI nn) pl).2 ≤ ln := tvF_ln hpl
  have hr2 := hR_r (h := h) (r := r) (tx := tx) (ln := ln) (pl := (tvF txf ln (nI k) (nI nn) pl).2) (K := nI k) (N := nI nn) (M := M) (sg := sg)
  refine j_istore_n d_Rd_ofValues_4 (by decide) ?_
  refine j_iload_n d_Rd_ofValues_5 rfl ?_
  refine j_iconst (v := (-1)) d_Rd_ofValues_6 (by decide) ?_
  refine j_icmp_ne (tgt := 12) d_Rd_ofValues_7 (by decide) (fun c => ?_) (fun c => ?_)
  · refine j_aload_n d_Rd_ofValues_12 rfl ?_
    refine j_callV (As := []) d_Rd_ofValues_13 cb_Rd_101 vv_Rd_takeValue hr2 rfl rfl rfl rfl (Nat.le_of_ble_eq_true rfl) (by decide) (Nat.zero_le _) (Nat.zero_le _) (c_Rd_takeValue F l1) (fun v' h' n' q _ => ?_)
    obtain ⟨rfl, rfl, q3⟩ := q; have q3 := q3.symm; subst q3
    refine j_istore_n d_Rd_ofValues_16 (by decide) ?_
    refine j_iload_n d_Rd_ofValues_17 rfl ?_
    refine j_iconst (v := (-1)) d_Rd_ofValues_18 (by decide) ?_
    refine j_icmp_ne (tgt := 26) d_Rd_ofValues_19 (by decide) (fun c2 => ?_) (fun c2 => ?_)
    · have e : pOv txf ln (nI k) (nI nn) b pl sg = (some (fun th => relM b (th (tvF txf ln (nI k) (nI nn) pl).1.toNatClampNeg) (th (tvF txf ln (nI k) (nI nn) (tvF txf ln (nI k) (nI nn) pl).2).1.toNatClampNeg)), (tvF txf ln (nI k) (nI nn) (tvF txf ln (nI k) (nI nn) pl).2).2, sg) := by unfold pOv; rw [if_neg c, if_neg c2]
      rw [e]
      refine j_new (fs := [.int 0, .int 0, .int 0]) d_Rd_ofValues_26 nw_Rd_105 (by decide) (by decide) (by decide) ?_
      refine j_dup d_Rd_ofValues_29 rfl ?_
      refine j_iload_n d_Rd_ofValues_30 rfl ?_
      refine j_iload_n d_Rd_ofValues_31 rfl ?_
      refine j_iload_n d_Rd_ofValues_32 rfl ?_
      refine j_callI (As := [.int b, .int _, .int _]) d_Rd_ofValues_33 cb_Rd_107 iv_Ov_init rfl rfl (Nat.le_of_ble_eq_true rfl) (by decide) (by decide) (by decide) (c_Ov_init (by omega)) (fun v' h' n' q _ => ?_)
      obtain ⟨rfl, rfl, q3⟩ := q; have q3 := q3.symm; subst q3
      refine j_aret d_Rd_ofValues_36 rfl (Or.inl ⟨_, rfl⟩) rfl ⟨hset h n (oOv b _ _), hR_push hrn, Ext.push hdm, Or.inr ⟨_, n, rfl, rfl, Or.inl ⟨_, _, _, hset_s _ _ _, tvF_nI hk hnn c, tvF_nI hk hnn c2, rfl⟩⟩⟩
    · have e : pOv txf ln (nI k) (nI nn) b pl sg = (none, (tvF txf ln (nI k) (nI nn) (tvF txf ln (nI k) (nI nn) pl).2).2, sg) := by unfold pOv; rw [if_neg c, if_pos c2]
      rw [e]
      refine j_null d_Rd_ofValues_22 ?_
      refine j_goto (tgt := 36) d_Rd_ofValues_23 (by decide) ?_
      exact j_aret d_Rd_ofValues_36 rfl (Or.inl ⟨_, rfl⟩) rfl ⟨h, rfl, Ext.rf hdm, Or.inl ⟨rfl, rfl⟩⟩
  · have e : pOv txf ln (nI k) (nI nn) b pl sg = (none, (tvF txf ln (nI k) (nI nn) pl).2, sg) := by unfold pOv; rw [if_pos c]
    rw [e]
    refine j_null d_Rd_ofValues_10 ?_
    exact j_aret d_Rd_ofValues_11 rfl (Or.inl ⟨_, rfl⟩) rfl ⟨h, rfl, Ext.rf hdm, Or.inl ⟨rfl, rfl⟩⟩
end CLP

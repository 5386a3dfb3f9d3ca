section RDR
variable {E : EV} {h : HP} {n r tx ln pl sg : Nat} {K N M : Int32} {txf : Nat → Nat}
def hR (h : HP) (r tx ln pl : Nat) (K N M : Int32) (sg : Nat) : HP := hset h r (oRd tx (nI ln) (nI pl) K N M (nI sg))
theorem hR_r : hR h r tx ln pl K N M sg r = some (oRd tx (nI ln) (nI pl) K N M (nI sg)) := hset_s _ _ _
theorem hR_x {q : Nat} (hq : q ≠ r) : hR h r tx ln pl K N M sg q = h q := hset_n _ _ hq
theorem hR_s {pl' sg' : Nat} {K' N' M' : Int32} : hset (hR h r tx ln pl K N M sg) r (oRd tx (nI ln) (nI pl') K' N' M' (nI sg')) = hR h r tx ln pl' K' N' M' sg' := hset_hset _ _ _ _
/-- take: a number between low and high, its byte zero for 0; the place behind it -/
def takeF (txf : Nat → Nat) (ln : Nat) (zero low high : Int32) (pl : Nat) : Int32 × Nat := if ln ≤ pl then (-1, pl) else if nI (txf pl) - zero < low ∨ high < nI (txf pl) - zero then (-1, pl) else (nI (txf pl) - zero, pl + 1)
theorem takeF_le {zero low high : Int32} : pl ≤ (takeF txf ln zero low high pl).2 := by
  unfold takeF
  split
  · exact Nat.le_refl _
  · split
    · exact Nat.le_refl _
    · exact Nat.le_succ _
theorem takeF_ln {zero low high : Int32} (h : pl ≤ ln) : (takeF txf ln zero low high pl).2 ≤ ln := by
  unfold takeF
  split
  · exact h
  · split
    · exact h
    · show pl + 1 ≤ ln; omega
/-- the reader's own facts -/
def RF (E : EV) (h : HP) (r tx ln : Nat) (txf : Nat → Nat) : Prop := h tx = some (arI E 0 300 (nA txf)) ∧ tx ≠ r ∧ ln ≤ 300 ∧ E.2.2.2.1 ≤ r ∧ ∀ j, txf j < 256
theorem c_Rd_take {zero low high : Int32} (F : RF E h r tx ln txf) (hpl : pl ≤ ln) : Ct E m_Rd_take 0 0 0 [.ref r, .int zero, .int low, .int high] (hR h r tx ln pl K N M sg) n (Rt (some (.int (takeF txf ln zero low high pl).1)) (hR h r tx ln (takeF txf ln zero low high pl).2 K N M sg) n) := by
  obtain ⟨h1, h2, h3, h4, h5⟩ := F
  refine Ct.go rfl rfl rfl ?_
  have hr := hR_r (h := h) (r := r) (tx := tx) (ln := ln) (pl := pl) (K := K) (N := N) (M := M) (sg := sg)
  have ht : hR h r tx ln pl K N M sg tx = some (arI E 0 300 (nA txf)) := (hR_x h2).trans h1
  refine j_aload_n d_Rd_take_0 rfl ?_
  refine j_get d_Rd_take_1 fl_Rd_19 (by first | assumption | exact hset_s _ _ _ | (rw [hset_n _ _ (by omega)]; first | assumption | exact hset_s _ _ _ | (rw [hset_n _ _ (by omega)]; first | assumption | exact hset_s _ _ _ | (rw [hset_n _ _ (by omega)]; first | assumption | exact hset_s _ _ _ | (rw [hset_n _ _ (by omega)]; first | assumption | exact hset_s _ _ _))))) rfl ?_
  refine j_aload_n d_Rd_take_4 rfl ?_
  refine j_get d_Rd_take_5 fl_Rd_15 (by first | assumption | exact hset_s _ _ _ | (rw [hset_n _ _ (by omega)]; first | assumption | exact hset_s _ _ _ | (rw [hset_n _ _ (by omega)]; first | assumption | exact hset_s _ _ _ | (rw [hset_n _ _ (by omega)]; first | assumption | exact hset_s _ _ _ | (rw [hset_n _ _ (by omega)]; first | assumption | exact hset_s _ _ _))))) rfl ?_
  refine j_icmp_lt (tgt := 13) d_Rd_take_8 (by decide) (fun c => ?_) (fun c => ?_)
  · have hlt : pl < ln := (nI_ltI (by omega) (by omega)).mp c
    refine j_aload_n d_Rd_take_13 rfl ?_
    refine j_get d_Rd_take_14 fl_Rd_9 (by first | assumption | exact hset_s _ _ _ | (rw [hset_n _ _ (by omega)]; first | assumption | exact hset_s _ _ _ | (rw [hset_n _ _ (by omega)]; first | assumption | exact hset_s _ _ _ | (rw [hset_n _ _ (by omega)]; first | assumption | exact hset_s _ _ _ | (rw [hset_n _ _ (by omega)]; first | assumption | exact hset_s _ _ _))))) rfl ?_
    refine j_aload_n d_Rd_take_17 rfl ?_
    refine j_get d_Rd_take_18 fl_Rd_19 (by first | assumption | exact hset_s _ _ _ | (rw [hset_n _ _ (by omega)]; first | assumption | exact hset_s _ _ _ | (rw [hset_n _ _ (by omega)]; first | assumption | exact hset_s _ _ _ | (rw [hset_n _ _ (by omega)]; first | assumption | exact hset_s _ _ _ | (rw [hset_n _ _ (by omega)]; first | assumption | exact hset_s _ _ _))))) rfl ?_
    refine j_iald (t := 0) (x := nI (txf pl)) d_Rd_take_21 rfl ht (vp_in_nI (by omega) (by omega)) (by rw [nI_clamp (by omega)]; rfl) ?_
    refine j_iload_n d_Rd_take_22 rfl ?_
    refine j_isub d_Rd_take_23 ?_
    refine j_istore d_Rd_take_24 (by decide) ?_
    refine j_iload d_Rd_take_26 rfl ?_
    refine j_iload_n d_Rd_take_28 rfl ?_
    refine j_icmp_lt (tgt := 38) d_Rd_take_29 (by decide) (fun c2 => ?_) (fun c2 => ?_)
    · have e : takeF txf ln zero low high pl = (-1, pl) := by unfold takeF; rw [if_neg (by omega), if_pos (Or.inl c2)]
      rw [e]
      refine j_iconst (v := (-1)) d_Rd_take_38 (by decide) ?_
      exact j_iret d_Rd_take_39 rfl ⟨rfl, rfl, rfl⟩
    · refine j_iload d_Rd_take_32 rfl ?_
      refine j_iload_n d_Rd_take_34 rfl ?_
      refine j_icmp_le (tgt := 40) d_Rd_take_35 (by decide) (fun c3 => ?_) (fun c3 => ?_)
      · have e : takeF txf ln zero low high pl = (nI (txf pl) - zero, pl + 1) := by unfold takeF; rw [if_neg (by omega), if_neg (fun q => q.elim c2 (fun q => absurd q (Int32.not_lt.mpr c3)))]
        rw [e]
        refine j_aload_n d_Rd_take_40 rfl ?_
        refine j_dup d_Rd_take_41 rfl ?_
        refine j_get d_Rd_take_42 fl_Rd_19 (by first | assumption | exact hset_s _ _ _ | (rw [hset_n _ _ (by omega)]; first | assumption | exact hset_s _ _ _ | (rw [hset_n _ _ (by omega)]; first | assumption | exact hset_s _ _ _ | (rw [hset_n _ _ (by omega)]; first | assumption | exact hset_s _ _ _ | (rw [hset_n _ _ (by omega)]; first | assumption | exact hset_s _ _ _))))) rfl ?_
        refine j_iconst (v := 1) d_Rd_take_45 (by decide) ?_
        refine j_iadd d_Rd_take_46 ?_
        refine j_put d_Rd_take_47 fl_Rd_19 fp_Rd (Or.inl rfl) hr h4 rfl rfl (Nat.le_of_ble_eq_true rfl) ?_
        refine J.conv (L := _) rfl (show _ = hR h r tx ln (pl + 1) K N M sg from ?_) ?_
        · show hset _ r (oRd tx (nI ln) (nI pl + 1) K N M (nI sg)) = _
          rw [nI_1, hR_s]
        · refine j_iload d_Rd_take_50 rfl ?_
          exact j_iret d_Rd_take_52 rfl ⟨rfl, rfl, rfl⟩
      · have e : takeF txf ln zero low high pl = (-1, pl) := by unfold takeF; rw [if_neg (by omega), if_pos (Or.inr (Int32.not_le.mp c3))]
        rw [e]
        refine j_iconst (v := (-1)) d_Rd_take_38 (by decide) ?_
        exact j_iret d_Rd_take_39 rfl ⟨rfl, rfl, rfl⟩
  · have hge : ln ≤ pl := Nat.not_lt.mp (fun q => c ((nI_ltI (by omega) (by omega)).mpr q))
    have e : takeF txf ln zero low high pl = (-1, pl) := by unfold takeF; rw [if_pos hge]
    rw [e]
    refine j_iconst (v := (-1)) d_Rd_take_11 (by decide) ?_
    exact j_iret d_Rd_take_12 rfl ⟨rfl, rfl, rfl⟩
/-- a semicolon, and the place behind it -/
def semF (txf : Nat → Nat) (ln pl : Nat) : Int32 × Nat := (if (takeF txf ln 59 0 0 pl).1 = -1 then 0 else 1, (takeF txf ln 59 0 0 pl).2)
theorem c_Rd_passSemicolon (F : RF E h r tx ln txf) (hpl : pl ≤ ln) : Ct E m_Rd_passSemicolon 1 0 0 [.ref r] (hR h r tx ln pl K N M sg) n (Rt (some (.int (semF txf ln pl).1)) (hR h r tx ln (semF txf ln pl).2 K N M sg) n) := by
  refine Ct.go rfl rfl rfl ?_
  have hr := hR_r (h := h) (r := r) (tx := tx) (ln := ln) (pl := pl) (K := K) (N := N) (M := M) (sg := sg)
  refine j_aload_n d_Rd_passSemicolon_0 rfl ?_
  refine j_bipush (v := 59) d_Rd_passSemicolon_1 (by decide) ?_
  refine j_iconst (v := 0) d_Rd_passSemicolon_3 (by decide) ?_
  refine j_iconst (v := 0) d_Rd_passSemicolon_4 (by decide) ?_
  refine j_callV (As := [.int 59, .int 0, .int 0]) d_Rd_passSemicolon_5 cb_Rd_54 vv_Rd_take hr rfl rfl rfl rfl (Nat.le_of_ble_eq_true rfl) (by decide) (Nat.zero_le _) (Nat.zero_le _) (c_Rd_take F hpl) (fun v' h' n' q _ => ?_)
  obtain ⟨rfl, rfl, q3⟩ := q; have q3 := q3.symm; subst q3
  refine j_iconst (v := (-1)) d_Rd_passSemicolon_8 (by decide) ?_
  refine j_icmp_eq (tgt := 16) d_Rd_passSemicolon_9 (by decide) (fun c => ?_) (fun c => ?_)
  · refine j_iconst (v := 0) d_Rd_passSemicolon_16 (by decide) ?_
    exact j_zret d_Rd_passSemicolon_17 rfl (Or.inl rfl) ⟨by unfold semF; rw [if_pos c], rfl, rfl⟩
  · refine j_iconst (v := 1) d_Rd_passSemicolon_12 (by decide) ?_
    refine j_goto (tgt := 17) d_Rd_passSemicolon_13 (by decide) ?_
    exact j_zret d_Rd_passSemicolon_17 rfl (Or.inr rfl) ⟨by unfold semF; rw [if_neg c], rfl, rfl⟩
/-- the value behind a letter: 4 times the kind and the digit -/
def tvF (txf : Nat → Nat) (ln : Nat) (K N : Int32) (pl : Nat) : Int32 × Nat :=
  if (takeF txf ln 97 0 (K - 1) pl).1 = -1 then (-1, (takeF txf ln 97 0 (K - 1) pl).2)
  else if (takeF txf ln 48 0 (N - 1) (takeF txf ln 97 0 (K - 1) pl).2).1 = -1 then (-1, (takeF txf ln 48 0 (N - 1) (takeF txf ln 97 0 (K - 1) pl).2).2)
  else (4 * (takeF txf ln 97 0 (K - 1) pl).1 + (takeF txf ln 48 0 (N - 1) (takeF txf ln 97 0 (K - 1) pl).2).1, (takeF txf ln 48 0 (N - 1) (takeF txf ln 97 0 (K - 1) pl).2).2)
theorem tvF_le : pl ≤ (tvF txf ln K N pl).2 := by
  have h1 := takeF_le (txf := txf) (ln := ln) (pl := pl) (zero := 97) (low := 0) (high := K - 1)
  have h2 := takeF_le (txf := txf) (ln := ln) (pl := (takeF txf ln 97 0 (K - 1) pl).2) (zero := 48) (low := 0) (high := N - 1)
  unfold tvF
  split
  · exact h1
  · split <;> exact Nat.le_trans h1 h2
theorem tvF_ln (h : pl ≤ ln) : (tvF txf ln K N pl).2 ≤ ln := by
  have h1 := takeF_ln (txf := txf) (zero := 97) (low := 0) (high := K - 1) h
  have h2 := takeF_ln (txf := txf) (zero := 48) (low := 0) (high := N - 1) h1
  unfold tvF
  split
  · exact h1
  · split <;> exact h2
theorem c_Rd_takeValue (F : RF E h r tx ln txf) (hpl : pl ≤ ln) : Ct E m_Rd_takeValue 1 0 0 [.ref r] (hR h r tx ln pl K N M sg) n (Rt (some (.int (tvF txf ln K N pl).1)) (hR h r tx ln (tvF txf ln K N pl).2 K N M sg) n) := by
  refine Ct.go rfl rfl rfl ?_
  have hr := hR_r (h := h) (r := r) (tx := tx) (ln := ln) (pl := pl) (K := K) (N := N) (M := M) (sg := sg)
  refine j_aload_n d_Rd_takeValue_0 rfl ?_
  refine j_bipush (v := 97) d_Rd_takeValue_1 (by decide) ?_
  refine j_iconst (v := 0) d_Rd_takeValue_3 (by decide) ?_
  refine j_aload_n d_Rd_takeValue_4 rfl ?_
  refine j_get d_Rd_takeValue_5 fl_Rd_31 (by first | assumption | exact hset_s _ _ _ | (rw [hset_n _ _ (by omega)]; first | assumption | exact hset_s _ _ _ | (rw [hset_n _ _ (by omega)]; first | assumption | exact hset_s _ _ _ | (rw [hset_n _ _ (by omega)]; first | assumption | exact hset_s _ _ _ | (rw [hset_n _ _ (by omega)]; first | assumption | exact hset_s _ _ _))))) rfl ?_
  refine j_iconst (v := 1) d_Rd_takeValue_8 (by decide) ?_
  refine j_isub d_Rd_takeValue_9 ?_
  refine j_callV (As := [.int 97, .int 0, .int (K - 1)]) d_Rd_takeValue_10 cb_Rd_54 vv_Rd_take hr rfl rfl rfl rfl (Nat.le_of_ble_eq_true rfl) (by decide) (Nat.zero_le _) (Nat.zero_le _) (c_Rd_take F hpl) (fun v' h' n' q _ => ?_)
  obtain ⟨rfl, rfl, q3⟩ := q; have q3 := q3.symm; subst q3
  have h1 := takeF_ln (txf := txf) (zero := 97) (low := 0) (high := K - 1) hpl
  have hr2 := hR_r (h := h) (r := r) (tx := tx) (ln := ln) (pl := (takeF txf ln 97 0 (K - 1) pl).2) (K := K) (N := N) (M := M) (sg := sg)
  unfold tvF
  refine j_istore_n d_Rd_takeValue_13 (by decide) ?_
  refine j_iload_n d_Rd_takeValue_14 rfl ?_
  refine j_iconst (v := (-1)) d_Rd_takeValue_15 (by decide) ?_
  refine j_icmp_ne (tgt := 21) d_Rd_takeValue_16 (by decide) (fun c => ?_) (fun c => ?_)
  · rw [if_neg c]
    refine j_aload_n d_Rd_takeValue_21 rfl ?_
    refine j_bipush (v := 48) d_Rd_takeValue_22 (by decide) ?_
    refine j_iconst (v := 0) d_Rd_takeValue_24 (by decide) ?_
    refine j_aload_n d_Rd_takeValue_25 rfl ?_
    refine j_get d_Rd_takeValue_26 fl_Rd_28 (by first | assumption | exact hset_s _ _ _ | (rw [hset_n _ _ (by omega)]; first | assumption | exact hset_s _ _ _ | (rw [hset_n _ _ (by omega)]; first | assumption | exact hset_s _ _ _ | (rw [hset_n _ _ (by omega)]; first | assumption | exact hset_s _ _ _ | (rw [hset_n _ _ (by omega)]; first | assumption | exact hset_s _ _ _))))) rfl ?_
    refine j_iconst (v := 1) d_Rd_takeValue_29 (by decide) ?_
    refine j_isub d_Rd_takeValue_30 ?_
    refine j_callV (As := [.int 48, .int 0, .int (N - 1)]) d_Rd_takeValue_31 cb_Rd_54 vv_Rd_take hr2 rfl rfl rfl rfl (Nat.le_of_ble_eq_true rfl) (by decide) (Nat.zero_le _) (Nat.zero_le _) (c_Rd_take F h1) (fun v' h' n' q _ => ?_)
    obtain ⟨rfl, rfl, q3⟩ := q; have q3 := q3.symm; subst q3
    refine j_istore_n d_Rd_takeValue_34 (by decide) ?_
    refine j_iload_n d_Rd_takeValue_35 rfl ?_
    refine j_iconst (v := (-1)) d_Rd_takeValue_36 (by decide) ?_
    refine j_icmp_ne (tgt := 44) d_Rd_takeValue_37 (by decide) (fun c2 => ?_) (fun c2 => ?_)
    · rw [if_neg c2]
      refine j_iconst (v := 4) d_Rd_takeValue_44 (by decide) ?_
      refine j_iload_n d_Rd_takeValue_45 rfl ?_
      refine j_imul d_Rd_takeValue_46 ?_
      refine j_iload_n d_Rd_takeValue_47 rfl ?_
      refine j_iadd d_Rd_takeValue_48 ?_
      exact j_iret d_Rd_takeValue_49 rfl ⟨rfl, rfl, rfl⟩
    · rw [if_pos c2]
      refine j_iconst (v := (-1)) d_Rd_takeValue_40 (by decide) ?_
      refine j_goto (tgt := 49) d_Rd_takeValue_41 (by decide) ?_
      exact j_iret d_Rd_takeValue_49 rfl ⟨rfl, rfl, rfl⟩
  · rw [if_pos c]
    refine j_iconst (v := (-1)) d_Rd_takeValue_19 (by decide) ?_
    exact j_iret d_Rd_takeValue_20 rfl ⟨rfl, rfl, rfl⟩
theorem c_Rd_init (h0 : E.2.2.2.1 ≤ n) : Ct E m_Rd_init 1 0 0 [.ref n, .ref tx, .int (nI ln)] (hset h n (.inr (8, [.null, .int 0, .int 0, .int 0, .int 0, .int 0, .int 0]))) (n + 1) (Rt none (hR h n tx ln 0 0 0 0 0) (n + 1)) := by
  refine Ct.go rfl rfl rfl ?_
  refine j_aload_n d_Rd_init_0 rfl ?_
  refine j_obj d_Rd_init_1 ob_Rd_3 obi obc (by decide) (by decide) ?_
  refine j_aload_n d_Rd_init_4 rfl ?_
  refine j_aload_n d_Rd_init_5 rfl ?_
  refine j_put d_Rd_init_6 fl_Rd_9 fp_Rd (Or.inr ⟨rfl, rfl, rfl⟩) (by first | assumption | exact hset_s _ _ _ | (rw [hset_n _ _ (by omega)]; first | assumption | exact hset_s _ _ _ | (rw [hset_n _ _ (by omega)]; first | assumption | exact hset_s _ _ _ | (rw [hset_n _ _ (by omega)]; first | assumption | exact hset_s _ _ _ | (rw [hset_n _ _ (by omega)]; first | assumption | exact hset_s _ _ _))))) (by omega) rfl rfl (Nat.le_of_ble_eq_true rfl) ?_
  refine j_aload_n d_Rd_init_9 rfl ?_
  refine j_iload_n d_Rd_init_10 rfl ?_
  refine j_put d_Rd_init_11 fl_Rd_15 fp_Rd (Or.inr ⟨rfl, rfl, rfl⟩) (by first | assumption | exact hset_s _ _ _ | (rw [hset_n _ _ (by omega)]; first | assumption | exact hset_s _ _ _ | (rw [hset_n _ _ (by omega)]; first | assumption | exact hset_s _ _ _ | (rw [hset_n _ _ (by omega)]; first | assumption | exact hset_s _ _ _ | (rw [hset_n _ _ (by omega)]; first | assumption | exact hset_s _ _ _))))) (by omega) rfl rfl (Nat.le_of_ble_eq_true rfl) ?_
  exact j_vret d_Rd_init_14 rfl ⟨rfl, by simp only [hset_hset]; rfl, rfl⟩
/-- the head: the numbers as far as they were read, and whether it is there -/
def hd4 (a b c d : Int32 × Nat) : Int32 × Int32 × Int32 × Int32 × Nat := (d.1, a.1, b.1, c.1, d.2)
def hd3 (txf : Nat → Nat) (ln : Nat) (a b c : Int32 × Nat) : Int32 × Int32 × Int32 × Int32 × Nat := if c.1 = -1 then (0, a.1, b.1, c.1, c.2) else hd4 a b c (semF txf ln c.2)
def hd2 (txf : Nat → Nat) (ln : Nat) (a b : Int32 × Nat) : Int32 × Int32 × Int32 × Int32 × Nat := if b.1 = -1 then (0, a.1, b.1, 0, b.2) else hd3 txf ln a b (takeF txf ln 48 0 3 b.2)
def hd1 (txf : Nat → Nat) (ln : Nat) (a : Int32 × Nat) : Int32 × Int32 × Int32 × Int32 × Nat := if a.1 = -1 then (0, a.1, 0, 0, a.2) else hd2 txf ln a (takeF txf ln 48 0 3 a.2)
def hdF (txf : Nat → Nat) (ln : Nat) : Int32 × Int32 × Int32 × Int32 × Nat := hd1 txf ln (takeF txf ln 48 1 4 0)
theorem semF_01 {pl : Nat} : (semF txf ln pl).1 = 0 ∨ (semF txf ln pl).1 = 1 := by
  unfold semF; dsimp only; split
  · exact Or.inl rfl
  · exact Or.inr rfl
theorem c_Rd_passHead (F : RF E h r tx ln txf) : Ct E m_Rd_passHead 2 0 0 [.ref r] (hR h r tx ln 0 0 0 0 0) n (Rt (some (.int (hdF txf ln).1)) (hR h r tx ln (hdF txf ln).2.2.2.2 (hdF txf ln).2.2.1 (hdF txf ln).2.1 (hdF txf ln).2.2.2.1 0) n) := by
  have hb : E.2.2.2.1 ≤ r := F.2.2.2.1
  refine Ct.go rfl rfl rfl ?_
  have hr := hR_r (h := h) (r := r) (tx := tx) (ln := ln) (pl := 0) (K := 0) (N := 0) (M := 0) (sg := 0)
  refine j_aload_n d_Rd_passHead_0 rfl ?_
  refine j_aload_n d_Rd_passHead_1 rfl ?_
  refine j_bipush (v := 48) d_Rd_passHead_2 (by decide) ?_
  refine j_iconst (v := 1) d_Rd_passHead_4 (by decide) ?_
  refine j_iconst (v := 4) d_Rd_passHead_5 (by decide) ?_
  refine j_callV (As := [.int 48, .int 1, .int 4]) d_Rd_passHead_6 cb_Rd_54 vv_Rd_take hr rfl rfl rfl rfl (Nat.le_of_ble_eq_true rfl) (d' := 0) (by decide) (Nat.zero_le _) (Nat.zero_le _) (c_Rd_take F (Nat.zero_le _)) (fun v' h' n' q _ => ?_)
  obtain ⟨rfl, rfl, q3⟩ := q; have q3 := q3.symm; subst q3
  have l1 : (takeF txf ln 48 1 4 0).2 ≤ ln := takeF_ln (Nat.zero_le _)
  unfold hdF
  generalize takeF txf ln 48 1 4 0 = a at l1 ⊢
  refine j_put d_Rd_passHead_9 fl_Rd_28 fp_Rd (Or.inl rfl) hR_r hb rfl rfl (Nat.le_of_ble_eq_true rfl) ?_
  refine J.conv (L := _) rfl (show _ = hR h r tx ln a.2 0 a.1 0 0 from hR_s) ?_
  have hr := hR_r (h := h) (r := r) (tx := tx) (ln := ln) (pl := a.2) (K := 0) (N := a.1) (M := 0) (sg := 0)
  refine j_aload_n d_Rd_passHead_12 rfl ?_
  refine j_get d_Rd_passHead_13 fl_Rd_28 (by first | assumption | exact hset_s _ _ _ | (rw [hset_n _ _ (by omega)]; first | assumption | exact hset_s _ _ _ | (rw [hset_n _ _ (by omega)]; first | assumption | exact hset_s _ _ _ | (rw [hset_n _ _ (by omega)]; first | assumption | exact hset_s _ _ _ | (rw [hset_n _ _ (by omega)]; first | assumption | exact hset_s _ _ _))))) rfl ?_
  refine j_iconst (v := (-1)) d_Rd_passHead_16 (by decide) ?_
  refine j_icmp_ne (tgt := 22) d_Rd_passHead_17 (by decide) (fun c => ?_) (fun c => ?_)
  · rw [show hd1 txf ln a = hd2 txf ln a (takeF txf ln 48 0 3 a.2) from if_neg c]
    refine j_aload_n d_Rd_passHead_22 rfl ?_
    refine j_aload_n d_Rd_passHead_23 rfl ?_
    refine j_bipush (v := 48) d_Rd_passHead_24 (by decide) ?_
    refine j_iconst (v := 0) d_Rd_passHead_26 (by decide) ?_
    refine j_iconst (v := 3) d_Rd_passHead_27 (by decide) ?_
    refine j_callV (As := [.int 48, .int 0, .int 3]) d_Rd_passHead_28 cb_Rd_54 vv_Rd_take hr rfl rfl rfl rfl (Nat.le_of_ble_eq_true rfl) (d' := 0) (by decide) (Nat.zero_le _) (Nat.zero_le _) (c_Rd_take F l1) (fun v' h' n' q _ => ?_)
    obtain ⟨rfl, rfl, q3⟩ := q; have q3 := q3.symm; subst q3
    have l2 : (takeF txf ln 48 0 3 a.2).2 ≤ ln := takeF_ln l1
    generalize takeF txf ln 48 0 3 a.2 = b at l2 ⊢
    refine j_put d_Rd_passHead_31 fl_Rd_31 fp_Rd (Or.inl rfl) hR_r hb rfl rfl (Nat.le_of_ble_eq_true rfl) ?_
    refine J.conv (L := _) rfl (show _ = hR h r tx ln b.2 b.1 a.1 0 0 from hR_s) ?_
    have hr := hR_r (h := h) (r := r) (tx := tx) (ln := ln) (pl := b.2) (K := b.1) (N := a.1) (M := 0) (sg := 0)
    refine j_aload_n d_Rd_passHead_34 rfl ?_
    refine j_get d_Rd_passHead_35 fl_Rd_31 (by first | assumption | exact hset_s _ _ _ | (rw [hset_n _ _ (by omega)]; first | assumption | exact hset_s _ _ _ | (rw [hset_n _ _ (by omega)]; first | assumption | exact hset_s _ _ _ | (rw [hset_n _ _ (by omega)]; first | assumption | exact hset_s _ _ _ | (rw [hset_n _ _ (by omega)]; first | assumption | exact hset_s _ _ _))))) rfl ?_
    refine j_iconst (v := (-1)) d_Rd_passHead_38 (by decide) ?_
    refine j_icmp_ne (tgt := 44) d_Rd_passHead_39 (by decide) (fun c2 => ?_) (fun c2 => ?_)
    · rw [show hd2 txf ln a b = hd3 txf ln a b (takeF txf ln 48 0 3 b.2) from if_neg c2]
      refine j_aload_n d_Rd_passHead_44 rfl ?_
      refine j_aload_n d_Rd_passHead_45 rfl ?_
      refine j_bipush (v := 48) d_Rd_passHead_46 (by decide) ?_
      refine j_iconst (v := 0) d_Rd_passHead_48 (by decide) ?_
      refine j_iconst (v := 3) d_Rd_passHead_49 (by decide) ?_
      refine j_callV (As := [.int 48, .int 0, .int 3]) d_Rd_passHead_50 cb_Rd_54 vv_Rd_take hr rfl rfl rfl rfl (Nat.le_of_ble_eq_true rfl) (d' := 0) (by decide) (Nat.zero_le _) (Nat.zero_le _) (c_Rd_take F l2) (fun v' h' n' q _ => ?_)
      obtain ⟨rfl, rfl, q3⟩ := q; have q3 := q3.symm; subst q3
      have l3 : (takeF txf ln 48 0 3 b.2).2 ≤ ln := takeF_ln l2
      generalize takeF txf ln 48 0 3 b.2 = e at l3 ⊢
      refine j_put d_Rd_passHead_53 fl_Rd_34 fp_Rd (Or.inl rfl) hR_r hb rfl rfl (Nat.le_of_ble_eq_true rfl) ?_
      refine J.conv (L := _) rfl (show _ = hR h r tx ln e.2 b.1 a.1 e.1 0 from hR_s) ?_
      have hr := hR_r (h := h) (r := r) (tx := tx) (ln := ln) (pl := e.2) (K := b.1) (N := a.1) (M := e.1) (sg := 0)
      refine j_aload_n d_Rd_passHead_56 rfl ?_
      refine j_get d_Rd_passHead_57 fl_Rd_34 (by first | assumption | exact hset_s _ _ _ | (rw [hset_n _ _ (by omega)]; first | assumption | exact hset_s _ _ _ | (rw [hset_n _ _ (by omega)]; first | assumption | exact hset_s _ _ _ | (rw [hset_n _ _ (by omega)]; first | assumption | exact hset_s _ _ _ | (rw [hset_n _ _ (by omega)]; first | assumption | exact hset_s _ _ _))))) rfl ?_
      refine j_iconst (v := (-1)) d_Rd_passHead_60 (by decide) ?_
      refine j_icmp_eq (tgt := 75) d_Rd_passHead_61 (by decide) (fun c3 => ?_) (fun c3 => ?_)
      · rw [show hd3 txf ln a b e = (0, a.1, b.1, e.1, e.2) from if_pos c3]
        refine j_iconst (v := 0) d_Rd_passHead_75 (by decide) ?_
        exact j_zret d_Rd_passHead_76 rfl (Or.inl rfl) ⟨rfl, rfl, rfl⟩
      · rw [show hd3 txf ln a b e = hd4 a b e (semF txf ln e.2) from if_neg c3]
        refine j_aload_n d_Rd_passHead_64 rfl ?_
        refine j_callV (As := []) d_Rd_passHead_65 cb_Rd_47 vv_Rd_passSemicolon hr rfl rfl rfl rfl (Nat.le_of_ble_eq_true rfl) (d' := 1) (by decide) (Nat.zero_le _) (Nat.zero_le _) (c_Rd_passSemicolon F l3) (fun v' h' n' q _ => ?_)
        obtain ⟨rfl, rfl, q3⟩ := q; have q3 := q3.symm; subst q3
        have h01 := semF_01 (txf := txf) (ln := ln) (pl := e.2)
        have k4 : ∀ g : Int32 × Nat, (g.1 = 0 ∨ g.1 = 1) → J E m_Rd_passHead 2 0 0 68 (lv_args 0 [.ref r]) [.int g.1] (hR h r tx ln g.2 b.1 a.1 e.1 0) n (Rt (some (.int (hd4 a b e g).1)) (hR h r tx ln (hd4 a b e g).2.2.2.2 (hd4 a b e g).2.2.1 (hd4 a b e g).2.1 (hd4 a b e g).2.2.2.1 0) n) := by
          rintro ⟨g1, g2⟩ hg
          refine j_if_eq (tgt := 75) d_Rd_passHead_68 (by decide) (fun c4 => ?_) (fun c4 => ?_)
          · refine j_iconst (v := 0) d_Rd_passHead_75 (by decide) ?_
            exact j_zret d_Rd_passHead_76 rfl (Or.inl rfl) ⟨congrArg (fun x => some (Value.int x)) c4.symm, rfl, rfl⟩
          · refine j_iconst (v := 1) d_Rd_passHead_71 (by decide) ?_
            refine j_goto (tgt := 76) d_Rd_passHead_72 (by decide) ?_
            exact j_zret d_Rd_passHead_76 rfl (Or.inr rfl) ⟨congrArg (fun x => some (Value.int x)) (hg.resolve_left c4).symm, rfl, rfl⟩
        exact k4 _ h01
    · rw [show hd2 txf ln a b = (0, a.1, b.1, 0, b.2) from if_pos c2]
      refine j_iconst (v := 0) d_Rd_passHead_42 (by decide) ?_
      exact j_zret d_Rd_passHead_43 rfl (Or.inl rfl) ⟨rfl, rfl, rfl⟩
  · rw [show hd1 txf ln a = (0, a.1, 0, 0, a.2) from if_pos c]
    refine j_iconst (v := 0) d_Rd_passHead_20 (by decide) ?_
    exact j_zret d_Rd_passHead_21 rfl (Or.inl rfl) ⟨rfl, rfl, rfl⟩
end RDR

section CL2
variable {E : EV} {h : HP} {n r tx ln pl sg k nn m : Nat} {txf : Nat → Nat}
/-- reading a clue, by so much fuel -/
def CLc (E : EV) (r tx ln : Nat) (txf : Nat → Nat) (k nn m f : Nat) : Prop := ∀ (h : HP) (n pl sg : Nat), RG E h n r tx ln txf → pl ≤ ln → sg ≤ 30 → 31 ≤ f + sg →
  Ct E m_Rd_clue (3 * f + 4) ((pcl txf ln (nI k) (nI nn) (nI m) f pl sg).2.1 - pl) (3 * ((pcl txf ln (nI k) (nI nn) (nI m) f pl sg).2.1 - pl)) [.ref r] (hR h r tx ln pl (nI k) (nI nn) (nI m) sg) n (RQ h n r tx ln (nI k) (nI nn) (nI m) f (pcl txf ln (nI k) (nI nn) (nI m) f pl sg))
theorem c_Rd_turned {f : Nat} {t : Int32} (IH : CLc E r tx ln txf k nn m f) (G : RG E h n r tx ln txf) (hpl : pl ≤ ln) (hsg : sg ≤ 30) (hf : 31 ≤ f + sg) :
    Ct E m_Rd_turned (3 * f + 5) ((pcl txf ln (nI k) (nI nn) (nI m) f pl sg).2.1 - pl + 1) (3 * ((pcl txf ln (nI k) (nI nn) (nI m) f pl sg).2.1 - pl) + 3) [.ref r, .int t] (hR h r tx ln pl (nI k) (nI nn) (nI m) sg) n (RQ h n r tx ln (nI k) (nI nn) (nI m) (f + 1) (pTu (pcl txf ln (nI k) (nI nn) (nI m) f pl sg) t)) := by
  refine Ct.go rfl rfl rfl ?_
  have hb : E.2.2.2.1 ≤ r := G.1.2.2.2.1
  have hrn := G.2.2.1
  have hr := hR_r (h := h) (r := r) (tx := tx) (ln := ln) (pl := pl) (K := nI k) (N := nI nn) (M := nI m) (sg := sg)
  refine j_aload_n d_Rd_turned_0 rfl ?_
  refine j_callV (As := []) d_Rd_turned_1 cb_Rd_43 vv_Rd_clue hr rfl rfl rfl rfl (Nat.le_of_ble_eq_true rfl) (show 3 * f + 4 + 1 ≤ 3 * f + 5 by omega) (by omega) (by omega) (IH h n pl sg G hpl hsg hf) (fun v' h' n' q _ => ?_)
  generalize pcl txf ln (nI k) (nI nn) (nI m) f pl sg = c at q ⊢
  obtain ⟨h2, rfl, hE, hq⟩ := q
  have hdm := hE.2.1
  have hn2 := hE.2.2
  rcases hq with ⟨hc, rfl⟩ | ⟨φ, y, hc, rfl, hcr⟩
  · refine j_astore_nN d_Rd_turned_4 (by decide) ?_
    refine j_aload_nN d_Rd_turned_5 rfl ?_
    refine j_ifnonnullN d_Rd_turned_6 ?_
    refine j_null d_Rd_turned_9 ?_
    refine j_goto (tgt := 22) d_Rd_turned_10 (by decide) ?_
    exact j_aret d_Rd_turned_22 rfl (Or.inl ⟨_, rfl⟩) rfl ⟨h2, rfl, hE, Or.inl ⟨by simp [pTu, hc], rfl⟩⟩
  · refine j_astore_n d_Rd_turned_4 (by decide) ?_
    refine j_aload_n d_Rd_turned_5 rfl ?_
    refine j_ifnonnull (tgt := 13) d_Rd_turned_6 (by decide) ?_
    refine j_new (fs := [.int 0, .null]) d_Rd_turned_13 nw_Rd_91 (by decide) (by omega) (by omega) ?_
    refine J.conv (L := _) rfl (hR_push (Nat.lt_of_lt_of_le hrn hn2)) ?_
    refine j_dup d_Rd_turned_16 rfl ?_
    refine j_iload_n d_Rd_turned_17 rfl ?_
    refine j_aload_n d_Rd_turned_18 rfl ?_
    refine j_callI (As := [.int t, .ref y]) d_Rd_turned_19 cb_Rd_93 iv_Tu_init rfl rfl (Nat.le_of_ble_eq_true rfl) (show 1 + 1 ≤ 3 * f + 5 by omega) (Nat.zero_le _) (Nat.zero_le _) (by rw [← hR_push (Nat.lt_of_lt_of_le hrn hn2)]; exact c_Tu_init (by omega)) (fun v' h' n'' q _ => ?_)
    obtain ⟨rfl, rfl, q3⟩ := q; have q3 := q3.symm; subst q3
    have hE3 : Ext h2 (hset h2 n' (oTu t y)) n' (n' + 1) := Ext.push hdm
    refine j_aret d_Rd_turned_22 rfl (Or.inl ⟨_, rfl⟩) rfl ⟨hset h2 n' (oTu t y), hR_push (Nat.lt_of_lt_of_le hrn hn2), hE.trans hE3, Or.inr ⟨_, n', by simp [pTu, hc], rfl, Or.inr (Or.inr (Or.inl ⟨t, y, φ, hset_s _ _ _, hcr.kept (hE3.ck hdm), rfl⟩))⟩⟩
theorem pSay_ok {f : Nat} (c : ¬ (takeF txf ln 48 0 (nI m - 1) pl).1 = -1) : pSay txf ln (nI m) (pcl txf ln (nI k) (nI nn) (nI m) f) pl sg = pTu (pcl txf ln (nI k) (nI nn) (nI m) f (takeF txf ln 48 0 (nI m - 1) pl).2 sg) (truthF (takeF txf ln 48 0 (nI m - 1) pl).1.toNatClampNeg ^^^ (-1)) := if_neg c
theorem c_Rd_saying {f : Nat} (IH : CLc E r tx ln txf k nn m f) (G : RG E h n r tx ln txf) (hm : m ≤ 3) (hpl : pl ≤ ln) (hsg : sg ≤ 30) (hf : 31 ≤ f + sg) :
    Ct E m_Rd_saying (3 * f + 6) ((pSay txf ln (nI m) (pcl txf ln (nI k) (nI nn) (nI m) f) pl sg).2.1 - pl + 1) (3 * ((pSay txf ln (nI m) (pcl txf ln (nI k) (nI nn) (nI m) f) pl sg).2.1 - pl) + 3) [.ref r] (hR h r tx ln pl (nI k) (nI nn) (nI m) sg) n (RQ h n r tx ln (nI k) (nI nn) (nI m) (f + 1) (pSay txf ln (nI m) (pcl txf ln (nI k) (nI nn) (nI m) f) pl sg)) := by
  refine Ct.go rfl rfl rfl ?_
  have hdm := G.2.1
  have hr := hR_r (h := h) (r := r) (tx := tx) (ln := ln) (pl := pl) (K := nI k) (N := nI nn) (M := nI m) (sg := sg)
  refine j_aload_n d_Rd_saying_0 rfl ?_
  refine j_bipush (v := 48) d_Rd_saying_1 (by decide) ?_
  refine j_iconst (v := 0) d_Rd_saying_3 (by decide) ?_
  refine j_aload_n d_Rd_saying_4 rfl ?_
  refine j_get d_Rd_saying_5 fl_Rd_34 (by first | assumption | exact hset_s _ _ _ | (rw [hset_n _ _ (by omega)]; first | assumption | exact hset_s _ _ _ | (rw [hset_n _ _ (by omega)]; first | assumption | exact hset_s _ _ _ | (rw [hset_n _ _ (by omega)]; first | assumption | exact hset_s _ _ _ | (rw [hset_n _ _ (by omega)]; first | assumption | exact hset_s _ _ _))))) rfl ?_
  refine j_iconst (v := 1) d_Rd_saying_8 (by decide) ?_
  refine j_isub d_Rd_saying_9 ?_
  refine j_callV (As := [.int 48, .int 0, .int (nI m - 1)]) d_Rd_saying_10 cb_Rd_54 vv_Rd_take hr rfl rfl rfl rfl (Nat.le_of_ble_eq_true rfl) (show 0 + 1 ≤ 3 * f + 6 by omega) (Nat.zero_le _) (Nat.zero_le _) (c_Rd_take G.1 hpl) (fun v' h' n' q _ => ?_)
  obtain ⟨rfl, rfl, q3⟩ := q; have q3 := q3.symm; subst q3
  have hr2 := hR_r (h := h) (r := r) (tx := tx) (ln := ln) (pl := (takeF txf ln 48 0 (nI m - 1) pl).2) (K := nI k) (N := nI nn) (M := nI m) (sg := sg)
  refine j_istore_n d_Rd_saying_13 (by decide) ?_
  refine j_iload_n d_Rd_saying_14 rfl ?_
  refine j_iconst (v := (-1)) d_Rd_saying_15 (by decide) ?_
  refine j_icmp_ne (tgt := 23) d_Rd_saying_16 (by decide) (fun c => ?_) (fun c => ?_)
  · obtain ⟨j, hj, ej⟩ := takeF_nI (low := 0) (by omega) c
    have h1 := takeF_le (txf := txf) (ln := ln) (pl := pl) (zero := 48) (low := 0) (high := nI m - 1)
    have h2 := pcl_le (txf := txf) (ln := ln) (K := nI k) (N := nI nn) (M := nI m) f (takeF txf ln 48 0 (nI m - 1) pl).2 sg
    rw [pSay_ok c]
    refine j_aload_n d_Rd_saying_23 rfl ?_
    refine j_getsN (C := "ClueLogic") (nm := "TRUTHFUL") (ds := "[I") (host := "ClueLogic") (v := .ref (E.2.2.2.2 0)) d_Rd_saying_24 (by simp [stats]) (by decide +kernel) ?_
    refine j_iload_n d_Rd_saying_27 rfl ?_
    refine j_stI (f := truthF) (x := truthF j) d_Rd_saying_28 List.mem_cons_self (by rw [ej]; exact vp_in_nI (by omega) (by omega)) (by rw [ej, nI_clamp (by omega)]) ?_
    refine j_iconst (v := (-1)) d_Rd_saying_29 (by decide) ?_
    refine j_ixor d_Rd_saying_30 ?_
    rw [ej, nI_clamp (by omega)]
    refine j_callV (As := [.int (truthF j ^^^ (-1))]) d_Rd_saying_31 cb_Rd_72 vv_Rd_turned hr2 rfl rfl rfl rfl (Nat.le_of_ble_eq_true rfl) (show 3 * f + 5 + 1 ≤ 3 * f + 6 by omega) (by rw [pTu_2]; omega) (by rw [pTu_2]; omega) (c_Rd_turned IH G (takeF_ln hpl) hsg hf) (fun v' h' n' q _ => ?_)
    generalize pTu (pcl txf ln (nI k) (nI nn) (nI m) f (takeF txf ln 48 0 (nI m - 1) pl).2 sg) (truthF j ^^^ (-1)) = c2 at q ⊢
    have q0 := q
    obtain ⟨h2, rfl, hE, hq⟩ := q
    rcases hq with ⟨hc, rfl⟩ | ⟨φ, y, hc, rfl, hcr⟩
    · exact j_aret d_Rd_saying_34 rfl (Or.inl ⟨_, rfl⟩) rfl q0
    · exact j_aret d_Rd_saying_34 rfl (Or.inl ⟨_, rfl⟩) rfl q0
  · rw [show pSay txf ln (nI m) (pcl txf ln (nI k) (nI nn) (nI m) f) pl sg = (none, (takeF txf ln 48 0 (nI m - 1) pl).2, sg) from if_pos c]
    refine j_null d_Rd_saying_19 ?_
    refine j_goto (tgt := 34) d_Rd_saying_20 (by decide) ?_
    exact j_aret d_Rd_saying_34 rfl (Or.inl ⟨_, rfl⟩) rfl ⟨h, rfl, Ext.rf hdm, Or.inl ⟨rfl, rfl⟩⟩
theorem pcl_ln : ∀ (f pl sg : Nat), pl ≤ ln → (pcl txf ln (nI k) (nI nn) (nI m) f pl sg).2.1 ≤ ln
  | 0, _, _, h => h
  | f + 1, pl, sg, h => by
    have ih := pcl_ln f
    have sy : ∀ {pl sg : Nat}, pl ≤ ln → (pSay txf ln (nI m) (pcl txf ln (nI k) (nI nn) (nI m) f) pl sg).2.1 ≤ ln := by
      intro pl sg h
      unfold pSay; split
      · exact takeF_ln h
      · rw [pTu_2]; exact ih _ _ (takeF_ln h)
    have jo : ∀ {pl sg : Nat} {b : Int32}, pl ≤ ln → (pJo (pcl txf ln (nI k) (nI nn) (nI m) f) b pl sg).2.1 ≤ ln := by
      intro pl sg b h
      unfold pJo; split
      · exact ih _ _ h
      · exact ih _ _ (ih _ _ h)
    unfold pcl
    split
    · exact h
    · rename_i hc
      have hlt : pl + 1 ≤ ln := by
        have : pl < ln := Decidable.byContradiction (fun q => hc (Or.inl q))
        omega
      split
      · unfold pOp; split <;> exact takeF_ln hlt
      · split
        · exact sy hlt
        · split
          · rw [pTu_2]; exact ih _ _ hlt
          · split
            · exact jo hlt
            · split
              · exact jo hlt
              · unfold pOv; split
                · exact tvF_ln hlt
                · split <;> exact tvF_ln (tvF_ln hlt)
theorem pcl_sg : ∀ (f pl sg : Nat), sg ≤ 30 → (pcl txf ln (nI k) (nI nn) (nI m) f pl sg).2.2 ≤ 30 ∧ sg ≤ (pcl txf ln (nI k) (nI nn) (nI m) f pl sg).2.2
  | 0, _, _, h => ⟨h, Nat.le_refl _⟩
  | f + 1, pl, sg, h => by
    have ih := pcl_sg f
    have sy : ∀ {pl sg : Nat}, sg ≤ 30 → (pSay txf ln (nI m) (pcl txf ln (nI k) (nI nn) (nI m) f) pl sg).2.2 ≤ 30 ∧ sg ≤ (pSay txf ln (nI m) (pcl txf ln (nI k) (nI nn) (nI m) f) pl sg).2.2 := by
      intro pl sg h
      unfold pSay; split
      · exact ⟨h, Nat.le_refl _⟩
      · rw [pTu_2]; exact ih _ _ h
    have jo : ∀ {pl sg : Nat} {b : Int32}, sg ≤ 30 → (pJo (pcl txf ln (nI k) (nI nn) (nI m) f) b pl sg).2.2 ≤ 30 ∧ sg ≤ (pJo (pcl txf ln (nI k) (nI nn) (nI m) f) b pl sg).2.2 := by
      intro pl sg b h
      unfold pJo; split
      · exact ih _ _ h
      · have h1 := ih pl sg h
        have h2 := ih (pcl txf ln (nI k) (nI nn) (nI m) f pl sg).2.1 _ h1.1
        exact ⟨h2.1, Nat.le_trans h1.2 h2.2⟩
    unfold pcl
    split
    · exact ⟨h, Nat.le_refl _⟩
    · rename_i hc
      have hlt : sg + 1 ≤ 30 := by
        have : sg < 30 := Decidable.byContradiction (fun q => hc (Or.inr (Or.inl q)))
        omega
      split
      · unfold pOp; split <;> exact ⟨hlt, Nat.le_succ _⟩
      · split
        · have := sy (pl := pl + 1) hlt; exact ⟨this.1, by omega⟩
        · split
          · have := ih (pl + 1) _ hlt; rw [pTu_2]; exact ⟨this.1, by omega⟩
          · split
            · have := jo (pl := pl + 1) (b := 1) hlt; exact ⟨this.1, by omega⟩
            · split
              · have := jo (pl := pl + 1) (b := 0) hlt; exact ⟨this.1, by omega⟩
              · unfold pOv; split
                · exact ⟨hlt, Nat.le_succ _⟩
                · split <;> exact ⟨hlt, Nat.le_succ _⟩
theorem c_Rd_joined {f : Nat} {b : Int32} (hbv : b = 0 ∨ b = 1) (IH : CLc E r tx ln txf k nn m f) (G : RG E h n r tx ln txf) (hpl : pl ≤ ln) (hsg : sg ≤ 30) (hf : 31 ≤ f + sg) :
    Ct E m_Rd_joined (3 * f + 5) ((pJo (pcl txf ln (nI k) (nI nn) (nI m) f) b pl sg).2.1 - pl + 1) (3 * ((pJo (pcl txf ln (nI k) (nI nn) (nI m) f) b pl sg).2.1 - pl) + 3) [.ref r, .int b] (hR h r tx ln pl (nI k) (nI nn) (nI m) sg) n (RQ h n r tx ln (nI k) (nI nn) (nI m) (f + 1) (pJo (pcl txf ln (nI k) (nI nn) (nI m) f) b pl sg)) := by
  refine Ct.go rfl rfl rfl ?_
  have hb : E.2.2.2.1 ≤ r := G.1.2.2.2.1
  have hrn := G.2.2.1
  have hdm0 := G.2.1
  have hr := hR_r (h := h) (r := r) (tx := tx) (ln := ln) (pl := pl) (K := nI k) (N := nI nn) (M := nI m) (sg := sg)
  have p1 := pcl_le (txf := txf) (ln := ln) (K := nI k) (N := nI nn) (M := nI m) f pl sg
  have s1 := pcl_sg (txf := txf) (ln := ln) (k := k) (nn := nn) (m := m) f pl sg hsg
  have l1 := pcl_ln (txf := txf) (ln := ln) (k := k) (nn := nn) (m := m) f pl sg hpl
  have p2 := pcl_le (txf := txf) (ln := ln) (K := nI k) (N := nI nn) (M := nI m) f (pcl txf ln (nI k) (nI nn) (nI m) f pl sg).2.1 (pcl txf ln (nI k) (nI nn) (nI m) f pl sg).2.2
  have hc1 := IH h n pl sg G hpl hsg hf
  have hc2 := fun h n G => IH h n (pcl txf ln (nI k) (nI nn) (nI m) f pl sg).2.1 (pcl txf ln (nI k) (nI nn) (nI m) f pl sg).2.2 G l1 s1.1 (by omega)
  have ej : pJo (pcl txf ln (nI k) (nI nn) (nI m) f) b pl sg = match (pcl txf ln (nI k) (nI nn) (nI m) f pl sg).1 with
    | none => (none, (pcl txf ln (nI k) (nI nn) (nI m) f pl sg).2)
    | some ψ => pJo2 b ψ (pcl txf ln (nI k) (nI nn) (nI m) f (pcl txf ln (nI k) (nI nn) (nI m) f pl sg).2.1 (pcl txf ln (nI k) (nI nn) (nI m) f pl sg).2.2) := rfl
  generalize hA : pcl txf ln (nI k) (nI nn) (nI m) f (pcl txf ln (nI k) (nI nn) (nI m) f pl sg).2.1 (pcl txf ln (nI k) (nI nn) (nI m) f pl sg).2.2 = c2 at p2 hc2 ej
  generalize hB : pcl txf ln (nI k) (nI nn) (nI m) f pl sg = c1 at p1 s1 l1 p2 hc1 hc2 ej
  rw [ej]
  obtain ⟨o1, pl1, sg1⟩ := c1
  dsimp only at p1 p2 l1 hc1 hc2 s1
  have hbud : pl1 - pl ≤ (match o1 with | none => ((none, (pl1, sg1)) : PcR) | some ψ => pJo2 b ψ c2).2.1 - pl := by
    cases o1 with
    | none => exact Nat.le_refl _
    | some ψ => show pl1 - pl ≤ c2.2.1 - pl; omega
  refine j_aload_n d_Rd_joined_0 rfl ?_
  refine j_callV (As := []) d_Rd_joined_1 cb_Rd_43 vv_Rd_clue hr rfl rfl rfl rfl (Nat.le_of_ble_eq_true rfl) (show 3 * f + 4 + 1 ≤ 3 * f + 5 by omega) (Nat.le_succ_of_le hbud) (Nat.le_trans (Nat.mul_le_mul_left 3 hbud) (Nat.le_add_right _ 3)) hc1 (fun v' h' n' q _ => ?_)
  obtain ⟨h2, rfl, hE, hq⟩ := q
  have hdm := hE.2.1
  have hn2 := hE.2.2
  dsimp only at hq
  rcases hq with ⟨hc, rfl⟩ | ⟨φ, y, hc, rfl, hcr⟩
  · subst hc
    refine j_astore_nN d_Rd_joined_4 (by decide) ?_
    refine j_aload_nN d_Rd_joined_5 rfl ?_
    refine j_ifnonnullN d_Rd_joined_6 ?_
    refine j_null d_Rd_joined_9 ?_
    exact j_aret d_Rd_joined_10 rfl (Or.inl ⟨_, rfl⟩) rfl ⟨h2, rfl, hE, Or.inl ⟨rfl, rfl⟩⟩
  · subst hc
    show J E m_Rd_joined (3 * f + 5) (c2.2.1 - pl + 1 - (pl1 - pl)) (3 * (c2.2.1 - pl) + 3 - 3 * (pl1 - pl)) 4 _ _ _ _ _
    have hr2 := hR_r (h := h2) (r := r) (tx := tx) (ln := ln) (pl := pl1) (K := nI k) (N := nI nn) (M := nI m) (sg := sg1)
    refine j_astore_n d_Rd_joined_4 (by decide) ?_
    refine j_aload_n d_Rd_joined_5 rfl ?_
    refine j_ifnonnull (tgt := 11) d_Rd_joined_6 (by decide) ?_
    refine j_aload_n d_Rd_joined_11 rfl ?_
    refine j_callV (As := []) d_Rd_joined_12 cb_Rd_43 vv_Rd_clue hr2 rfl rfl rfl rfl (Nat.le_of_ble_eq_true rfl) (show 3 * f + 4 + 1 ≤ 3 * f + 5 by omega) (by omega) (by omega) (hc2 h2 n' (G.ext hE)) (fun v' h' n'' q _ => ?_)
    obtain ⟨h3, rfl, hE2, hq⟩ := q
    have hdm2 := hE2.2.1
    have hn3 := hE2.2.2
    rcases hq with ⟨hc, rfl⟩ | ⟨χ, y2, hc, rfl, hcr2⟩
    · refine j_astore_nN d_Rd_joined_15 (by decide) ?_
      refine j_aload_nN d_Rd_joined_16 rfl ?_
      refine j_ifnonnullN d_Rd_joined_17 ?_
      refine j_null d_Rd_joined_20 ?_
      refine j_goto (tgt := 34) d_Rd_joined_21 (by decide) ?_
      exact j_aret d_Rd_joined_34 rfl (Or.inl ⟨_, rfl⟩) rfl ⟨h3, rfl, hE.trans hE2, Or.inl ⟨by simp [pJo2, hc], rfl⟩⟩
    · refine j_astore_n d_Rd_joined_15 (by decide) ?_
      refine j_aload_n d_Rd_joined_16 rfl ?_
      refine j_ifnonnull (tgt := 24) d_Rd_joined_17 (by decide) ?_
      refine j_new (fs := [.int 0, .null, .null]) d_Rd_joined_24 nw_Rd_96 (by decide) (by omega) (by omega) ?_
      have hrn3 : r < n'' := Nat.lt_of_lt_of_le hrn (Nat.le_trans hn2 hn3)
      refine J.conv (L := _) rfl (hR_push hrn3) ?_
      refine j_dup d_Rd_joined_27 rfl ?_
      refine j_iload_n d_Rd_joined_28 rfl ?_
      refine j_aload_n d_Rd_joined_29 rfl ?_
      refine j_aload_n d_Rd_joined_30 rfl ?_
      refine j_callI (As := [.int b, .ref y, .ref y2]) d_Rd_joined_31 cb_Rd_98 iv_Jo_init rfl rfl (Nat.le_of_ble_eq_true rfl) (show 1 + 1 ≤ 3 * f + 5 by omega) (Nat.zero_le _) (Nat.zero_le _) (by rw [← hR_push hrn3]; exact c_Jo_init (by omega) hbv) (fun v' h' n3 q _ => ?_)
      obtain ⟨rfl, rfl, q3⟩ := q; have q3 := q3.symm; subst q3
      have hE3 : Ext h3 (hset h3 n'' (oJo b y y2)) n'' (n'' + 1) := Ext.push hdm2
      refine j_aret d_Rd_joined_34 rfl (Or.inl ⟨_, rfl⟩) rfl ⟨hset h3 n'' (oJo b y y2), hR_push hrn3, (hE.trans hE2).trans hE3, Or.inr ⟨_, n'', by simp [pJo2, hc], rfl, Or.inr (Or.inr (Or.inr ⟨b, y, y2, φ, χ, hset_s _ _ _, (hcr.kept (hE2.ck hdm)).kept (hE3.ck hdm2), hcr2.kept (hE3.ck hdm2), rfl⟩))⟩⟩
end CL2

section CTO
variable {E : EV} {h : HP} {n a p od K : Nat}
theorem xoF_54 {s : XS} {c : Nat} {u : Int32} (h : s.2.2.2.2.2.2.1 ≤ 54) : (xoF K s c u).2.2.2.2.2.2.1 ≤ 54 := by
  unfold xoF
  split
  · show s.2.2.2.2.2.2.1 + 1 ≤ 54; omega
  · exact h
theorem tsL_B {N M lay : Nat} {vf : Nat → Nat} {tkf : Nat → Int32} {φ : Nat → (Nat → Int32) → Int32} : ∀ (k c : Nat) (x : XS × WS), WB x.2 → x.1.2.2.2.2.2.2.1 ≤ 54 → WB (tsL K N M vf tkf φ lay k c x).2.2 ∧ (tsL K N M vf tkf φ lay k c x).2.1.2.2.2.2.2.2.1 ≤ 54
  | 0, _, _, h1, h2 => ⟨h1, h2⟩
  | k + 1, c, x, h1, h2 => by
    have e : (lkF K N M vf tkf (φ c) lay x.1 x.2).1.2.2.2.2.2.2.1 ≤ 54 := by rw [lkF_k]; exact h2
    have w : WB (lkF K N M vf tkf (φ c) lay x.1 x.2).2 := lkF_WB h1
    unfold tsL
    split
    · exact ⟨w, xoF_54 e⟩
    · exact tsL_B k (c + 1) _ w e
theorem tsF_B {N M cc cnt : Nat} {vf : Nat → Nat} {tkf : Nat → Int32} {φ : Nat → (Nat → Int32) → Int32} {s : XS} {ws : WS} (hc : cnt ≤ 24) (h1 : WB ws) (h2 : s.2.2.2.2.2.2.1 ≤ 54) : WB (tsF K N M cc cnt vf tkf φ s ws).2.2 ∧ (tsF K N M cc cnt vf tkf φ s ws).2.1.2.2.2.2.2.2.1 ≤ 54 := by
  have hchB := chF_B (tkf := tkf) (my := s.1) hc K 0 (ws.1, ws.2.1, 1) h1.1 h1.2.1
  exact tsL_B cc 0 (s, ((chF tkf cnt K s.1 ws.1 ws.2.1).1, (chF tkf cnt K s.1 ws.1 ws.2.1).2.1, ws.2.2)) ⟨hchB.1, hchB.2.1, h1.2.2⟩ h2
theorem c_Cr_finish {N M cc D tk vl cnt : Nat} {al : Int32} {tkf : Nat → Int32} {vf : Nat → Nat} {φ : Nat → (Nat → Int32) → Int32} {s : XS} {ws : WS} (F : PzG E h a p od K N M cc D φ) (O : OdF E h a od N tk vl cnt al tkf vf) (hs : WB ws) (hst : s.2.2.2.2.2.2.1 ≤ 54) (hf : s.2.2.2.2.2.2.2 = 0) :
    Ct E m_Cr_finish (D + 5) 0 0 [.ref a] (hCr E h a p od K s ws) n (Rt none (hCr E h a p od K (fiL K N M cc cnt vf tkf φ 54 1 ((s.1, s.2.1, s.2.2.1, s.2.2.2.1, s.2.2.2.2.1, s.2.2.2.2.2.1, s.2.2.2.2.2.2.1, 1), ws)).1 (fiL K N M cc cnt vf tkf φ 54 1 ((s.1, s.2.1, s.2.2.1, s.2.2.2.1, s.2.2.2.2.1, s.2.2.2.2.2.1, s.2.2.2.2.2.2.1, 1), ws)).2) n) := by
  have hb : E.2.2.2.1 ≤ a := by obtain ⟨_, _, _, _, _, _, _, _, _, _, _, hb⟩ := F; exact hb
  have hcnt : cnt ≤ 24 := O.2.2.2.2.2.2.1
  refine Ct.go rfl rfl rfl ?_
  obtain ⟨my, sn, mb, sb, sc, sk, st, fi⟩ := s
  dsimp only at hst hf
  subst hf
  have hw0 := hCr_0 (E := E) (h := h) (a := a) (p := p) (od := od) (K := K) (s := (my, sn, mb, sb, sc, sk, st, 0)) (ws := ws)
  refine j_aload_n d_Cr_finish_0 rfl ?_
  refine j_get d_Cr_finish_1 fl_Cr_66 (by first | assumption | exact hset_s _ _ _ | (rw [hset_n _ _ (by omega)]; first | assumption | exact hset_s _ _ _ | (rw [hset_n _ _ (by omega)]; first | assumption | exact hset_s _ _ _ | (rw [hset_n _ _ (by omega)]; first | assumption | exact hset_s _ _ _ | (rw [hset_n _ _ (by omega)]; first | assumption | exact hset_s _ _ _))))) rfl ?_
  refine j_if_eq (tgt := 8) d_Cr_finish_4 (by decide) (fun c2 => ?_) (fun c2 => absurd rfl c2)
  refine j_aload_n d_Cr_finish_8 rfl ?_
  refine j_iconst (v := 1) d_Cr_finish_9 (by decide) ?_
  refine j_put d_Cr_finish_10 fl_Cr_66 fp_Cr (Or.inl rfl) hw0 hb rfl rfl (Nat.le_of_ble_eq_true rfl) ?_
  refine J.conv (L := _) rfl (show _ = hCr E h a p od K (my, sn, mb, sb, sc, sk, st, 1) ws from hCr_s0) ?_
  refine j_iconst (v := 1) d_Cr_finish_13 (by decide) ?_
  refine j_istore_n d_Cr_finish_14 (by decide) ?_
  refine j_iconst (v := 0) d_Cr_finish_15 (by decide) ?_
  refine j_istore_n d_Cr_finish_16 (by decide) ?_
  have loop : ∀ (k i : Nat) (m : Int32) (x : XS × WS), i + k = 54 → WB x.2 → x.1.2.2.2.2.2.2.1 ≤ 54 → J E m_Cr_finish (D + 5) 0 0 17 [(0, .ref a), (1, .int m), (2, .int (nI i))] [] (hCr E h a p od K x.1 x.2) n (Rt none (hCr E h a p od K (fiL K N M cc cnt vf tkf φ k m x).1 (fiL K N M cc cnt vf tkf φ k m x).2) n) := by
    intro k
    induction k with
    | zero =>
      intro i m x hi hx hx54
      have hi : i = 54 := by omega
      subst hi
      refine j_iload_n d_Cr_finish_17 rfl ?_
      refine j_bipush (v := 54) d_Cr_finish_18 (by decide) ?_
      refine j_icmp_ge (tgt := 38) d_Cr_finish_20 (by decide) (fun c2 => ?_) (fun c2 => absurd (by decide) c2)
      exact j_vret d_Cr_finish_38 rfl ⟨rfl, rfl, rfl⟩
    | succ k ih =>
      intro i m x hi hx hx54
      have hx0 := hCr_0 (E := E) (h := h) (a := a) (p := p) (od := od) (K := K) (s := x.1) (ws := x.2)
      refine j_iload_n d_Cr_finish_17 rfl ?_
      refine j_bipush (v := 54) d_Cr_finish_18 (by decide) ?_
      refine j_icmp_ge (tgt := 38) d_Cr_finish_20 (by decide) (fun c2 => absurd c2 (nI_ge (a := i) (b := 54) (by omega) (by omega))) (fun c2 => ?_)
      refine j_iload_n d_Cr_finish_23 rfl ?_
      refine j_if_eq (tgt := 38) d_Cr_finish_24 (by decide) (fun c3 => ?_) (fun c3 => ?_)
      · rw [show fiL K N M cc cnt vf tkf φ (k + 1) m x = x from if_pos c3]
        exact j_vret d_Cr_finish_38 rfl ⟨rfl, rfl, rfl⟩
      · rw [show fiL K N M cc cnt vf tkf φ (k + 1) m x = fiL K N M cc cnt vf tkf φ k (tsF K N M cc cnt vf tkf φ x.1 x.2).1 (tsF K N M cc cnt vf tkf φ x.1 x.2).2 from if_neg c3]
        refine j_aload_n d_Cr_finish_27 rfl ?_
        refine j_callV (As := []) d_Cr_finish_28 cb_Cr_70 vv_Cr_takeStep hx0 rfl rfl rfl rfl (Nat.le_of_ble_eq_true rfl) (show D + 4 + 1 ≤ D + 5 by omega) (Nat.zero_le _) (Nat.zero_le _) (c_Cr_takeStep F O hx hx54) (fun v' h' n' q _ => ?_)
        obtain ⟨rfl, rfl, q3⟩ := q; have q3 := q3.symm; subst q3
        have hB := tsF_B (N := N) (M := M) (cc := cc) (vf := vf) (tkf := tkf) (φ := φ) hcnt hx hx54 (K := K)
        refine j_istore_n d_Cr_finish_31 (by decide) ?_
        refine j_iinc (v := nI (i + 1)) d_Cr_finish_32 rfl (nI_succ i).symm (by decide) ?_
        refine j_goto (tgt := 17) d_Cr_finish_35 (by decide) ?_
        exact ih (i + 1) _ (tsF K N M cc cnt vf tkf φ x.1 x.2).2 (by omega) hB.1 hB.2
  exact loop 54 0 1 ((my, sn, mb, sb, sc, sk, st, 1), ws) (by omega) hs hst
theorem c_Cr_finish2 {d : Nat} {s : XS} {ws : WS} (hf : ¬ s.2.2.2.2.2.2.2 = 0) : Ct E m_Cr_finish d 0 0 [.ref a] (hCr E h a p od K s ws) n (Rt none (hCr E h a p od K s ws) n) := by
  refine Ct.go rfl rfl rfl ?_
  have hw0 := hCr_0 (E := E) (h := h) (a := a) (p := p) (od := od) (K := K) (s := s) (ws := ws)
  refine j_aload_n d_Cr_finish_0 rfl ?_
  refine j_get d_Cr_finish_1 fl_Cr_66 (by first | assumption | exact hset_s _ _ _ | (rw [hset_n _ _ (by omega)]; first | assumption | exact hset_s _ _ _ | (rw [hset_n _ _ (by omega)]; first | assumption | exact hset_s _ _ _ | (rw [hset_n _ _ (by omega)]; first | assumption | exact hset_s _ _ _ | (rw [hset_n _ _ (by omega)]; first | assumption | exact hset_s _ _ _))))) rfl ?_
  refine j_if_eq (tgt := 8) d_Cr_finish_4 (by decide) (fun c2 => absurd c2 hf) (fun c2 => ?_)
  exact j_vret d_Cr_finish_7 rfl ⟨rfl, rfl, rfl⟩
/-! countWith -/
def cwF (cnt : Nat) (vf : Nat → Nat) (co : Nat → Int32) (t kd v : Nat) : Int32 := (List.range' 0 cnt).foldl (fun u o => if vf (4 * o + t) = v then u + co (24 * kd + o) else u) 0
theorem c_An_countWith {cp N M cc tk vl cnt t kd v : Nat} {al : Int32} {tkf : Nat → Int32} {vf : Nat → Nat} {s : AS} {ws : WS} (hp : h p = some (oPz (nI N) (nI K) (nI M) od cp (nI cc))) (hpa : p < a) (O : OdF E h a od N tk vl cnt al tkf vf) (ht : t < 4) (hkd : kd < 3) (hv : v < 4) :
    Ct E m_An_countWith 1 0 0 [.ref a, .int (nI t), .int (nI kd), .int (nI v)] (hAn E h a p od K s ws) n (Rt (some (.int (cwF cnt vf s.2.2.1 t kd v))) (hAn E h a p od K s ws) n) := by
  obtain ⟨o1, o2, o3, o4, o5, o6, o7, o8, o9⟩ := O
  refine Ct.go rfl rfl rfl ?_
  have hw0 := hAn_0 (E := E) (h := h) (a := a) (p := p) (od := od) (K := K) (s := s) (ws := ws)
  have hw3 := hAn_3 (E := E) (h := h) (a := a) (p := p) (od := od) (K := K) (s := s) (ws := ws)
  have hwp : hAn E h a p od K s ws p = some (oPz (nI N) (nI K) (nI M) od cp (nI cc)) := (hAn_x (Or.inl hpa)).trans hp
  have hwo : hAn E h a p od K s ws od = some (oOd (nI N) tk vl (nI cnt) al) := (hAn_x (Or.inl o4)).trans o1
  have hwv : hAn E h a p od K s ws vl = some (arI E 0 96 (nA vf)) := (hAn_x (Or.inl o6)).trans o3
  refine j_iconst (v := 0) d_An_countWith_0 (by decide) ?_
  refine j_istore d_An_countWith_1 (by decide) ?_
  refine j_iconst (v := 0) d_An_countWith_3 (by decide) ?_
  refine j_istore d_An_countWith_4 (by decide) ?_
  have loop : ∀ (k o : Nat) (u : Int32), o + k = cnt → J E m_An_countWith 1 0 0 6 [(0, .ref a), (1, .int (nI t)), (2, .int (nI kd)), (3, .int (nI v)), (4, .int u), (5, .int (nI o))] [] (hAn E h a p od K s ws) n (Rt (some (.int ((List.range' o k).foldl (fun u o => if vf (4 * o + t) = v then u + s.2.2.1 (24 * kd + o) else u) u))) (hAn E h a p od K s ws) n) := by
    intro k
    induction k with
    | zero =>
      intro o u ho
      have ho : o = cnt := by omega
      subst ho
      refine j_iload d_An_countWith_6 rfl ?_
      refine j_aload_n d_An_countWith_8 rfl ?_
      refine j_get d_An_countWith_9 fl_An_28 (by first | assumption | exact hset_s _ _ _ | (rw [hset_n _ _ (by omega)]; first | assumption | exact hset_s _ _ _ | (rw [hset_n _ _ (by omega)]; first | assumption | exact hset_s _ _ _ | (rw [hset_n _ _ (by omega)]; first | assumption | exact hset_s _ _ _ | (rw [hset_n _ _ (by omega)]; first | assumption | exact hset_s _ _ _))))) rfl ?_
      refine j_pV (As := []) d_An_countWith_12 cb_An_48 vv_Pz_orders hwp rfl rfl rfl rfl (Nat.le_of_ble_eq_true rfl) (by decide) (c_Pz_orders hwp rfl) ?_
      refine j_pV (As := []) d_An_countWith_15 cb_An_63 vv_Od_count hwo rfl rfl rfl rfl (Nat.le_of_ble_eq_true rfl) (by decide) (c_Od_count hwo rfl) ?_
      refine j_icmp_ge (tgt := 61) d_An_countWith_18 (by decide) (fun c2 => ?_) (fun c2 => absurd (nI_le (Nat.le_refl _) (by omega)) c2)
      refine j_iload d_An_countWith_61 rfl ?_
      exact j_iret d_An_countWith_63 rfl ⟨rfl, rfl, rfl⟩
    | succ k ih =>
      intro o u ho
      have hb := o9 (4 * o + t)
      have e1 : 4 * nI o + nI t = nI (4 * o + t) := nI_4 _ _
      refine j_iload d_An_countWith_6 rfl ?_
      refine j_aload_n d_An_countWith_8 rfl ?_
      refine j_get d_An_countWith_9 fl_An_28 (by first | assumption | exact hset_s _ _ _ | (rw [hset_n _ _ (by omega)]; first | assumption | exact hset_s _ _ _ | (rw [hset_n _ _ (by omega)]; first | assumption | exact hset_s _ _ _ | (rw [hset_n _ _ (by omega)]; first | assumption | exact hset_s _ _ _ | (rw [hset_n _ _ (by omega)]; first | assumption | exact hset_s _ _ _))))) rfl ?_
      refine j_pV (As := []) d_An_countWith_12 cb_An_48 vv_Pz_orders hwp rfl rfl rfl rfl (Nat.le_of_ble_eq_true rfl) (by decide) (c_Pz_orders hwp rfl) ?_
      refine j_pV (As := []) d_An_countWith_15 cb_An_63 vv_Od_count hwo rfl rfl rfl rfl (Nat.le_of_ble_eq_true rfl) (by decide) (c_Od_count hwo rfl) ?_
      refine j_icmp_ge (tgt := 61) d_An_countWith_18 (by decide) (fun c2 => absurd c2 (nI_ge (by omega) (by omega))) (fun c2 => ?_)
      refine j_aload_n d_An_countWith_21 rfl ?_
      refine j_get d_An_countWith_22 fl_An_28 (by first | assumption | exact hset_s _ _ _ | (rw [hset_n _ _ (by omega)]; first | assumption | exact hset_s _ _ _ | (rw [hset_n _ _ (by omega)]; first | assumption | exact hset_s _ _ _ | (rw [hset_n _ _ (by omega)]; first | assumption | exact hset_s _ _ _ | (rw [hset_n _ _ (by omega)]; first | assumption | exact hset_s _ _ _))))) rfl ?_
      refine j_pV (As := []) d_An_countWith_25 cb_An_48 vv_Pz_orders hwp rfl rfl rfl rfl (Nat.le_of_ble_eq_true rfl) (by decide) (c_Pz_orders hwp rfl) ?_
      refine j_iload d_An_countWith_28 rfl ?_
      refine j_iload_n d_An_countWith_30 rfl ?_
      refine j_pV (As := [.int _, .int _]) d_An_countWith_31 cb_An_54 vv_Od_value hwo rfl rfl rfl rfl (Nat.le_of_ble_eq_true rfl) (by decide) (c_Od_value hwo hwv (by rw [e1]; exact vp_in_nI (by omega) (by omega))) ?_
      rw [e1, nI_clamp (by omega)]
      refine j_iload_n d_An_countWith_34 rfl ?_
      rw [List.range'_succ, List.foldl_cons]
      refine j_icmp_ne (tgt := 55) d_An_countWith_35 (by decide) (fun c3 => ?_) (fun c3 => ?_)
      · rw [if_neg (fun q => c3 (congrArg nI q))]
        refine j_iinc (v := nI (o + 1)) d_An_countWith_55 rfl (nI_succ o).symm (by decide) ?_
        refine j_goto (tgt := 6) d_An_countWith_58 (by decide) ?_
        exact ih (o + 1) u (by omega)
      · rw [if_pos ((nI_eq (by omega) (by omega)).mp c3)]
        have e2 : (24 * nI kd + nI o) = nI (24 * kd + o) := n24 _ _
        refine j_iload d_An_countWith_38 rfl ?_
        refine j_aload_n d_An_countWith_40 rfl ?_
        refine j_get d_An_countWith_41 fl_An_18 (by first | assumption | exact hset_s _ _ _ | (rw [hset_n _ _ (by omega)]; first | assumption | exact hset_s _ _ _ | (rw [hset_n _ _ (by omega)]; first | assumption | exact hset_s _ _ _ | (rw [hset_n _ _ (by omega)]; first | assumption | exact hset_s _ _ _ | (rw [hset_n _ _ (by omega)]; first | assumption | exact hset_s _ _ _))))) rfl ?_
        refine j_bipush (v := 24) d_An_countWith_44 (by decide) ?_
        refine j_iload_n d_An_countWith_46 rfl ?_
        refine j_imul d_An_countWith_47 ?_
        refine j_iload d_An_countWith_48 rfl ?_
        refine j_iadd d_An_countWith_50 ?_
        refine j_iald (t := 0) (x := s.2.2.1 (24 * kd + o)) d_An_countWith_51 rfl hw3 (by rw [e2]; exact vp_in_nI (by omega) (by omega)) (by rw [e2, nI_clamp (by omega)]) ?_
        refine j_iadd d_An_countWith_52 ?_
        refine j_istore d_An_countWith_53 (by decide) ?_
        refine j_iinc (v := nI (o + 1)) d_An_countWith_55 rfl (nI_succ o).symm (by decide) ?_
        refine j_goto (tgt := 6) d_An_countWith_58 (by decide) ?_
        exact ih (o + 1) _ (by omega)
  exact loop cnt 0 0 (by omega)
/-! new objects -/
theorem c_Ov_init {sg v w : Int32} (h0 : E.2.2.2.1 ≤ n) : Ct E m_Ov_init 1 0 0 [.ref n, .int sg, .int v, .int w] (hset h n (.inr (5, [.int 0, .int 0, .int 0]))) (n + 1) (Rt none (hset h n (oOv sg v w)) (n + 1)) := by
  refine Ct.go rfl rfl rfl ?_
  refine j_aload_n d_Ov_init_0 rfl ?_
  refine j_obj d_Ov_init_1 ob_Ov_1 obi obc (by decide) (by decide) ?_
  refine j_aload_n d_Ov_init_4 rfl ?_
  refine j_iload_n d_Ov_init_5 rfl ?_
  refine j_put d_Ov_init_6 fl_Ov_7 fp_Ov (Or.inr ⟨rfl, rfl, rfl⟩) (by first | assumption | exact hset_s _ _ _ | (rw [hset_n _ _ (by omega)]; first | assumption | exact hset_s _ _ _ | (rw [hset_n _ _ (by omega)]; first | assumption | exact hset_s _ _ _ | (rw [hset_n _ _ (by omega)]; first | assumption | exact hset_s _ _ _ | (rw [hset_n _ _ (by omega)]; first | assumption | exact hset_s _ _ _))))) (by omega) rfl rfl (Nat.le_of_ble_eq_true rfl) ?_
  refine j_aload_n d_Ov_init_9 rfl ?_
  refine j_iload_n d_Ov_init_10 rfl ?_
  refine j_put d_Ov_init_11 fl_Ov_13 fp_Ov (Or.inr ⟨rfl, rfl, rfl⟩) (by first | assumption | exact hset_s _ _ _ | (rw [hset_n _ _ (by omega)]; first | assumption | exact hset_s _ _ _ | (rw [hset_n _ _ (by omega)]; first | assumption | exact hset_s _ _ _ | (rw [hset_n _ _ (by omega)]; first | assumption | exact hset_s _ _ _ | (rw [hset_n _ _ (by omega)]; first | assumption | exact hset_s _ _ _))))) (by omega) rfl rfl (Nat.le_of_ble_eq_true rfl) ?_
  refine j_aload_n d_Ov_init_14 rfl ?_
  refine j_iload_n d_Ov_init_15 rfl ?_
  refine j_put d_Ov_init_16 fl_Ov_16 fp_Ov (Or.inr ⟨rfl, rfl, rfl⟩) (by first | assumption | exact hset_s _ _ _ | (rw [hset_n _ _ (by omega)]; first | assumption | exact hset_s _ _ _ | (rw [hset_n _ _ (by omega)]; first | assumption | exact hset_s _ _ _ | (rw [hset_n _ _ (by omega)]; first | assumption | exact hset_s _ _ _ | (rw [hset_n _ _ (by omega)]; first | assumption | exact hset_s _ _ _))))) (by omega) rfl rfl (Nat.le_of_ble_eq_true rfl) ?_
  exact j_vret d_Ov_init_19 rfl ⟨rfl, by simp only [hset_hset]; rfl, rfl⟩
theorem c_Op_init {q : Nat} (h0 : E.2.2.2.1 ≤ n) (hq : q < 3) : Ct E m_Op_init 1 0 0 [.ref n, .int (nI q)] (hset h n (.inr (4, [.int 0]))) (n + 1) (Rt none (hset h n (oOp (truthF q))) (n + 1)) := by
  refine Ct.go rfl rfl rfl ?_
  refine j_aload_n d_Op_init_0 rfl ?_
  refine j_obj d_Op_init_1 ob_Op_1 obi obc (by decide) (by decide) ?_
  refine j_aload_n d_Op_init_4 rfl ?_
  refine j_getsN (C := "ClueLogic") (nm := "TRUTHFUL") (ds := "[I") (host := "ClueLogic") (v := .ref (E.2.2.2.2 0)) d_Op_init_5 (by simp [stats]) (by decide +kernel) ?_
  refine j_iload_n d_Op_init_8 rfl ?_
  refine j_stI (f := truthF) (x := truthF q) d_Op_init_9 List.mem_cons_self (vp_in_nI hq (by omega)) (by rw [nI_clamp (by omega)]) ?_
  refine j_put d_Op_init_10 fl_Op_13 fp_Op (Or.inr ⟨rfl, rfl, rfl⟩) (by first | assumption | exact hset_s _ _ _ | (rw [hset_n _ _ (by omega)]; first | assumption | exact hset_s _ _ _ | (rw [hset_n _ _ (by omega)]; first | assumption | exact hset_s _ _ _ | (rw [hset_n _ _ (by omega)]; first | assumption | exact hset_s _ _ _ | (rw [hset_n _ _ (by omega)]; first | assumption | exact hset_s _ _ _))))) (by omega) rfl rfl (Nat.le_of_ble_eq_true rfl) ?_
  exact j_vret d_Op_init_13 rfl ⟨rfl, by simp only [hset_hset]; rfl, rfl⟩
theorem c_Tu_init {t : Int32} {q : Nat} (h0 : E.2.2.2.1 ≤ n) : Ct E m_Tu_init 1 0 0 [.ref n, .int t, .ref q] (hset h n (.inr (9, [.int 0, .null]))) (n + 1) (Rt none (hset h n (oTu t q)) (n + 1)) := by
  refine Ct.go rfl rfl rfl ?_
  refine j_aload_n d_Tu_init_0 rfl ?_
  refine j_obj d_Tu_init_1 ob_Tu_1 obi obc (by decide) (by decide) ?_
  refine j_aload_n d_Tu_init_4 rfl ?_
  refine j_iload_n d_Tu_init_5 rfl ?_
  refine j_put d_Tu_init_6 fl_Tu_7 fp_Tu (Or.inr ⟨rfl, rfl, rfl⟩) (by first | assumption | exact hset_s _ _ _ | (rw [hset_n _ _ (by omega)]; first | assumption | exact hset_s _ _ _ | (rw [hset_n _ _ (by omega)]; first | assumption | exact hset_s _ _ _ | (rw [hset_n _ _ (by omega)]; first | assumption | exact hset_s _ _ _ | (rw [hset_n _ _ (by omega)]; first | assumption | exact hset_s _ _ _))))) (by omega) rfl rfl (Nat.le_of_ble_eq_true rfl) ?_
  refine j_aload_n d_Tu_init_9 rfl ?_
  refine j_aload_n d_Tu_init_10 rfl ?_
  refine j_put d_Tu_init_11 fl_Tu_13 fp_Tu (Or.inr ⟨rfl, rfl, rfl⟩) (by first | assumption | exact hset_s _ _ _ | (rw [hset_n _ _ (by omega)]; first | assumption | exact hset_s _ _ _ | (rw [hset_n _ _ (by omega)]; first | assumption | exact hset_s _ _ _ | (rw [hset_n _ _ (by omega)]; first | assumption | exact hset_s _ _ _ | (rw [hset_n _ _ (by omega)]; first | assumption | exact hset_s _ _ _))))) (by omega) rfl rfl (Nat.le_of_ble_eq_true rfl) ?_
  exact j_vret d_Tu_init_14 rfl ⟨rfl, by simp only [hset_hset]; rfl, rfl⟩
theorem c_Jo_init {b : Int32} {q r : Nat} (h0 : E.2.2.2.1 ≤ n) (hb : b = 0 ∨ b = 1) : Ct E m_Jo_init 1 0 0 [.ref n, .int b, .ref q, .ref r] (hset h n (.inr (3, [.int 0, .null, .null]))) (n + 1) (Rt none (hset h n (oJo b q r)) (n + 1)) := by
  refine Ct.go rfl rfl rfl ?_
  refine j_aload_n d_Jo_init_0 rfl ?_
  refine j_obj d_Jo_init_1 ob_Jo_1 obi obc (by decide) (by decide) ?_
  refine j_aload_n d_Jo_init_4 rfl ?_
  refine j_iload_n d_Jo_init_5 rfl ?_
  refine j_put d_Jo_init_6 fl_Jo_7 fp_Jo (Or.inr ⟨rfl, rfl, rfl⟩) (hset_s _ _ _) h0 (by rcases hb with rfl | rfl <;> rfl) (by rcases hb with rfl | rfl <;> rfl) (Nat.le_of_ble_eq_true rfl) ?_
  refine j_aload_n d_Jo_init_9 rfl ?_
  refine j_aload_n d_Jo_init_10 rfl ?_
  refine j_put d_Jo_init_11 fl_Jo_13 fp_Jo (Or.inr ⟨rfl, rfl, rfl⟩) (by first | assumption | exact hset_s _ _ _ | (rw [hset_n _ _ (by omega)]; first | assumption | exact hset_s _ _ _ | (rw [hset_n _ _ (by omega)]; first | assumption | exact hset_s _ _ _ | (rw [hset_n _ _ (by omega)]; first | assumption | exact hset_s _ _ _ | (rw [hset_n _ _ (by omega)]; first | assumption | exact hset_s _ _ _))))) (by omega) rfl rfl (Nat.le_of_ble_eq_true rfl) ?_
  refine j_aload_n d_Jo_init_14 rfl ?_
  refine j_aload_n d_Jo_init_15 rfl ?_
  refine j_put d_Jo_init_16 fl_Jo_17 fp_Jo (Or.inr ⟨rfl, rfl, rfl⟩) (by first | assumption | exact hset_s _ _ _ | (rw [hset_n _ _ (by omega)]; first | assumption | exact hset_s _ _ _ | (rw [hset_n _ _ (by omega)]; first | assumption | exact hset_s _ _ _ | (rw [hset_n _ _ (by omega)]; first | assumption | exact hset_s _ _ _ | (rw [hset_n _ _ (by omega)]; first | assumption | exact hset_s _ _ _))))) (by omega) rfl rfl (Nat.le_of_ble_eq_true rfl) ?_
  exact j_vret d_Jo_init_19 rfl ⟨rfl, by simp only [hset_hset]; rfl, rfl⟩
end CTO

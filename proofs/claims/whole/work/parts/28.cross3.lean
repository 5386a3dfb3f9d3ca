section CR3
variable {E : EV} {h : HP} {n a p od K : Nat} {s : XS} {ws : WS}
theorem CK_hCr (hck : ∀ q, a ≤ q → q ≤ a + 9 → ∀ ci fs, clN ci → h q ≠ some (.inr (ci, fs))) : CK h (hCr E h a p od K s ws) := by
  intro q ci fs hc hq
  by_cases hr : a ≤ q ∧ q ≤ a + 9
  · exact absurd hq (hck q hr.1 hr.2 ci fs hc)
  · rw [hCr_x (by omega)]; exact hq
/-- the puzzle's own facts that the crossing uses -/
def PzG (E : EV) (h : HP) (a p od K N M cc D : Nat) (φ : Nat → (Nat → Int32) → Int32) : Prop := ∃ (cp : Nat) (f : Nat → Option Nat), h p = some (oPz (nI N) (nI K) (nI M) od cp (nI cc)) ∧ p < a ∧ h cp = some (arQ E 3 20 f) ∧ cp < a ∧ (∀ c, c < cc → ∃ y, f c = some y ∧ CR D h y (φ c)) ∧ cc ≤ 20 ∧ K ≤ 3 ∧ M ≤ 3 ∧ (∀ q, a ≤ q → q ≤ a + 9 → ∀ ci fs, clN ci → h q ≠ some (.inr (ci, fs))) ∧ E.2.2.2.1 ≤ a
theorem lkL_WB {N : Nat} {vf : Nat → Nat} {tkf : Nat → Int32} {φ : (Nat → Int32) → Int32} {op : Int32} : ∀ (k : Nat) (x : (Nat → Int32) × Int32 × WS), WB x.2.2 → WB (lkL K N vf tkf φ op k x).2.2
  | 0, _, h => h
  | k + 1, x, h => lkL_WB k _ (nxF_WB K x.2.2 h)
theorem c_Cr_look {N M cc D tk vl cnt y lay : Nat} {al : Int32} {tkf : Nat → Int32} {vf : Nat → Nat} {φs : Nat → (Nat → Int32) → Int32} {φ : (Nat → Int32) → Int32} (F : PzG E h a p od K N M cc D φs) (O : OdF E h a od N tk vl cnt al tkf vf) (hcr : CR D h y φ) (hs : WB ws) (hlay : lay < 2 ^ 31) :
    Ct E m_Cr_look (D + 3) 0 0 [.ref a, .ref y, .int (nI lay)] (hCr E h a p od K s ws) n (Rt none (hCr E h a p od K (lkF K N M vf tkf φ lay s ws).1 (lkF K N M vf tkf φ lay s ws).2) n) := by
  obtain ⟨cp, f, hp, hpa, hcp, hcpa, hcl, hcc, hK, hM, hck, hb⟩ := F
  obtain ⟨o1, o2, o3, o4, o5, o6, o7, o8, o9⟩ := O
  refine Ct.go rfl rfl rfl ?_
  obtain ⟨my, sn, mb, sb, sc, sk, st, fi⟩ := s
  have hw0 := hCr_0 (E := E) (h := h) (a := a) (p := p) (od := od) (K := K) (s := (my, sn, mb, sb, sc, sk, st, fi)) (ws := ws)
  have hw2 := hCr_2 (E := E) (h := h) (a := a) (p := p) (od := od) (K := K) (s := (my, sn, mb, sb, sc, sk, st, fi)) (ws := ws)
  refine j_aload_n d_Cr_look_0 rfl ?_
  refine j_get d_Cr_look_1 fl_Cr_15 (by first | assumption | exact hset_s _ _ _ | (rw [hset_n _ _ (by omega)]; first | assumption | exact hset_s _ _ _ | (rw [hset_n _ _ (by omega)]; first | assumption | exact hset_s _ _ _ | (rw [hset_n _ _ (by omega)]; first | assumption | exact hset_s _ _ _ | (rw [hset_n _ _ (by omega)]; first | assumption | exact hset_s _ _ _))))) rfl ?_
  refine j_iconst (v := 0) d_Cr_look_4 (by decide) ?_
  refine j_callS (As := [.ref (a + 2), .int 0]) d_Cr_look_5 cb_Cr_96 sv_Ar_fill rfl rfl (Nat.le_of_ble_eq_true rfl) (show 0 + 1 ≤ D + 3 by omega) (Nat.zero_le _) (Nat.zero_le _) (c_Ar_fill (N := 3) (by omega) (by omega) hw2) (fun v' h' n' q _ => ?_)
  obtain ⟨rfl, rfl, q3⟩ := q; have q3 := q3.symm; subst q3
  refine J.conv (L := _) rfl (show _ = hCr E h a p od K (my, fillF sn 3 0, mb, sb, sc, sk, st, fi) ws from hCr_s2) ?_
  have hv0 := hCr_0 (E := E) (h := h) (a := a) (p := p) (od := od) (K := K) (s := (my, fillF sn 3 0, mb, sb, sc, sk, st, fi)) (ws := ws)
  have hv5 := hCr_5 (E := E) (h := h) (a := a) (p := p) (od := od) (K := K) (s := (my, fillF sn 3 0, mb, sb, sc, sk, st, fi)) (ws := ws)
  have px : ∀ (s : XS) (ws : WS) (q : Nat), q < a → hCr E h a p od K s ws q = h q := fun s ws q hq => hCr_x (Or.inl hq)
  refine j_aload_n d_Cr_look_8 rfl ?_
  refine j_pV (As := []) d_Cr_look_9 cb_Cr_102 vv_Cr_openParties hv0 rfl rfl rfl rfl (Nat.le_of_ble_eq_true rfl) (show 1 + 1 ≤ D + 3 by omega) (c_Cr_openParties hv0 ((px _ _ p hpa).trans hp) hM) ?_
  refine j_istore_n d_Cr_look_12 (by decide) ?_
  refine j_iconst (v := 0) d_Cr_look_13 (by decide) ?_
  refine j_istore d_Cr_look_14 (by decide) ?_
  refine j_aload_n d_Cr_look_16 rfl ?_
  refine j_get d_Cr_look_17 fl_Cr_33 (by first | assumption | exact hset_s _ _ _ | (rw [hset_n _ _ (by omega)]; first | assumption | exact hset_s _ _ _ | (rw [hset_n _ _ (by omega)]; first | assumption | exact hset_s _ _ _ | (rw [hset_n _ _ (by omega)]; first | assumption | exact hset_s _ _ _ | (rw [hset_n _ _ (by omega)]; first | assumption | exact hset_s _ _ _))))) rfl ?_
  have hCx : ∀ (s : XS) q, q < a → hC E h a p s q = h q := fun s q hq => hC_x (Or.inl hq)
  refine j_callV (As := []) d_Cr_look_20 cb_Cr_105 vv_Wk_start hv5 rfl rfl rfl rfl (Nat.le_of_ble_eq_true rfl) (show 2 + 1 ≤ D + 3 by omega) (Nat.zero_le _) (Nat.zero_le _) (c_Wk_start (h := hC E h a p (my, fillF sn 3 0, mb, sb, sc, sk, st, fi)) (w := a + 5) (by omega) ((hCx _ _ o4).trans o1) ((hCx _ _ o6).trans o3) (by omega) (by omega) hK o8 hs o9) (fun v' h' n' q _ => ?_)
  obtain ⟨rfl, rfl, q3⟩ := q; have q3 := q3.symm; subst q3
  show J E m_Cr_look (D + 3) 0 0 23 _ _ (hCr E h a p od K (my, fillF sn 3 0, mb, sb, sc, sk, st, fi) (stF vf N K ws)) _ _
  refine j_iconst (v := 0) d_Cr_look_23 (by decide) ?_
  refine j_istore d_Cr_look_24 (by decide) ?_
  have fin : lkF K N M vf tkf φ lay (my, sn, mb, sb, sc, sk, st, fi) ws = (fun x : (Nat → Int32) × Int32 × WS => ((my, x.1, mb, wiF M x.2.1, sc, sk, st, fi), x.2.2)) (lkL K N vf tkf φ (opF M mb) lay (fillF sn 3 0, 0, stF vf N K ws)) := rfl
  rw [fin]
  have loop : ∀ (k i : Nat) (x : (Nat → Int32) × Int32 × WS) (x6 : List (Nat × Value)), i + k = lay → WB x.2.2 → (x6 = [] ∨ ∃ v, x6 = [(6, .int v)]) → J E m_Cr_look (D + 3) 0 0 26 ([(0, .ref a), (1, .ref y), (2, .int (nI lay)), (3, .int (opF M mb)), (4, .int x.2.1), (5, .int (nI i))] ++ x6) [] (hCr E h a p od K (my, x.1, mb, sb, sc, sk, st, fi) x.2.2) n (Rt none (hCr E h a p od K ((fun x : (Nat → Int32) × Int32 × WS => ((my, x.1, mb, wiF M x.2.1, sc, sk, st, fi), x.2.2)) (lkL K N vf tkf φ (opF M mb) k x)).1 ((fun x : (Nat → Int32) × Int32 × WS => ((my, x.1, mb, wiF M x.2.1, sc, sk, st, fi), x.2.2)) (lkL K N vf tkf φ (opF M mb) k x)).2) n) := by
    intro k
    induction k with
    | zero =>
      intro i x x6 hi hx hx6
      have hi : i = lay := by omega
      subst hi
      obtain ⟨f1, sp, w1⟩ := x
      have hx0 := hCr_0 (E := E) (h := h) (a := a) (p := p) (od := od) (K := K) (s := (my, f1, mb, sb, sc, sk, st, fi)) (ws := w1)
      refine j_iload d_Cr_look_26 rfl ?_
      refine j_iload_n d_Cr_look_28 rfl ?_
      refine j_icmp_ge (tgt := 78) d_Cr_look_29 (by decide) (fun c2 => ?_) (fun c2 => absurd (nI_le (Nat.le_refl _) hlay) c2)
      refine j_aload_n d_Cr_look_78 rfl ?_
      refine j_aload_n d_Cr_look_79 rfl ?_
      refine j_iload d_Cr_look_80 rfl ?_
      refine j_pV (As := [.int sp]) d_Cr_look_82 cb_Cr_55 vv_Cr_waysIn hx0 rfl rfl rfl rfl (Nat.le_of_ble_eq_true rfl) (show 1 + 1 ≤ D + 3 by omega) (c_Cr_waysIn hx0 ((px _ _ p hpa).trans hp) hM) ?_
      refine j_put d_Cr_look_85 fl_Cr_123 fp_Cr (Or.inl rfl) hx0 hb rfl rfl (Nat.le_of_ble_eq_true rfl) ?_
      refine j_vret d_Cr_look_88 rfl ⟨rfl, ?_, rfl⟩
      exact hCr_s0
    | succ k ih =>
      intro i x x6 hi hx hx6
      obtain ⟨f1, sp, w1⟩ := x
      have hx0 := hCr_0 (E := E) (h := h) (a := a) (p := p) (od := od) (K := K) (s := (my, f1, mb, sb, sc, sk, st, fi)) (ws := w1)
      have hx5 := hCr_5 (E := E) (h := h) (a := a) (p := p) (od := od) (K := K) (s := (my, f1, mb, sb, sc, sk, st, fi)) (ws := w1)
      have hx9 := hCr_9 (E := E) (h := h) (a := a) (p := p) (od := od) (K := K) (s := (my, f1, mb, sb, sc, sk, st, fi)) (ws := w1)
      dsimp only at hx
      refine j_iload d_Cr_look_26 rfl ?_
      refine j_iload_n d_Cr_look_28 rfl ?_
      refine j_icmp_ge (tgt := 78) d_Cr_look_29 (by decide) (fun c2 => absurd c2 (nI_ge (by omega) hlay)) (fun c2 => ?_)
      refine j_aload_n d_Cr_look_32 rfl ?_
      refine j_aload_n d_Cr_look_33 rfl ?_
      refine j_get d_Cr_look_34 fl_Cr_33 (by first | assumption | exact hset_s _ _ _ | (rw [hset_n _ _ (by omega)]; first | assumption | exact hset_s _ _ _ | (rw [hset_n _ _ (by omega)]; first | assumption | exact hset_s _ _ _ | (rw [hset_n _ _ (by omega)]; first | assumption | exact hset_s _ _ _ | (rw [hset_n _ _ (by omega)]; first | assumption | exact hset_s _ _ _))))) rfl ?_
      refine j_pV (As := []) d_Cr_look_37 cb_Cr_108 vv_Wk_thing hx5 rfl rfl rfl rfl (Nat.le_of_ble_eq_true rfl) (show 0 + 1 ≤ D + 3 by omega) (c_Wk_thing hx5 rfl) ?_
      refine j_holds (D := D) d_Cr_look_40 fk_Cr_112 (c_holds hx9 D y φ (CR.kept (CK_hCr hck) hcr)) (Nat.le_of_ble_eq_true rfl) (by omega) ?_
      refine j_iload_n d_Cr_look_45 rfl ?_
      refine j_iand d_Cr_look_46 ?_
      have k65 : ∀ (f2 : Nat → Int32) (sp2 : Int32), f2 = (if φ (nA w1.2.2.2) &&& opF M mb = 0 then f1 else seeF K tkf w1 f1) → sp2 = (if φ (nA w1.2.2.2) &&& opF M mb = 0 then sp else sp ||| (φ (nA w1.2.2.2) &&& opF M mb)) → J E m_Cr_look (D + 3) 0 0 65 [(0, .ref a), (1, .ref y), (2, .int (nI lay)), (3, .int (opF M mb)), (4, .int sp2), (5, .int (nI i)), (6, .int (φ (nA w1.2.2.2) &&& opF M mb))] [] (hCr E h a p od K (my, f2, mb, sb, sc, sk, st, fi) w1) n (Rt none (hCr E h a p od K ((fun x : (Nat → Int32) × Int32 × WS => ((my, x.1, mb, wiF M x.2.1, sc, sk, st, fi), x.2.2)) (lkL K N vf tkf φ (opF M mb) (k + 1) (f1, sp, w1))).1 ((fun x : (Nat → Int32) × Int32 × WS => ((my, x.1, mb, wiF M x.2.1, sc, sk, st, fi), x.2.2)) (lkL K N vf tkf φ (opF M mb) (k + 1) (f1, sp, w1))).2) n) := by
        intro f2 sp2 hf2 hsp2
        have hy0 := hCr_0 (E := E) (h := h) (a := a) (p := p) (od := od) (K := K) (s := (my, f2, mb, sb, sc, sk, st, fi)) (ws := w1)
        have hy5 := hCr_5 (E := E) (h := h) (a := a) (p := p) (od := od) (K := K) (s := (my, f2, mb, sb, sc, sk, st, fi)) (ws := w1)
        refine j_aload_n d_Cr_look_65 rfl ?_
        refine j_get d_Cr_look_66 fl_Cr_33 (by first | assumption | exact hset_s _ _ _ | (rw [hset_n _ _ (by omega)]; first | assumption | exact hset_s _ _ _ | (rw [hset_n _ _ (by omega)]; first | assumption | exact hset_s _ _ _ | (rw [hset_n _ _ (by omega)]; first | assumption | exact hset_s _ _ _ | (rw [hset_n _ _ (by omega)]; first | assumption | exact hset_s _ _ _))))) rfl ?_
        refine j_callV (As := []) d_Cr_look_69 cb_Cr_120 vv_Wk_next hy5 rfl rfl rfl rfl (Nat.le_of_ble_eq_true rfl) (show 2 + 1 ≤ D + 3 by omega) (Nat.zero_le _) (Nat.zero_le _) (c_Wk_next (h := hC E h a p (my, f2, mb, sb, sc, sk, st, fi)) (w := a + 5) (by omega) ((hCx _ _ o4).trans o1) ((hCx _ _ o6).trans o3) (by omega) (by omega) hK o8 hx o9) (fun v' h' n' q _ => ?_)
        obtain ⟨rfl, rfl, q3⟩ := q; have q3 := q3.symm; subst q3
        refine j_iinc (v := nI (i + 1)) d_Cr_look_72 rfl (nI_succ i).symm (by decide) ?_
        refine j_goto (tgt := 26) d_Cr_look_75 (by decide) ?_
        have e1 : lkL K N vf tkf φ (opF M mb) (k + 1) (f1, sp, w1) = lkL K N vf tkf φ (opF M mb) k (f2, sp2, nxF vf N K w1) := by rw [hf2, hsp2]; rfl
        rw [e1]
        exact ih (i + 1) (f2, sp2, nxF vf N K w1) [(6, .int (φ (nA w1.2.2.2) &&& opF M mb))] (by omega) (nxF_WB K _ hx) (Or.inr ⟨_, rfl⟩)
      rcases hx6 with rfl | ⟨v6, rfl⟩
      all_goals
        refine j_istore d_Cr_look_47 (by decide) ?_
        refine j_iload d_Cr_look_49 rfl ?_
        refine j_if_eq (tgt := 65) d_Cr_look_51 (by decide) (fun c3 => ?_) (fun c3 => ?_)
        · exact k65 f1 sp (by rw [if_pos c3]) (by rw [if_pos c3])
        · refine j_iload d_Cr_look_54 rfl ?_
          refine j_iload d_Cr_look_56 rfl ?_
          refine j_ior d_Cr_look_58 ?_
          refine j_istore d_Cr_look_59 (by decide) ?_
          refine j_aload_n d_Cr_look_61 rfl ?_
          refine j_callV (As := []) d_Cr_look_62 cb_Cr_117 vv_Cr_seeLayout hx0 rfl rfl rfl rfl (Nat.le_of_ble_eq_true rfl) (show 1 + 1 ≤ D + 3 by omega) (Nat.zero_le _) (Nat.zero_le _) (c_Cr_seeLayout hb hp hpa o1 o2 o4 o5 hK hx) (fun v' h' n' q _ => ?_)
          obtain ⟨rfl, rfl, q3⟩ := q; have q3 := q3.symm; subst q3
          exact k65 (seeF K tkf w1 f1) (sp ||| (φ (nA w1.2.2.2) &&& opF M mb)) (by rw [if_neg c3]) (by rw [if_neg c3])
  exact loop lay 0 (fillF sn 3 0, 0, stF vf N K ws) [] (by omega) (stF_WB _ _ hs) (Or.inl rfl)
theorem lkF_WB {N M lay : Nat} {vf : Nat → Nat} {tkf : Nat → Int32} {φ : (Nat → Int32) → Int32} (hs : WB ws) : WB (lkF K N M vf tkf φ lay s ws).2 := lkL_WB lay _ (stF_WB _ _ hs)
theorem lkF_k {N M lay : Nat} {vf : Nat → Nat} {tkf : Nat → Int32} {φ : (Nat → Int32) → Int32} : (lkF K N M vf tkf φ lay s ws).1.2.2.2.2 = s.2.2.2.2 := rfl
theorem c_Cr_takeStep {N M cc D tk vl cnt : Nat} {al : Int32} {tkf : Nat → Int32} {vf : Nat → Nat} {φ : Nat → (Nat → Int32) → Int32} (F : PzG E h a p od K N M cc D φ) (O : OdF E h a od N tk vl cnt al tkf vf) (hs : WB ws) (hst : s.2.2.2.2.2.2.1 ≤ 54) :
    Ct E m_Cr_takeStep (D + 4) 0 0 [.ref a] (hCr E h a p od K s ws) n (Rt (some (.int (tsF K N M cc cnt vf tkf φ s ws).1)) (hCr E h a p od K (tsF K N M cc cnt vf tkf φ s ws).2.1 (tsF K N M cc cnt vf tkf φ s ws).2.2) n) := by
  have F0 := F
  have O0 := O
  obtain ⟨cp, f, hp, hpa, hcp, hcpa, hcl, hcc, hK, hM, hck, hb⟩ := F
  obtain ⟨o1, o2, o3, o4, o5, o6, o7, o8, o9⟩ := O
  refine Ct.go rfl rfl rfl ?_
  have hw0 := hCr_0 (E := E) (h := h) (a := a) (p := p) (od := od) (K := K) (s := s) (ws := ws)
  have hw1 := hCr_1 (E := E) (h := h) (a := a) (p := p) (od := od) (K := K) (s := s) (ws := ws)
  have hw5 := hCr_5 (E := E) (h := h) (a := a) (p := p) (od := od) (K := K) (s := s) (ws := ws)
  have hCx : ∀ (s : XS) q, q < a → hC E h a p s q = h q := fun s q hq => hC_x (Or.inl hq)
  refine j_aload_n d_Cr_takeStep_0 rfl ?_
  refine j_get d_Cr_takeStep_1 fl_Cr_33 (by first | assumption | exact hset_s _ _ _ | (rw [hset_n _ _ (by omega)]; first | assumption | exact hset_s _ _ _ | (rw [hset_n _ _ (by omega)]; first | assumption | exact hset_s _ _ _ | (rw [hset_n _ _ (by omega)]; first | assumption | exact hset_s _ _ _ | (rw [hset_n _ _ (by omega)]; first | assumption | exact hset_s _ _ _))))) rfl ?_
  refine j_aload_n d_Cr_takeStep_4 rfl ?_
  refine j_get d_Cr_takeStep_5 fl_Cr_9 (by first | assumption | exact hset_s _ _ _ | (rw [hset_n _ _ (by omega)]; first | assumption | exact hset_s _ _ _ | (rw [hset_n _ _ (by omega)]; first | assumption | exact hset_s _ _ _ | (rw [hset_n _ _ (by omega)]; first | assumption | exact hset_s _ _ _ | (rw [hset_n _ _ (by omega)]; first | assumption | exact hset_s _ _ _))))) rfl ?_
  refine j_callV (As := [.ref (a + 1)]) d_Cr_takeStep_8 cb_Cr_74 vv_Wk_choose hw5 rfl rfl rfl rfl (Nat.le_of_ble_eq_true rfl) (show 2 + 1 ≤ D + 4 by omega) (Nat.zero_le _) (Nat.zero_le _) (c_Wk_choose (h := hC E h a p s) (w := a + 5) (by omega) ((hCx _ _ o4).trans o1) ((hCx _ _ o5).trans o2) hC_1 (by omega) (by omega) (by omega) o7 hK hs.1) (fun v' h' n' q _ => ?_)
  obtain ⟨rfl, rfl, q3⟩ := q; have q3 := q3.symm; subst q3
  have hfin : tsF K N M cc cnt vf tkf φ s ws = tsL K N M vf tkf φ (chF tkf cnt K s.1 ws.1 ws.2.1).2.2 cc 0 (s, ((chF tkf cnt K s.1 ws.1 ws.2.1).1, (chF tkf cnt K s.1 ws.1 ws.2.1).2.1, ws.2.2)) := rfl
  rw [hfin]
  have hchB := chF_B (tkf := tkf) (my := s.1) o7 K 0 (ws.1, ws.2.1, 1) hs.1 hs.2.1
  generalize hch : chF tkf cnt K s.1 ws.1 ws.2.1 = ch
  rw [show (List.range' 0 K).foldl (chS tkf cnt s.1) (ws.1, ws.2.1, 1) = ch from hch] at hchB
  have hlay : ch.2.2 < 2 ^ 31 := by
    have h1 := hchB.2.2
    have h2 : 24 ^ K ≤ 24 ^ 3 := Nat.pow_le_pow_right (by omega) hK
    have h3 : (24 : Nat) ^ 3 = 13824 := by decide
    simp only [Nat.one_mul] at h1
    omega
  have hs1 : WB (ch.1, ch.2.1, ws.2.2) := ⟨hchB.1, hchB.2.1, hs.2.2⟩
  show J E m_Cr_takeStep (D + 4) 0 0 11 _ _ (hCr E h a p od K s (ch.1, ch.2.1, ws.2.2)) _ _
  refine j_istore_n d_Cr_takeStep_11 (by decide) ?_
  refine j_iconst (v := 0) d_Cr_takeStep_12 (by decide) ?_
  refine j_istore_n d_Cr_takeStep_13 (by decide) ?_
  have loop : ∀ (k c : Nat) (x : XS × WS) (x3 : List (Nat × Value)), c + k = cc → WB x.2 → x.1.2.2.2.2.2.2.1 ≤ 54 → (x3 = [] ∨ ∃ v, x3 = [(3, .int v)]) → J E m_Cr_takeStep (D + 4) 0 0 14 ([(0, .ref a), (1, .int (nI ch.2.2)), (2, .int (nI c))] ++ x3) [] (hCr E h a p od K x.1 x.2) n (Rt (some (.int (tsL K N M vf tkf φ ch.2.2 k c x).1)) (hCr E h a p od K (tsL K N M vf tkf φ ch.2.2 k c x).2.1 (tsL K N M vf tkf φ ch.2.2 k c x).2.2) n) := by
    intro k
    induction k with
    | zero =>
      intro c x x3 hc hx hx54 hx3
      have hc : c = cc := by omega
      subst hc
      have hx0 := hCr_0 (E := E) (h := h) (a := a) (p := p) (od := od) (K := K) (s := x.1) (ws := x.2)
      have hxp : hCr E h a p od K x.1 x.2 p = some (oPz (nI N) (nI K) (nI M) od cp (nI c)) := (hCr_x (Or.inl hpa)).trans hp
      refine j_iload_n d_Cr_takeStep_14 rfl ?_
      refine j_aload_n d_Cr_takeStep_15 rfl ?_
      refine j_get d_Cr_takeStep_16 fl_Cr_24 (by first | assumption | exact hset_s _ _ _ | (rw [hset_n _ _ (by omega)]; first | assumption | exact hset_s _ _ _ | (rw [hset_n _ _ (by omega)]; first | assumption | exact hset_s _ _ _ | (rw [hset_n _ _ (by omega)]; first | assumption | exact hset_s _ _ _ | (rw [hset_n _ _ (by omega)]; first | assumption | exact hset_s _ _ _))))) rfl ?_
      refine j_pV (As := []) d_Cr_takeStep_19 cb_Cr_78 vv_Pz_clueCount hxp rfl rfl rfl rfl (Nat.le_of_ble_eq_true rfl) (show 0 + 1 ≤ D + 4 by omega) (c_Pz_clueCount hxp rfl) ?_
      refine j_icmp_ge (tgt := 61) d_Cr_takeStep_22 (by decide) (fun c2 => ?_) (fun c2 => absurd (nI_le (Nat.le_refl _) (by omega)) c2)
      refine j_iconst (v := 0) d_Cr_takeStep_61 (by decide) ?_
      exact j_zret d_Cr_takeStep_62 rfl (Or.inl rfl) ⟨rfl, rfl, rfl⟩
    | succ k ih =>
      intro c x x3 hc hx hx54 hx3
      have hx0 := hCr_0 (E := E) (h := h) (a := a) (p := p) (od := od) (K := K) (s := x.1) (ws := x.2)
      have hxp : hCr E h a p od K x.1 x.2 p = some (oPz (nI N) (nI K) (nI M) od cp (nI cc)) := (hCr_x (Or.inl hpa)).trans hp
      have hxc : hCr E h a p od K x.1 x.2 cp = some (arQ E 3 20 f) := (hCr_x (Or.inl hcpa)).trans hcp
      obtain ⟨y, hy, hcr⟩ := hcl c (by omega)
      refine j_iload_n d_Cr_takeStep_14 rfl ?_
      refine j_aload_n d_Cr_takeStep_15 rfl ?_
      refine j_get d_Cr_takeStep_16 fl_Cr_24 (by first | assumption | exact hset_s _ _ _ | (rw [hset_n _ _ (by omega)]; first | assumption | exact hset_s _ _ _ | (rw [hset_n _ _ (by omega)]; first | assumption | exact hset_s _ _ _ | (rw [hset_n _ _ (by omega)]; first | assumption | exact hset_s _ _ _ | (rw [hset_n _ _ (by omega)]; first | assumption | exact hset_s _ _ _))))) rfl ?_
      refine j_pV (As := []) d_Cr_takeStep_19 cb_Cr_78 vv_Pz_clueCount hxp rfl rfl rfl rfl (Nat.le_of_ble_eq_true rfl) (show 0 + 1 ≤ D + 4 by omega) (c_Pz_clueCount hxp rfl) ?_
      refine j_icmp_ge (tgt := 61) d_Cr_takeStep_22 (by decide) (fun c2 => absurd c2 (nI_ge (by omega) (by omega))) (fun c2 => ?_)
      refine j_aload_n d_Cr_takeStep_25 rfl ?_
      refine j_aload_n d_Cr_takeStep_26 rfl ?_
      refine j_get d_Cr_takeStep_27 fl_Cr_24 (by first | assumption | exact hset_s _ _ _ | (rw [hset_n _ _ (by omega)]; first | assumption | exact hset_s _ _ _ | (rw [hset_n _ _ (by omega)]; first | assumption | exact hset_s _ _ _ | (rw [hset_n _ _ (by omega)]; first | assumption | exact hset_s _ _ _ | (rw [hset_n _ _ (by omega)]; first | assumption | exact hset_s _ _ _))))) rfl ?_
      refine j_iload_n d_Cr_takeStep_30 rfl ?_
      refine j_pV (As := [.int _]) d_Cr_takeStep_31 cb_Cr_81 vv_Pz_clue hxp rfl rfl rfl rfl (Nat.le_of_ble_eq_true rfl) (show 0 + 1 ≤ D + 4 by omega) (c_Pz_clue hxp hxc (vp_in_nI (by omega) (by omega)) (by rw [nI_clamp (by omega)]; exact hy)) ?_
      refine j_iload_n d_Cr_takeStep_34 rfl ?_
      refine j_callV (As := [.ref y, .int (nI ch.2.2)]) d_Cr_takeStep_35 cb_Cr_85 vv_Cr_look hx0 rfl rfl rfl rfl (Nat.le_of_ble_eq_true rfl) (show D + 3 + 1 ≤ D + 4 by omega) (Nat.zero_le _) (Nat.zero_le _) (c_Cr_look F0 O0 hcr hx hlay) (fun v' h' n' q _ => ?_)
      obtain ⟨rfl, rfl, q3⟩ := q; have q3 := q3.symm; subst q3
      generalize hlk : lkF K N M vf tkf (φ c) ch.2.2 x.1 x.2 = lk
      have hlkB : WB lk.2 := by rw [← hlk]; exact lkF_WB hx
      have hlk54 : lk.1.2.2.2.2.2.2.1 ≤ 54 := by rw [← hlk, lkF_k]; exact hx54
      have hy0 := hCr_0 (E := E) (h := h) (a := a) (p := p) (od := od) (K := K) (s := lk.1) (ws := lk.2)
      have e1 : tsL K N M vf tkf φ ch.2.2 (k + 1) c x = if 0 < cuF K lk.1 then (1, xoF K lk.1 c (cuF K lk.1), lk.2) else tsL K N M vf tkf φ ch.2.2 k (c + 1) lk := by rw [← hlk]; rfl
      rw [e1]
      refine j_aload_n d_Cr_takeStep_38 rfl ?_
      refine j_pV (As := []) d_Cr_takeStep_39 cb_Cr_89 vv_Cr_countUnseen hy0 rfl rfl rfl rfl (Nat.le_of_ble_eq_true rfl) (show 1 + 1 ≤ D + 4 by omega) (c_Cr_countUnseen hp hpa hK) ?_
      rcases hx3 with rfl | ⟨v3, rfl⟩
      all_goals
        refine j_istore_n d_Cr_takeStep_42 (by decide) ?_
        refine j_iload_n d_Cr_takeStep_43 rfl ?_
        refine j_if_le (tgt := 55) d_Cr_takeStep_44 (by decide) (fun c3 => ?_) (fun c3 => ?_)
        · rw [if_neg (Int32.not_lt.mpr c3)]
          refine j_iinc (v := nI (c + 1)) d_Cr_takeStep_55 rfl (nI_succ c).symm (by decide) ?_
          refine j_goto (tgt := 14) d_Cr_takeStep_58 (by decide) ?_
          exact ih (c + 1) lk [(3, .int (cuF K lk.1))] (by omega) hlkB hlk54 (Or.inr ⟨_, rfl⟩)
        · rw [if_pos (Int32.not_le.mp c3)]
          refine j_aload_n d_Cr_takeStep_47 rfl ?_
          refine j_iload_n d_Cr_takeStep_48 rfl ?_
          refine j_iload_n d_Cr_takeStep_49 rfl ?_
          refine j_callV (As := [.int (nI c), .int (cuF K lk.1)]) d_Cr_takeStep_50 cb_Cr_92 vv_Cr_crossOut hy0 rfl rfl rfl rfl (Nat.le_of_ble_eq_true rfl) (show 1 + 1 ≤ D + 4 by omega) (Nat.zero_le _) (Nat.zero_le _) (c_Cr_crossOut hb hp hpa hK hlk54) (fun v' h' n' q _ => ?_)
          obtain ⟨rfl, rfl, q3⟩ := q; have q3 := q3.symm; subst q3
          refine j_iconst (v := 1) d_Cr_takeStep_53 (by decide) ?_
          exact j_zret d_Cr_takeStep_54 rfl (Or.inr rfl) ⟨rfl, rfl, rfl⟩
  exact loop cc 0 (s, (ch.1, ch.2.1, ws.2.2)) [] (by omega) hs1 hst (Or.inl rfl)
end CR3

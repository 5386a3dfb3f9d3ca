section CR2
variable {E : EV} {h : HP} {n a p od K : Nat} {s : XS} {ws : WS}
def seeF (K : Nat) (tkf : Nat → Int32) (ws : WS) (sn : Nat → Int32) : Nat → Int32 := (List.range' 0 K).foldl (fun f kd => upd f kd (f kd ||| tkf (wOrd ws kd))) sn
def cuF (K : Nat) (s : XS) : Int32 := (List.range' 0 K).foldl (fun u kd => u + bcF (s.1 kd &&& (s.2.1 kd ^^^ (-1)))) (bcF (s.2.2.1 &&& (s.2.2.2.1 ^^^ (-1))))
def xoF (K : Nat) (s : XS) (c : Nat) (u : Int32) : XS := if s.2.2.2.2.2.2.1 < 54 then ((List.range' 0 K).foldl (fun f kd => upd f kd (s.2.1 kd)) s.1, s.2.1, s.2.2.2.1, s.2.2.2.1, upd s.2.2.2.2.1 s.2.2.2.2.2.2.1 (nI c), upd s.2.2.2.2.2.1 s.2.2.2.2.2.2.1 u, s.2.2.2.2.2.2.1 + 1, s.2.2.2.2.2.2.2) else ((List.range' 0 K).foldl (fun f kd => upd f kd (s.2.1 kd)) s.1, s.2.1, s.2.2.2.1, s.2.2.2.1, s.2.2.2.2)
/-- seen, seenParties, the walk -/
def lkL (K N : Nat) (vf : Nat → Nat) (tkf : Nat → Int32) (φ : (Nat → Int32) → Int32) (op : Int32) : Nat → (Nat → Int32) × Int32 × WS → (Nat → Int32) × Int32 × WS
  | 0, x => x
  | k + 1, x => lkL K N vf tkf φ op k (if φ (nA x.2.2.2.2.2) &&& op = 0 then x.1 else seeF K tkf x.2.2 x.1, if φ (nA x.2.2.2.2.2) &&& op = 0 then x.2.1 else x.2.1 ||| (φ (nA x.2.2.2.2.2) &&& op), nxF vf N K x.2.2)
def lkF (K N M : Nat) (vf : Nat → Nat) (tkf : Nat → Int32) (φ : (Nat → Int32) → Int32) (lay : Nat) (s : XS) (ws : WS) : XS × WS :=
  let x := lkL K N vf tkf φ (opF M s.2.2.1) lay (fillF s.2.1 3 0, 0, stF vf N K ws)
  ((s.1, x.1, s.2.2.1, wiF M x.2.1, s.2.2.2.2), x.2.2)
/-- the clues from c on: whether there was a step, and what came of it -/
def tsL (K N M : Nat) (vf : Nat → Nat) (tkf : Nat → Int32) (φ : Nat → (Nat → Int32) → Int32) (lay : Nat) : Nat → Nat → XS × WS → Int32 × XS × WS
  | 0, _, x => (0, x.1, x.2)
  | k + 1, c, x => if 0 < cuF K (lkF K N M vf tkf (φ c) lay x.1 x.2).1 then (1, xoF K (lkF K N M vf tkf (φ c) lay x.1 x.2).1 c (cuF K (lkF K N M vf tkf (φ c) lay x.1 x.2).1), (lkF K N M vf tkf (φ c) lay x.1 x.2).2) else tsL K N M vf tkf φ lay k (c + 1) (lkF K N M vf tkf (φ c) lay x.1 x.2)
def tsF (K N M cc cnt : Nat) (vf : Nat → Nat) (tkf : Nat → Int32) (φ : Nat → (Nat → Int32) → Int32) (s : XS) (ws : WS) : Int32 × XS × WS :=
  tsL K N M vf tkf φ (chF tkf cnt K s.1 ws.1 ws.2.1).2.2 cc 0 (s, ((chF tkf cnt K s.1 ws.1 ws.2.1).1, (chF tkf cnt K s.1 ws.1 ws.2.1).2.1, ws.2.2))
def fiL (K N M cc cnt : Nat) (vf : Nat → Nat) (tkf : Nat → Int32) (φ : Nat → (Nat → Int32) → Int32) : Nat → Int32 → XS × WS → XS × WS
  | 0, _, x => x
  | k + 1, m, x => if m = 0 then x else fiL K N M cc cnt vf tkf φ k (tsF K N M cc cnt vf tkf φ x.1 x.2).1 (tsF K N M cc cnt vf tkf φ x.1 x.2).2
theorem c_Cr_seeLayout {cp N M cc tk vl cnt : Nat} {al : Int32} {tkf : Nat → Int32} (hb : E.2.2.2.1 ≤ a) (hp : h p = some (oPz (nI N) (nI K) (nI M) od cp (nI cc))) (hpa : p < a) (ho : h od = some (oOd (nI N) tk vl (nI cnt) al)) (htk : h tk = some (arI E 0 24 tkf)) (hoa : od < a) (hta : tk < a) (hK : K ≤ 3) (hs : WB ws) :
    Ct E m_Cr_seeLayout 1 0 0 [.ref a] (hCr E h a p od K s ws) n (Rt none (hCr E h a p od K (s.1, seeF K tkf ws s.2.1, s.2.2) ws) n) := by
  refine Ct.go rfl rfl rfl ?_
  refine j_iconst (v := 0) d_Cr_seeLayout_0 (by decide) ?_
  refine j_istore_n d_Cr_seeLayout_1 (by decide) ?_
  have loop : ∀ (k kd : Nat) (f : Nat → Int32), kd + k = K → J E m_Cr_seeLayout 1 0 0 2 [(0, .ref a), (1, .int (nI kd))] [] (hCr E h a p od K (s.1, f, s.2.2) ws) n (Rt none (hCr E h a p od K (s.1, (List.range' kd k).foldl (fun f kd => upd f kd (f kd ||| tkf (wOrd ws kd))) f, s.2.2) ws) n) := by
    intro k
    induction k with
    | zero =>
      intro kd f hkd
      have hkd : kd = K := by omega
      subst hkd
      have hw0 := hCr_0 (E := E) (h := h) (a := a) (p := p) (od := od) (K := kd) (s := (s.1, f, s.2.2)) (ws := ws)
      have hwp : hCr E h a p od kd (s.1, f, s.2.2) ws p = some (oPz (nI N) (nI kd) (nI M) od cp (nI cc)) := (hCr_x (Or.inl hpa)).trans hp
      refine j_iload_n d_Cr_seeLayout_2 rfl ?_
      refine j_aload_n d_Cr_seeLayout_3 rfl ?_
      refine j_get d_Cr_seeLayout_4 fl_Cr_24 (by first | assumption | exact hset_s _ _ _ | (rw [hset_n _ _ (by omega)]; first | assumption | exact hset_s _ _ _ | (rw [hset_n _ _ (by omega)]; first | assumption | exact hset_s _ _ _ | (rw [hset_n _ _ (by omega)]; first | assumption | exact hset_s _ _ _ | (rw [hset_n _ _ (by omega)]; first | assumption | exact hset_s _ _ _))))) rfl ?_
      refine j_pV (As := []) d_Cr_seeLayout_7 cb_Cr_37 vv_Pz_kinds hwp rfl rfl rfl rfl (Nat.le_of_ble_eq_true rfl) (by decide) (c_Pz_kinds hwp rfl) ?_
      refine j_icmp_ge (tgt := 46) d_Cr_seeLayout_10 (by decide) (fun c2 => ?_) (fun c2 => absurd (nI_le (Nat.le_refl _) (by omega)) c2)
      exact j_vret d_Cr_seeLayout_46 rfl ⟨rfl, rfl, rfl⟩
    | succ k ih =>
      intro kd f hkd
      have hw0 := hCr_0 (E := E) (h := h) (a := a) (p := p) (od := od) (K := K) (s := (s.1, f, s.2.2)) (ws := ws)
      have hw2 := hCr_2 (E := E) (h := h) (a := a) (p := p) (od := od) (K := K) (s := (s.1, f, s.2.2)) (ws := ws)
      have hw5 := hCr_5 (E := E) (h := h) (a := a) (p := p) (od := od) (K := K) (s := (s.1, f, s.2.2)) (ws := ws)
      have hwp : hCr E h a p od K (s.1, f, s.2.2) ws p = some (oPz (nI N) (nI K) (nI M) od cp (nI cc)) := (hCr_x (Or.inl hpa)).trans hp
      have hwo : hCr E h a p od K (s.1, f, s.2.2) ws od = some (oOd (nI N) tk vl (nI cnt) al) := (hCr_x (Or.inl hoa)).trans ho
      have hwt : hCr E h a p od K (s.1, f, s.2.2) ws tk = some (arI E 0 24 tkf) := (hCr_x (Or.inl hta)).trans htk
      have hin : vp_in (nI kd) 3 := vp_in_nI (by omega) (by omega)
      have hord : wOrd ws kd < 24 := hs.1 _
      refine j_iload_n d_Cr_seeLayout_2 rfl ?_
      refine j_aload_n d_Cr_seeLayout_3 rfl ?_
      refine j_get d_Cr_seeLayout_4 fl_Cr_24 (by first | assumption | exact hset_s _ _ _ | (rw [hset_n _ _ (by omega)]; first | assumption | exact hset_s _ _ _ | (rw [hset_n _ _ (by omega)]; first | assumption | exact hset_s _ _ _ | (rw [hset_n _ _ (by omega)]; first | assumption | exact hset_s _ _ _ | (rw [hset_n _ _ (by omega)]; first | assumption | exact hset_s _ _ _))))) rfl ?_
      refine j_pV (As := []) d_Cr_seeLayout_7 cb_Cr_37 vv_Pz_kinds hwp rfl rfl rfl rfl (Nat.le_of_ble_eq_true rfl) (by decide) (c_Pz_kinds hwp rfl) ?_
      refine j_icmp_ge (tgt := 46) d_Cr_seeLayout_10 (by decide) (fun c2 => absurd c2 (nI_ge (by omega) (by omega))) (fun c2 => ?_)
      refine j_aload_n d_Cr_seeLayout_13 rfl ?_
      refine j_get d_Cr_seeLayout_14 fl_Cr_15 (by first | assumption | exact hset_s _ _ _ | (rw [hset_n _ _ (by omega)]; first | assumption | exact hset_s _ _ _ | (rw [hset_n _ _ (by omega)]; first | assumption | exact hset_s _ _ _ | (rw [hset_n _ _ (by omega)]; first | assumption | exact hset_s _ _ _ | (rw [hset_n _ _ (by omega)]; first | assumption | exact hset_s _ _ _))))) rfl ?_
      refine j_iload_n d_Cr_seeLayout_17 rfl ?_
      refine j_dup2 d_Cr_seeLayout_18 rfl rfl ?_
      refine j_iald (t := 0) d_Cr_seeLayout_19 rfl (by first | assumption | exact hset_s _ _ _ | (rw [hset_n _ _ (by omega)]; first | assumption | exact hset_s _ _ _ | (rw [hset_n _ _ (by omega)]; first | assumption | exact hset_s _ _ _ | (rw [hset_n _ _ (by omega)]; first | assumption | exact hset_s _ _ _ | (rw [hset_n _ _ (by omega)]; first | assumption | exact hset_s _ _ _))))) (by assumption) rfl ?_
      refine j_aload_n d_Cr_seeLayout_20 rfl ?_
      refine j_get d_Cr_seeLayout_21 fl_Cr_24 (by first | assumption | exact hset_s _ _ _ | (rw [hset_n _ _ (by omega)]; first | assumption | exact hset_s _ _ _ | (rw [hset_n _ _ (by omega)]; first | assumption | exact hset_s _ _ _ | (rw [hset_n _ _ (by omega)]; first | assumption | exact hset_s _ _ _ | (rw [hset_n _ _ (by omega)]; first | assumption | exact hset_s _ _ _))))) rfl ?_
      refine j_pV (As := []) d_Cr_seeLayout_24 cb_Cr_43 vv_Pz_orders hwp rfl rfl rfl rfl (Nat.le_of_ble_eq_true rfl) (by decide) (c_Pz_orders hwp rfl) ?_
      refine j_aload_n d_Cr_seeLayout_27 rfl ?_
      refine j_get d_Cr_seeLayout_28 fl_Cr_33 (by first | assumption | exact hset_s _ _ _ | (rw [hset_n _ _ (by omega)]; first | assumption | exact hset_s _ _ _ | (rw [hset_n _ _ (by omega)]; first | assumption | exact hset_s _ _ _ | (rw [hset_n _ _ (by omega)]; first | assumption | exact hset_s _ _ _ | (rw [hset_n _ _ (by omega)]; first | assumption | exact hset_s _ _ _))))) rfl ?_
      refine j_iload_n d_Cr_seeLayout_31 rfl ?_
      refine j_pV (As := [.int _]) d_Cr_seeLayout_32 cb_Cr_126 vv_Wk_order hw5 rfl rfl rfl rfl (Nat.le_of_ble_eq_true rfl) (by decide) (c_Wk_orderW hs (by omega)) ?_
      refine j_pV (As := [.int _]) d_Cr_seeLayout_35 cb_Cr_129 vv_Od_ticks hwo rfl rfl rfl rfl (Nat.le_of_ble_eq_true rfl) (by decide) (c_Od_ticks hwo hwt (vp_in_nI hord (by omega))) ?_
      refine j_ior d_Cr_seeLayout_38 ?_
      refine j_iast (t := 0) d_Cr_seeLayout_39 rfl hw2 (by omega) hin ?_
      refine j_iinc (v := nI (kd + 1)) d_Cr_seeLayout_40 rfl (nI_succ kd).symm (by decide) ?_
      refine j_goto (tgt := 2) d_Cr_seeLayout_43 (by decide) ?_
      rw [List.range'_succ, List.foldl_cons]
      refine J.conv (L := _) rfl ?_ (ih (kd + 1) _ (by omega))
      rw [nI_clamp (n := kd) (by omega), nI_clamp (n := wOrd ws kd) (by omega), hCr_s2]
  exact loop K 0 s.2.1 (by omega)
theorem c_Cr_countUnseen {cp N M cc : Nat} (hp : h p = some (oPz (nI N) (nI K) (nI M) od cp (nI cc))) (hpa : p < a) (hK : K ≤ 3) :
    Ct E m_Cr_countUnseen 1 0 0 [.ref a] (hCr E h a p od K s ws) n (Rt (some (.int (cuF K s))) (hCr E h a p od K s ws) n) := by
  refine Ct.go rfl rfl rfl ?_
  have hw0 := hCr_0 (E := E) (h := h) (a := a) (p := p) (od := od) (K := K) (s := s) (ws := ws)
  have hw1 := hCr_1 (E := E) (h := h) (a := a) (p := p) (od := od) (K := K) (s := s) (ws := ws)
  have hw2 := hCr_2 (E := E) (h := h) (a := a) (p := p) (od := od) (K := K) (s := s) (ws := ws)
  have hwp : hCr E h a p od K s ws p = some (oPz (nI N) (nI K) (nI M) od cp (nI cc)) := (hCr_x (Or.inl hpa)).trans hp
  refine j_aload_n d_Cr_countUnseen_0 rfl ?_
  refine j_get d_Cr_countUnseen_1 fl_Cr_59 (by first | assumption | exact hset_s _ _ _ | (rw [hset_n _ _ (by omega)]; first | assumption | exact hset_s _ _ _ | (rw [hset_n _ _ (by omega)]; first | assumption | exact hset_s _ _ _ | (rw [hset_n _ _ (by omega)]; first | assumption | exact hset_s _ _ _ | (rw [hset_n _ _ (by omega)]; first | assumption | exact hset_s _ _ _))))) rfl ?_
  refine j_aload_n d_Cr_countUnseen_4 rfl ?_
  refine j_get d_Cr_countUnseen_5 fl_Cr_123 (by first | assumption | exact hset_s _ _ _ | (rw [hset_n _ _ (by omega)]; first | assumption | exact hset_s _ _ _ | (rw [hset_n _ _ (by omega)]; first | assumption | exact hset_s _ _ _ | (rw [hset_n _ _ (by omega)]; first | assumption | exact hset_s _ _ _ | (rw [hset_n _ _ (by omega)]; first | assumption | exact hset_s _ _ _))))) rfl ?_
  refine j_iconst (v := (-1)) d_Cr_countUnseen_8 (by decide) ?_
  refine j_ixor d_Cr_countUnseen_9 ?_
  refine j_iand d_Cr_countUnseen_10 ?_
  refine j_pS (As := [.int _]) d_Cr_countUnseen_11 cb_Cr_141 sv_In_bitCount rfl rfl (Nat.le_of_ble_eq_true rfl) (by decide) (c_In_bitCount _) ?_
  refine j_istore_n d_Cr_countUnseen_14 (by decide) ?_
  refine j_iconst (v := 0) d_Cr_countUnseen_15 (by decide) ?_
  refine j_istore_n d_Cr_countUnseen_16 (by decide) ?_
  have loop : ∀ (k kd : Nat) (u : Int32), kd + k = K → J E m_Cr_countUnseen 1 0 0 17 [(0, .ref a), (1, .int u), (2, .int (nI kd))] [] (hCr E h a p od K s ws) n (Rt (some (.int ((List.range' kd k).foldl (fun u kd => u + bcF (s.1 kd &&& (s.2.1 kd ^^^ (-1)))) u))) (hCr E h a p od K s ws) n) := by
    intro k
    induction k with
    | zero =>
      intro kd u hkd
      have hkd : kd = K := by omega
      subst hkd
      refine j_iload_n d_Cr_countUnseen_17 rfl ?_
      refine j_aload_n d_Cr_countUnseen_18 rfl ?_
      refine j_get d_Cr_countUnseen_19 fl_Cr_24 (by first | assumption | exact hset_s _ _ _ | (rw [hset_n _ _ (by omega)]; first | assumption | exact hset_s _ _ _ | (rw [hset_n _ _ (by omega)]; first | assumption | exact hset_s _ _ _ | (rw [hset_n _ _ (by omega)]; first | assumption | exact hset_s _ _ _ | (rw [hset_n _ _ (by omega)]; first | assumption | exact hset_s _ _ _))))) rfl ?_
      refine j_pV (As := []) d_Cr_countUnseen_22 cb_Cr_37 vv_Pz_kinds hwp rfl rfl rfl rfl (Nat.le_of_ble_eq_true rfl) (by decide) (c_Pz_kinds hwp rfl) ?_
      refine j_icmp_ge (tgt := 55) d_Cr_countUnseen_25 (by decide) (fun c2 => ?_) (fun c2 => absurd (nI_le (Nat.le_refl _) (by omega)) c2)
      refine j_iload_n d_Cr_countUnseen_55 rfl ?_
      exact j_iret d_Cr_countUnseen_56 rfl ⟨rfl, rfl, rfl⟩
    | succ k ih =>
      intro kd u hkd
      have hin : vp_in (nI kd) 3 := vp_in_nI (by omega) (by omega)
      refine j_iload_n d_Cr_countUnseen_17 rfl ?_
      refine j_aload_n d_Cr_countUnseen_18 rfl ?_
      refine j_get d_Cr_countUnseen_19 fl_Cr_24 (by first | assumption | exact hset_s _ _ _ | (rw [hset_n _ _ (by omega)]; first | assumption | exact hset_s _ _ _ | (rw [hset_n _ _ (by omega)]; first | assumption | exact hset_s _ _ _ | (rw [hset_n _ _ (by omega)]; first | assumption | exact hset_s _ _ _ | (rw [hset_n _ _ (by omega)]; first | assumption | exact hset_s _ _ _))))) rfl ?_
      refine j_pV (As := []) d_Cr_countUnseen_22 cb_Cr_37 vv_Pz_kinds hwp rfl rfl rfl rfl (Nat.le_of_ble_eq_true rfl) (by decide) (c_Pz_kinds hwp rfl) ?_
      refine j_icmp_ge (tgt := 55) d_Cr_countUnseen_25 (by decide) (fun c2 => absurd c2 (nI_ge (by omega) (by omega))) (fun c2 => ?_)
      refine j_iload_n d_Cr_countUnseen_28 rfl ?_
      refine j_aload_n d_Cr_countUnseen_29 rfl ?_
      refine j_get d_Cr_countUnseen_30 fl_Cr_9 (by first | assumption | exact hset_s _ _ _ | (rw [hset_n _ _ (by omega)]; first | assumption | exact hset_s _ _ _ | (rw [hset_n _ _ (by omega)]; first | assumption | exact hset_s _ _ _ | (rw [hset_n _ _ (by omega)]; first | assumption | exact hset_s _ _ _ | (rw [hset_n _ _ (by omega)]; first | assumption | exact hset_s _ _ _))))) rfl ?_
      refine j_iload_n d_Cr_countUnseen_33 rfl ?_
      refine j_iald (t := 0) d_Cr_countUnseen_34 rfl (by first | assumption | exact hset_s _ _ _ | (rw [hset_n _ _ (by omega)]; first | assumption | exact hset_s _ _ _ | (rw [hset_n _ _ (by omega)]; first | assumption | exact hset_s _ _ _ | (rw [hset_n _ _ (by omega)]; first | assumption | exact hset_s _ _ _ | (rw [hset_n _ _ (by omega)]; first | assumption | exact hset_s _ _ _))))) (by assumption) rfl ?_
      refine j_aload_n d_Cr_countUnseen_35 rfl ?_
      refine j_get d_Cr_countUnseen_36 fl_Cr_15 (by first | assumption | exact hset_s _ _ _ | (rw [hset_n _ _ (by omega)]; first | assumption | exact hset_s _ _ _ | (rw [hset_n _ _ (by omega)]; first | assumption | exact hset_s _ _ _ | (rw [hset_n _ _ (by omega)]; first | assumption | exact hset_s _ _ _ | (rw [hset_n _ _ (by omega)]; first | assumption | exact hset_s _ _ _))))) rfl ?_
      refine j_iload_n d_Cr_countUnseen_39 rfl ?_
      refine j_iald (t := 0) d_Cr_countUnseen_40 rfl (by first | assumption | exact hset_s _ _ _ | (rw [hset_n _ _ (by omega)]; first | assumption | exact hset_s _ _ _ | (rw [hset_n _ _ (by omega)]; first | assumption | exact hset_s _ _ _ | (rw [hset_n _ _ (by omega)]; first | assumption | exact hset_s _ _ _ | (rw [hset_n _ _ (by omega)]; first | assumption | exact hset_s _ _ _))))) (by assumption) rfl ?_
      refine j_iconst (v := (-1)) d_Cr_countUnseen_41 (by decide) ?_
      refine j_ixor d_Cr_countUnseen_42 ?_
      refine j_iand d_Cr_countUnseen_43 ?_
      rw [nI_clamp (by omega)]
      refine j_pS (As := [.int _]) d_Cr_countUnseen_44 cb_Cr_141 sv_In_bitCount rfl rfl (Nat.le_of_ble_eq_true rfl) (by decide) (c_In_bitCount _) ?_
      refine j_iadd d_Cr_countUnseen_47 ?_
      refine j_istore_n d_Cr_countUnseen_48 (by decide) ?_
      refine j_iinc (v := nI (kd + 1)) d_Cr_countUnseen_49 rfl (nI_succ kd).symm (by decide) ?_
      refine j_goto (tgt := 17) d_Cr_countUnseen_52 (by decide) ?_
      rw [List.range'_succ, List.foldl_cons]
      exact ih (kd + 1) _ (by omega)
  exact loop K 0 _ (by omega)
theorem c_Cr_crossOut {cp N M cc c : Nat} {u : Int32} (hb : E.2.2.2.1 ≤ a) (hp : h p = some (oPz (nI N) (nI K) (nI M) od cp (nI cc))) (hpa : p < a) (hK : K ≤ 3) (hst : s.2.2.2.2.2.2.1 ≤ 54) :
    Ct E m_Cr_crossOut 1 0 0 [.ref a, .int (nI c), .int u] (hCr E h a p od K s ws) n (Rt none (hCr E h a p od K (xoF K s c u) ws) n) := by
  refine Ct.go rfl rfl rfl ?_
  obtain ⟨my, sn, mb, sb, sc, sk, st, fi⟩ := s
  dsimp only at hst
  refine j_iconst (v := 0) d_Cr_crossOut_0 (by decide) ?_
  refine j_istore_n d_Cr_crossOut_1 (by decide) ?_
  have loop : ∀ (k kd : Nat) (f : Nat → Int32), kd + k = K → J E m_Cr_crossOut 1 0 0 2 [(0, .ref a), (1, .int (nI c)), (2, .int u), (3, .int (nI kd))] [] (hCr E h a p od K (f, sn, mb, sb, sc, sk, st, fi) ws) n (Rt none (hCr E h a p od K (if st < 54 then ((List.range' kd k).foldl (fun f kd => upd f kd (sn kd)) f, sn, sb, sb, upd sc st (nI c), upd sk st u, st + 1, fi) else ((List.range' kd k).foldl (fun f kd => upd f kd (sn kd)) f, sn, sb, sb, sc, sk, st, fi)) ws) n) := by
    intro k
    induction k with
    | zero =>
      intro kd f hkd
      have hkd : kd = K := by omega
      subst hkd
      have hw0 := hCr_0 (E := E) (h := h) (a := a) (p := p) (od := od) (K := kd) (s := (f, sn, mb, sb, sc, sk, st, fi)) (ws := ws)
      have hwp : hCr E h a p od kd (f, sn, mb, sb, sc, sk, st, fi) ws p = some (oPz (nI N) (nI kd) (nI M) od cp (nI cc)) := (hCr_x (Or.inl hpa)).trans hp
      refine j_iload_n d_Cr_crossOut_2 rfl ?_
      refine j_aload_n d_Cr_crossOut_3 rfl ?_
      refine j_get d_Cr_crossOut_4 fl_Cr_24 (by first | assumption | exact hset_s _ _ _ | (rw [hset_n _ _ (by omega)]; first | assumption | exact hset_s _ _ _ | (rw [hset_n _ _ (by omega)]; first | assumption | exact hset_s _ _ _ | (rw [hset_n _ _ (by omega)]; first | assumption | exact hset_s _ _ _ | (rw [hset_n _ _ (by omega)]; first | assumption | exact hset_s _ _ _))))) rfl ?_
      refine j_pV (As := []) d_Cr_crossOut_7 cb_Cr_37 vv_Pz_kinds hwp rfl rfl rfl rfl (Nat.le_of_ble_eq_true rfl) (by decide) (c_Pz_kinds hwp rfl) ?_
      refine j_icmp_ge (tgt := 31) d_Cr_crossOut_10 (by decide) (fun c2 => ?_) (fun c2 => absurd (nI_le (Nat.le_refl _) (by omega)) c2)
      refine j_aload_n d_Cr_crossOut_31 rfl ?_
      refine j_aload_n d_Cr_crossOut_32 rfl ?_
      refine j_get d_Cr_crossOut_33 fl_Cr_123 (by first | assumption | exact hset_s _ _ _ | (rw [hset_n _ _ (by omega)]; first | assumption | exact hset_s _ _ _ | (rw [hset_n _ _ (by omega)]; first | assumption | exact hset_s _ _ _ | (rw [hset_n _ _ (by omega)]; first | assumption | exact hset_s _ _ _ | (rw [hset_n _ _ (by omega)]; first | assumption | exact hset_s _ _ _))))) rfl ?_
      refine j_put d_Cr_crossOut_36 fl_Cr_59 fp_Cr (Or.inl rfl) hw0 hb rfl rfl (Nat.le_of_ble_eq_true rfl) ?_
      refine J.conv (L := _) rfl (show _ = hCr E h a p od kd (f, sn, sb, sb, sc, sk, st, fi) ws from hCr_s0) ?_
      have hv0 := hCr_0 (E := E) (h := h) (a := a) (p := p) (od := od) (K := kd) (s := (f, sn, sb, sb, sc, sk, st, fi)) (ws := ws)
      have hv3 := hCr_3 (E := E) (h := h) (a := a) (p := p) (od := od) (K := kd) (s := (f, sn, sb, sb, sc, sk, st, fi)) (ws := ws)
      refine j_aload_n d_Cr_crossOut_39 rfl ?_
      refine j_get d_Cr_crossOut_40 fl_Cr_63 (by first | assumption | exact hset_s _ _ _ | (rw [hset_n _ _ (by omega)]; first | assumption | exact hset_s _ _ _ | (rw [hset_n _ _ (by omega)]; first | assumption | exact hset_s _ _ _ | (rw [hset_n _ _ (by omega)]; first | assumption | exact hset_s _ _ _ | (rw [hset_n _ _ (by omega)]; first | assumption | exact hset_s _ _ _))))) rfl ?_
      refine j_bipush (v := 54) d_Cr_crossOut_43 (by decide) ?_
      refine j_icmp_ge (tgt := 78) d_Cr_crossOut_45 (by decide) (fun c3 => ?_) (fun c3 => ?_)
      · have hge : ¬ st < 54 := fun q => absurd c3 (nI_ge (a := st) (b := 54) q (by omega))
        refine j_vret d_Cr_crossOut_78 rfl ⟨rfl, ?_, rfl⟩
        rw [if_neg hge]
        rfl
      · have hlt : st < 54 := Nat.not_le.mp (fun q => c3 (nI_le (a := 54) (b := st) q (by omega)))
        refine j_aload_n d_Cr_crossOut_48 rfl ?_
        refine j_get d_Cr_crossOut_49 fl_Cr_18 (by first | assumption | exact hset_s _ _ _ | (rw [hset_n _ _ (by omega)]; first | assumption | exact hset_s _ _ _ | (rw [hset_n _ _ (by omega)]; first | assumption | exact hset_s _ _ _ | (rw [hset_n _ _ (by omega)]; first | assumption | exact hset_s _ _ _ | (rw [hset_n _ _ (by omega)]; first | assumption | exact hset_s _ _ _))))) rfl ?_
        refine j_aload_n d_Cr_crossOut_52 rfl ?_
        refine j_get d_Cr_crossOut_53 fl_Cr_63 (by first | assumption | exact hset_s _ _ _ | (rw [hset_n _ _ (by omega)]; first | assumption | exact hset_s _ _ _ | (rw [hset_n _ _ (by omega)]; first | assumption | exact hset_s _ _ _ | (rw [hset_n _ _ (by omega)]; first | assumption | exact hset_s _ _ _ | (rw [hset_n _ _ (by omega)]; first | assumption | exact hset_s _ _ _))))) rfl ?_
        refine j_iload_n d_Cr_crossOut_56 rfl ?_
        refine j_iast (t := 0) d_Cr_crossOut_57 rfl hv3 (by omega) (vp_in_nI hlt (by omega)) ?_
        refine J.conv (L := _) rfl (show _ = hCr E h a p od kd (f, sn, sb, sb, upd sc st (nI c), sk, st, fi) ws by rw [nI_clamp (n := st) (by omega), hCr_s3]) ?_
        have hu0 := hCr_0 (E := E) (h := h) (a := a) (p := p) (od := od) (K := kd) (s := (f, sn, sb, sb, upd sc st (nI c), sk, st, fi)) (ws := ws)
        have hu4 := hCr_4 (E := E) (h := h) (a := a) (p := p) (od := od) (K := kd) (s := (f, sn, sb, sb, upd sc st (nI c), sk, st, fi)) (ws := ws)
        refine j_aload_n d_Cr_crossOut_58 rfl ?_
        refine j_get d_Cr_crossOut_59 fl_Cr_21 (by first | assumption | exact hset_s _ _ _ | (rw [hset_n _ _ (by omega)]; first | assumption | exact hset_s _ _ _ | (rw [hset_n _ _ (by omega)]; first | assumption | exact hset_s _ _ _ | (rw [hset_n _ _ (by omega)]; first | assumption | exact hset_s _ _ _ | (rw [hset_n _ _ (by omega)]; first | assumption | exact hset_s _ _ _))))) rfl ?_
        refine j_aload_n d_Cr_crossOut_62 rfl ?_
        refine j_get d_Cr_crossOut_63 fl_Cr_63 (by first | assumption | exact hset_s _ _ _ | (rw [hset_n _ _ (by omega)]; first | assumption | exact hset_s _ _ _ | (rw [hset_n _ _ (by omega)]; first | assumption | exact hset_s _ _ _ | (rw [hset_n _ _ (by omega)]; first | assumption | exact hset_s _ _ _ | (rw [hset_n _ _ (by omega)]; first | assumption | exact hset_s _ _ _))))) rfl ?_
        refine j_iload_n d_Cr_crossOut_66 rfl ?_
        refine j_iast (t := 0) d_Cr_crossOut_67 rfl hu4 (by omega) (vp_in_nI hlt (by omega)) ?_
        refine J.conv (L := _) rfl (show _ = hCr E h a p od kd (f, sn, sb, sb, upd sc st (nI c), upd sk st u, st, fi) ws by rw [nI_clamp (n := st) (by omega), hCr_s4]) ?_
        have ht0 := hCr_0 (E := E) (h := h) (a := a) (p := p) (od := od) (K := kd) (s := (f, sn, sb, sb, upd sc st (nI c), upd sk st u, st, fi)) (ws := ws)
        refine j_aload_n d_Cr_crossOut_68 rfl ?_
        refine j_dup d_Cr_crossOut_69 rfl ?_
        refine j_get d_Cr_crossOut_70 fl_Cr_63 (by first | assumption | exact hset_s _ _ _ | (rw [hset_n _ _ (by omega)]; first | assumption | exact hset_s _ _ _ | (rw [hset_n _ _ (by omega)]; first | assumption | exact hset_s _ _ _ | (rw [hset_n _ _ (by omega)]; first | assumption | exact hset_s _ _ _ | (rw [hset_n _ _ (by omega)]; first | assumption | exact hset_s _ _ _))))) rfl ?_
        refine j_iconst (v := 1) d_Cr_crossOut_73 (by decide) ?_
        refine j_iadd d_Cr_crossOut_74 ?_
        refine j_put d_Cr_crossOut_75 fl_Cr_63 fp_Cr (Or.inl rfl) ht0 hb rfl rfl (Nat.le_of_ble_eq_true rfl) ?_
        refine j_vret d_Cr_crossOut_78 rfl ⟨rfl, ?_, rfl⟩
        rw [if_pos hlt]
        show hset _ a (oCr p (a + 5) (a + 1) (a + 2) sb sb (a + 3) (a + 4) (nI st + 1) fi) = _
        rw [nI_1, hCr_s0]
        rfl
    | succ k ih =>
      intro kd f hkd
      have hw0 := hCr_0 (E := E) (h := h) (a := a) (p := p) (od := od) (K := K) (s := (f, sn, mb, sb, sc, sk, st, fi)) (ws := ws)
      have hw1 := hCr_1 (E := E) (h := h) (a := a) (p := p) (od := od) (K := K) (s := (f, sn, mb, sb, sc, sk, st, fi)) (ws := ws)
      have hw2 := hCr_2 (E := E) (h := h) (a := a) (p := p) (od := od) (K := K) (s := (f, sn, mb, sb, sc, sk, st, fi)) (ws := ws)
      have hwp : hCr E h a p od K (f, sn, mb, sb, sc, sk, st, fi) ws p = some (oPz (nI N) (nI K) (nI M) od cp (nI cc)) := (hCr_x (Or.inl hpa)).trans hp
      have hin : vp_in (nI kd) 3 := vp_in_nI (by omega) (by omega)
      refine j_iload_n d_Cr_crossOut_2 rfl ?_
      refine j_aload_n d_Cr_crossOut_3 rfl ?_
      refine j_get d_Cr_crossOut_4 fl_Cr_24 (by first | assumption | exact hset_s _ _ _ | (rw [hset_n _ _ (by omega)]; first | assumption | exact hset_s _ _ _ | (rw [hset_n _ _ (by omega)]; first | assumption | exact hset_s _ _ _ | (rw [hset_n _ _ (by omega)]; first | assumption | exact hset_s _ _ _ | (rw [hset_n _ _ (by omega)]; first | assumption | exact hset_s _ _ _))))) rfl ?_
      refine j_pV (As := []) d_Cr_crossOut_7 cb_Cr_37 vv_Pz_kinds hwp rfl rfl rfl rfl (Nat.le_of_ble_eq_true rfl) (by decide) (c_Pz_kinds hwp rfl) ?_
      refine j_icmp_ge (tgt := 31) d_Cr_crossOut_10 (by decide) (fun c2 => absurd c2 (nI_ge (by omega) (by omega))) (fun c2 => ?_)
      refine j_aload_n d_Cr_crossOut_13 rfl ?_
      refine j_get d_Cr_crossOut_14 fl_Cr_9 (by first | assumption | exact hset_s _ _ _ | (rw [hset_n _ _ (by omega)]; first | assumption | exact hset_s _ _ _ | (rw [hset_n _ _ (by omega)]; first | assumption | exact hset_s _ _ _ | (rw [hset_n _ _ (by omega)]; first | assumption | exact hset_s _ _ _ | (rw [hset_n _ _ (by omega)]; first | assumption | exact hset_s _ _ _))))) rfl ?_
      refine j_iload_n d_Cr_crossOut_17 rfl ?_
      refine j_aload_n d_Cr_crossOut_18 rfl ?_
      refine j_get d_Cr_crossOut_19 fl_Cr_15 (by first | assumption | exact hset_s _ _ _ | (rw [hset_n _ _ (by omega)]; first | assumption | exact hset_s _ _ _ | (rw [hset_n _ _ (by omega)]; first | assumption | exact hset_s _ _ _ | (rw [hset_n _ _ (by omega)]; first | assumption | exact hset_s _ _ _ | (rw [hset_n _ _ (by omega)]; first | assumption | exact hset_s _ _ _))))) rfl ?_
      refine j_iload_n d_Cr_crossOut_22 rfl ?_
      refine j_iald (t := 0) d_Cr_crossOut_23 rfl (by first | assumption | exact hset_s _ _ _ | (rw [hset_n _ _ (by omega)]; first | assumption | exact hset_s _ _ _ | (rw [hset_n _ _ (by omega)]; first | assumption | exact hset_s _ _ _ | (rw [hset_n _ _ (by omega)]; first | assumption | exact hset_s _ _ _ | (rw [hset_n _ _ (by omega)]; first | assumption | exact hset_s _ _ _))))) (by assumption) rfl ?_
      refine j_iast (t := 0) d_Cr_crossOut_24 rfl hw1 (by omega) hin ?_
      refine j_iinc (v := nI (kd + 1)) d_Cr_crossOut_25 rfl (nI_succ kd).symm (by decide) ?_
      refine j_goto (tgt := 2) d_Cr_crossOut_28 (by decide) ?_
      rw [List.range'_succ, List.foldl_cons]
      refine J.conv (L := _) rfl ?_ (ih (kd + 1) _ (by omega))
      rw [nI_clamp (n := kd) (by omega), hCr_s1]
  exact loop K 0 my (by omega)
end CR2

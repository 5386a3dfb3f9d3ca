section ANS
variable {E : EV} {h : HP} {n : Nat}
/-- Answers: keptOrder, keptParty, countWithOrder, holding, needed, count, kept, found -/
abbrev AS : Type := (Nat → Nat) × (Nat → Nat) × (Nat → Int32) × (Nat → Int32) × (Nat → Int32) × Int32 × Nat × Int32
def hB (E : EV) (h : HP) (a p : Nat) (s : AS) : HP := hset (hset (hset (hset (hset (hset h a (oAn p (a + 6) (a + 1) (a + 2) (a + 3) (a + 4) (a + 5) s.2.2.2.2.2.1 (nI s.2.2.2.2.2.2.1) s.2.2.2.2.2.2.2)) (a + 1) (arI E 0 300 (nA s.1))) (a + 2) (arI E 0 100 (nA s.2.1))) (a + 3) (arI E 0 72 s.2.2.1)) (a + 4) (arI E 0 20 s.2.2.2.1)) (a + 5) (arI E 1 20 s.2.2.2.2.1)
def hAn (E : EV) (h : HP) (a p od K : Nat) (s : AS) (ws : WS) : HP := hW E (hB E h a p s) (a + 6) od K ws
theorem hW_out {w od K q : Nat} {ws : WS} {e : va_E} (hq : q < w) : hset (hW E h w od K ws) q e = hW E (hset h q e) w od K ws := by
  unfold hW
  rw [hset_comm _ _ _ (show w + 4 ≠ q by omega), hset_comm _ _ _ (show w + 3 ≠ q by omega), hset_comm _ _ _ (show w + 2 ≠ q by omega), hset_comm _ _ _ (show w + 1 ≠ q by omega), hset_comm _ _ _ (show w ≠ q by omega)]
variable {a p od K : Nat} {s : AS} {ws : WS}
theorem hAn_0 : hAn E h a p od K s ws a = some (oAn p (a + 6) (a + 1) (a + 2) (a + 3) (a + 4) (a + 5) s.2.2.2.2.2.1 (nI s.2.2.2.2.2.2.1) s.2.2.2.2.2.2.2) := by unfold hAn; rw [hW_x (by omega)]; simp [hB, hset]
theorem hAn_1 : hAn E h a p od K s ws (a + 1) = some (arI E 0 300 (nA s.1)) := by unfold hAn; rw [hW_x (by omega)]; simp [hB, hset]
theorem hAn_2 : hAn E h a p od K s ws (a + 2) = some (arI E 0 100 (nA s.2.1)) := by unfold hAn; rw [hW_x (by omega)]; simp [hB, hset]
theorem hAn_3 : hAn E h a p od K s ws (a + 3) = some (arI E 0 72 s.2.2.1) := by unfold hAn; rw [hW_x (by omega)]; simp [hB, hset]
theorem hAn_4 : hAn E h a p od K s ws (a + 4) = some (arI E 0 20 s.2.2.2.1) := by unfold hAn; rw [hW_x (by omega)]; simp [hB, hset]
theorem hAn_5 : hAn E h a p od K s ws (a + 5) = some (arI E 1 20 s.2.2.2.2.1) := by unfold hAn; rw [hW_x (by omega)]; simp [hB, hset]
theorem hAn_6 : hAn E h a p od K s ws (a + 6) = some (oWk od (nI K) (a + 6 + 1) (a + 6 + 2) (a + 6 + 3) (a + 6 + 4)) := hW_0
theorem hAn_10 : hAn E h a p od K s ws (a + 6 + 4) = some (arI E 0 12 (nA ws.2.2.2)) := hW_4
theorem hB_x {q : Nat} (hq : q < a ∨ a + 5 < q) : hB E h a p s q = h q := by
  have h0 : q ≠ a := by omega
  have h1 : q ≠ a + 1 := by omega
  have h2 : q ≠ a + 2 := by omega
  have h3 : q ≠ a + 3 := by omega
  have h4 : q ≠ a + 4 := by omega
  have h5 : q ≠ a + 5 := by omega
  simp [hB, hset, h0, h1, h2, h3, h4, h5]
theorem hAn_x {q : Nat} (hq : q < a ∨ a + 10 < q) : hAn E h a p od K s ws q = h q := by unfold hAn; rw [hW_x (by omega), hB_x (by omega)]
theorem hAn_s0 {c : Int32} {k : Nat} {f : Int32} : hset (hAn E h a p od K s ws) a (oAn p (a + 6) (a + 1) (a + 2) (a + 3) (a + 4) (a + 5) c (nI k) f) = hAn E h a p od K (s.1, s.2.1, s.2.2.1, s.2.2.2.1, s.2.2.2.2.1, c, k, f) ws := by
  unfold hAn; rw [hW_out (by omega)]; congr 1; funext q; unfold hB hset
  by_cases h0 : q = a <;> simp [h0]
theorem hAn_s1 {f : Nat → Nat} : hset (hAn E h a p od K s ws) (a + 1) (arI E 0 300 (nA f)) = hAn E h a p od K (f, s.2) ws := by
  unfold hAn; rw [hW_out (by omega)]; congr 1; funext q; unfold hB hset
  by_cases h0 : q = a + 1 <;> simp [h0]
theorem hAn_s2 {f : Nat → Nat} : hset (hAn E h a p od K s ws) (a + 2) (arI E 0 100 (nA f)) = hAn E h a p od K (s.1, f, s.2.2) ws := by
  unfold hAn; rw [hW_out (by omega)]; congr 1; funext q; unfold hB hset
  by_cases h0 : q = a + 2 <;> simp [h0]
theorem hAn_s3 {f : Nat → Int32} : hset (hAn E h a p od K s ws) (a + 3) (arI E 0 72 f) = hAn E h a p od K (s.1, s.2.1, f, s.2.2.2) ws := by
  unfold hAn; rw [hW_out (by omega)]; congr 1; funext q; unfold hB hset
  by_cases h0 : q = a + 3 <;> simp [h0]
theorem hAn_s4 {f : Nat → Int32} : hset (hAn E h a p od K s ws) (a + 4) (arI E 0 20 f) = hAn E h a p od K (s.1, s.2.1, s.2.2.1, f, s.2.2.2.2) ws := by
  unfold hAn; rw [hW_out (by omega)]; congr 1; funext q; unfold hB hset
  by_cases h0 : q = a + 4 <;> simp [h0]
theorem hAn_s5 {f : Nat → Int32} : hset (hAn E h a p od K s ws) (a + 5) (arI E 1 20 f) = hAn E h a p od K (s.1, s.2.1, s.2.2.1, s.2.2.2.1, f, s.2.2.2.2.2) ws := by
  unfold hAn; rw [hW_out (by omega)]; congr 1; funext q; unfold hB hset
  by_cases h0 : q = a + 5 <;> simp [h0]
/-- the order at which a kind stands -/
def wOrd (ws : WS) (kd : Nat) : Nat := ws.1 (24 * kd + ws.2.2.1 kd)
theorem c_Wk_orderW {w kd : Nat} (hs : WB ws) (hkd : kd < 3) : Ct E m_Wk_order 0 0 0 [.ref w, .int (nI kd)] (hW E h w od K ws) n (Rt (some (.int (nI (wOrd ws kd)))) (hW E h w od K ws) n) := by
  have ha := hs.2.2 kd
  have e1 : 24 * nI kd + nA ws.2.2.1 (nI kd).toNatClampNeg = nI (24 * kd + ws.2.2.1 kd) := by rw [nI_clamp (by omega)]; exact n24 _ _
  have := c_Wk_order (E := E) (n := n) (x := nI kd) (hW_0 (E := E) (h := h) (w := w) (od := od) (K := K) (s := ws)) hW_1 hW_3 (vp_in_nI (by omega) (by omega)) (by rw [e1]; exact vp_in_nI (by omega) (by omega))
  rw [e1, nI_clamp (by omega)] at this
  exact this
/-! what it does, in numbers -/
def keepF (K : Nat) (ws : WS) (s : AS) (pt : Nat) : AS := ((List.range' 0 K).foldl (fun f kd => upN f (3 * s.2.2.2.2.2.2.1 + kd) (wOrd ws kd)) s.1, upN s.2.1 s.2.2.2.2.2.2.1 pt, s.2.2.1, s.2.2.2.1, s.2.2.2.2.1, s.2.2.2.2.2.1, s.2.2.2.2.2.2.1 + 1, s.2.2.2.2.2.2.2)
def kpS (K : Nat) (ws : WS) (pts : Int32) (s : AS) (pt : Nat) : AS := if s.2.2.2.2.2.2.1 < 100 ∧ ¬ (pts >>> (nI pt &&& 31)) &&& 1 = 0 then keepF K ws s pt else s
def anAdd (K : Nat) (ws : WS) (s : AS) (pts : Int32) : AS := (List.range' 0 8).foldl (kpS K ws pts) (s.1, s.2.1, (List.range' 0 K).foldl (fun f kd => upd f (24 * kd + wOrd ws kd) (f (24 * kd + wOrd ws kd) + bcF pts)) s.2.2.1, s.2.2.2.1, s.2.2.2.2.1, s.2.2.2.2.2.1 + bcF pts, s.2.2.2.2.2.2)
def anNeed (cc : Nat) (s : AS) (pts : Int32) : AS := (s.1, s.2.1, s.2.2.1, s.2.2.2.1, (List.range' 0 cc).foldl (fun f c => if pts &&& (s.2.2.2.1 c ^^^ (-1)) = 0 then f else upd f c 1) s.2.2.2.2.1, s.2.2.2.2.2)
/-- holding, noneFails, oneFails -/
def wlS (φ : Nat → (Nat → Int32) → Int32) (th : Nat → Int32) (x : (Nat → Int32) × Int32 × Int32) (c : Nat) : (Nat → Int32) × Int32 × Int32 :=
  if x.2.1 ||| x.2.2 = 0 then x else (upd x.1 c (φ c th), x.2.1 &&& φ c th, (x.2.2 &&& φ c th) ||| (x.2.1 &&& (φ c th ^^^ (-1))))
def anEnd (cc K : Nat) (ws : WS) (s : AS) (x : (Nat → Int32) × Int32 × Int32) : AS :=
  if x.2.2 = 0 then (if x.2.1 = 0 then (s.1, s.2.1, s.2.2.1, x.1, s.2.2.2.2) else anAdd K ws (s.1, s.2.1, s.2.2.1, x.1, s.2.2.2.2) x.2.1) else anNeed cc (if x.2.1 = 0 then (s.1, s.2.1, s.2.2.1, x.1, s.2.2.2.2) else anAdd K ws (s.1, s.2.1, s.2.2.1, x.1, s.2.2.2.2) x.2.1) x.2.2
def anWeigh (cc K : Nat) (pM : Int32) (φ : Nat → (Nat → Int32) → Int32) (ws : WS) (s : AS) : AS := anEnd cc K ws s ((List.range' 0 cc).foldl (wlS φ (nA ws.2.2.2)) (s.2.2.2.1, pM, 0))
theorem keepF_k {s : AS} {pt : Nat} : (keepF K ws s pt).2.2.2.2.2.2.1 = s.2.2.2.2.2.2.1 + 1 := rfl
theorem kps_id {pts : Int32} : ∀ (l : List Nat) (s : AS), ¬ s.2.2.2.2.2.2.1 < 100 → l.foldl (kpS K ws pts) s = s
  | [], _, _ => rfl
  | v :: l, s, h => by
    rw [List.foldl_cons, show kpS K ws pts s v = s from if_neg (fun q => h q.1)]
    exact kps_id l s h
theorem kps_le {pts : Int32} : ∀ (l : List Nat) (s : AS), s.2.2.2.2.2.2.1 ≤ 100 → (l.foldl (kpS K ws pts) s).2.2.2.2.2.2.1 ≤ 100
  | [], _, h => h
  | v :: l, s, h => by
    rw [List.foldl_cons]
    refine kps_le l _ ?_
    unfold kpS
    split
    · rename_i q; rw [keepF_k]; omega
    · exact h
theorem wls_id {φ : Nat → (Nat → Int32) → Int32} {th : Nat → Int32} : ∀ (l : List Nat) (x : (Nat → Int32) × Int32 × Int32), x.2.1 ||| x.2.2 = 0 → l.foldl (wlS φ th) x = x
  | [], _, _ => rfl
  | v :: l, x, h => by
    rw [List.foldl_cons, show wlS φ th x v = x from if_pos h]
    exact wls_id l x h
/-! keep, add, need -/
theorem c_An_keep {cp N M cc pt : Nat} (hb : E.2.2.2.1 ≤ a) (hp : h p = some (oPz (nI N) (nI K) (nI M) od cp (nI cc))) (hpa : p < a) (hK : K ≤ 3) (hs : WB ws) (hk : s.2.2.2.2.2.2.1 < 100) :
    Ct E m_An_keep 1 0 0 [.ref a, .int (nI pt)] (hAn E h a p od K s ws) n (Rt none (hAn E h a p od K (keepF K ws s pt) ws) n) := by
  refine Ct.go rfl rfl rfl ?_
  obtain ⟨ko, kp, co, ho, ne, cnt, kept, fnd⟩ := s
  dsimp only at hk
  refine j_iconst (v := 0) d_An_keep_0 (by decide) ?_
  refine j_istore_n d_An_keep_1 (by decide) ?_
  have loop : ∀ (k kd : Nat) (f : Nat → Nat), kd + k = K → J E m_An_keep 1 0 0 2 [(0, .ref a), (1, .int (nI pt)), (2, .int (nI kd))] [] (hAn E h a p od K (f, kp, co, ho, ne, cnt, kept, fnd) ws) n (Rt none (hAn E h a p od K ((List.range' kd k).foldl (fun f kd => upN f (3 * kept + kd) (wOrd ws kd)) f, upN kp kept pt, co, ho, ne, cnt, kept + 1, fnd) ws) n) := by
    intro k
    induction k with
    | zero =>
      intro kd f hkd
      have hkd : kd = K := by omega
      subst hkd
      have hw0 := hAn_0 (E := E) (h := h) (a := a) (p := p) (od := od) (K := kd) (s := (f, kp, co, ho, ne, cnt, kept, fnd)) (ws := ws)
      have hw2 := hAn_2 (E := E) (h := h) (a := a) (p := p) (od := od) (K := kd) (s := (f, kp, co, ho, ne, cnt, kept, fnd)) (ws := ws)
      have hwp : hAn E h a p od kd (f, kp, co, ho, ne, cnt, kept, fnd) ws p = some (oPz (nI N) (nI kd) (nI M) od cp (nI cc)) := (hAn_x (Or.inl hpa)).trans hp
      refine j_iload_n d_An_keep_2 rfl ?_
      refine j_aload_n d_An_keep_3 rfl ?_
      refine j_get d_An_keep_4 fl_An_28 (by first | assumption | exact hset_s _ _ _ | (rw [hset_n _ _ (by omega)]; first | assumption | exact hset_s _ _ _ | (rw [hset_n _ _ (by omega)]; first | assumption | exact hset_s _ _ _ | (rw [hset_n _ _ (by omega)]; first | assumption | exact hset_s _ _ _ | (rw [hset_n _ _ (by omega)]; first | assumption | exact hset_s _ _ _))))) rfl ?_
      refine j_pV (As := []) d_An_keep_7 cb_An_124 vv_Pz_kinds hwp rfl rfl rfl rfl (Nat.le_of_ble_eq_true rfl) (by decide) (c_Pz_kinds hwp rfl) ?_
      refine j_icmp_ge (tgt := 40) d_An_keep_10 (by decide) (fun c2 => ?_) (fun c2 => absurd (nI_le (Nat.le_refl _) (by omega)) c2)
      refine j_aload_n d_An_keep_40 rfl ?_
      refine j_get d_An_keep_41 fl_An_15 (by first | assumption | exact hset_s _ _ _ | (rw [hset_n _ _ (by omega)]; first | assumption | exact hset_s _ _ _ | (rw [hset_n _ _ (by omega)]; first | assumption | exact hset_s _ _ _ | (rw [hset_n _ _ (by omega)]; first | assumption | exact hset_s _ _ _ | (rw [hset_n _ _ (by omega)]; first | assumption | exact hset_s _ _ _))))) rfl ?_
      refine j_aload_n d_An_keep_44 rfl ?_
      refine j_get d_An_keep_45 fl_An_45 (by first | assumption | exact hset_s _ _ _ | (rw [hset_n _ _ (by omega)]; first | assumption | exact hset_s _ _ _ | (rw [hset_n _ _ (by omega)]; first | assumption | exact hset_s _ _ _ | (rw [hset_n _ _ (by omega)]; first | assumption | exact hset_s _ _ _ | (rw [hset_n _ _ (by omega)]; first | assumption | exact hset_s _ _ _))))) rfl ?_
      refine j_iload_n d_An_keep_48 rfl ?_
      refine j_iast (t := 0) d_An_keep_49 rfl hw2 (by omega) (vp_in_nI hk (by omega)) ?_
      refine J.conv (L := _) rfl (show _ = hAn E h a p od kd (f, upN kp kept pt, co, ho, ne, cnt, kept, fnd) ws by rw [nI_clamp (n := kept) (by omega), upd_nA, hAn_s2]) ?_
      have hv0 := hAn_0 (E := E) (h := h) (a := a) (p := p) (od := od) (K := kd) (s := (f, upN kp kept pt, co, ho, ne, cnt, kept, fnd)) (ws := ws)
      refine j_aload_n d_An_keep_50 rfl ?_
      refine j_dup d_An_keep_51 rfl ?_
      refine j_get d_An_keep_52 fl_An_45 (by first | assumption | exact hset_s _ _ _ | (rw [hset_n _ _ (by omega)]; first | assumption | exact hset_s _ _ _ | (rw [hset_n _ _ (by omega)]; first | assumption | exact hset_s _ _ _ | (rw [hset_n _ _ (by omega)]; first | assumption | exact hset_s _ _ _ | (rw [hset_n _ _ (by omega)]; first | assumption | exact hset_s _ _ _))))) rfl ?_
      refine j_iconst (v := 1) d_An_keep_55 (by decide) ?_
      refine j_iadd d_An_keep_56 ?_
      refine j_put d_An_keep_57 fl_An_45 fp_An (Or.inl rfl) hv0 hb rfl rfl (Nat.le_of_ble_eq_true rfl) ?_
      refine J.conv (L := _) rfl (show _ = hAn E h a p od kd (f, upN kp kept pt, co, ho, ne, cnt, kept + 1, fnd) ws from ?_) ?_
      · show hset _ a (oAn p (a + 6) (a + 1) (a + 2) (a + 3) (a + 4) (a + 5) cnt (nI kept + 1) fnd) = _
        rw [nI_1, hAn_s0]
      · exact j_vret d_An_keep_60 rfl ⟨rfl, rfl, rfl⟩
    | succ k ih =>
      intro kd f hkd
      have hw0 := hAn_0 (E := E) (h := h) (a := a) (p := p) (od := od) (K := K) (s := (f, kp, co, ho, ne, cnt, kept, fnd)) (ws := ws)
      have hw1 := hAn_1 (E := E) (h := h) (a := a) (p := p) (od := od) (K := K) (s := (f, kp, co, ho, ne, cnt, kept, fnd)) (ws := ws)
      have hw6 := hAn_6 (E := E) (h := h) (a := a) (p := p) (od := od) (K := K) (s := (f, kp, co, ho, ne, cnt, kept, fnd)) (ws := ws)
      have hwp : hAn E h a p od K (f, kp, co, ho, ne, cnt, kept, fnd) ws p = some (oPz (nI N) (nI K) (nI M) od cp (nI cc)) := (hAn_x (Or.inl hpa)).trans hp
      refine j_iload_n d_An_keep_2 rfl ?_
      refine j_aload_n d_An_keep_3 rfl ?_
      refine j_get d_An_keep_4 fl_An_28 (by first | assumption | exact hset_s _ _ _ | (rw [hset_n _ _ (by omega)]; first | assumption | exact hset_s _ _ _ | (rw [hset_n _ _ (by omega)]; first | assumption | exact hset_s _ _ _ | (rw [hset_n _ _ (by omega)]; first | assumption | exact hset_s _ _ _ | (rw [hset_n _ _ (by omega)]; first | assumption | exact hset_s _ _ _))))) rfl ?_
      refine j_pV (As := []) d_An_keep_7 cb_An_124 vv_Pz_kinds hwp rfl rfl rfl rfl (Nat.le_of_ble_eq_true rfl) (by decide) (c_Pz_kinds hwp rfl) ?_
      refine j_icmp_ge (tgt := 40) d_An_keep_10 (by decide) (fun c2 => absurd c2 (nI_ge (by omega) (by omega))) (fun c2 => ?_)
      refine j_aload_n d_An_keep_13 rfl ?_
      refine j_get d_An_keep_14 fl_An_9 (by first | assumption | exact hset_s _ _ _ | (rw [hset_n _ _ (by omega)]; first | assumption | exact hset_s _ _ _ | (rw [hset_n _ _ (by omega)]; first | assumption | exact hset_s _ _ _ | (rw [hset_n _ _ (by omega)]; first | assumption | exact hset_s _ _ _ | (rw [hset_n _ _ (by omega)]; first | assumption | exact hset_s _ _ _))))) rfl ?_
      refine j_iconst (v := 3) d_An_keep_17 (by decide) ?_
      refine j_aload_n d_An_keep_18 rfl ?_
      refine j_get d_An_keep_19 fl_An_45 (by first | assumption | exact hset_s _ _ _ | (rw [hset_n _ _ (by omega)]; first | assumption | exact hset_s _ _ _ | (rw [hset_n _ _ (by omega)]; first | assumption | exact hset_s _ _ _ | (rw [hset_n _ _ (by omega)]; first | assumption | exact hset_s _ _ _ | (rw [hset_n _ _ (by omega)]; first | assumption | exact hset_s _ _ _))))) rfl ?_
      refine j_imul d_An_keep_22 ?_
      refine j_iload_n d_An_keep_23 rfl ?_
      refine j_iadd d_An_keep_24 ?_
      refine j_aload_n d_An_keep_25 rfl ?_
      refine j_get d_An_keep_26 fl_An_37 (by first | assumption | exact hset_s _ _ _ | (rw [hset_n _ _ (by omega)]; first | assumption | exact hset_s _ _ _ | (rw [hset_n _ _ (by omega)]; first | assumption | exact hset_s _ _ _ | (rw [hset_n _ _ (by omega)]; first | assumption | exact hset_s _ _ _ | (rw [hset_n _ _ (by omega)]; first | assumption | exact hset_s _ _ _))))) rfl ?_
      refine j_iload_n d_An_keep_29 rfl ?_
      refine j_pV (As := [.int _]) d_An_keep_30 cb_An_127 vv_Wk_order hw6 rfl rfl rfl rfl (Nat.le_of_ble_eq_true rfl) (by decide) (c_Wk_orderW hs (by omega)) ?_
      refine j_iast (t := 0) d_An_keep_33 rfl hw1 (by omega) (show vp_in (3 * nI kept + nI kd) 300 by rw [n3]; exact vp_in_nI (by omega) (by omega)) ?_
      refine j_iinc (v := nI (kd + 1)) d_An_keep_34 rfl (nI_succ kd).symm (by decide) ?_
      refine j_goto (tgt := 2) d_An_keep_37 (by decide) ?_
      rw [List.range'_succ, List.foldl_cons]
      refine J.conv (L := _) rfl ?_ (ih (kd + 1) _ (by omega))
      show hset _ (a + 1) (arI E 0 300 (upd (nA f) (3 * nI kept + nI kd).toNatClampNeg _)) = _
      rw [n3, nI_clamp (by omega), upd_nA, hAn_s1]
  exact loop K 0 ko (by omega)
theorem c_An_need {cp N M cc : Nat} {pts : Int32} (hb : E.2.2.2.1 ≤ a) (hp : h p = some (oPz (nI N) (nI K) (nI M) od cp (nI cc))) (hpa : p < a) (hcc : cc ≤ 20) :
    Ct E m_An_need 1 0 0 [.ref a, .int pts] (hAn E h a p od K s ws) n (Rt none (hAn E h a p od K (anNeed cc s pts) ws) n) := by
  refine Ct.go rfl rfl rfl ?_
  obtain ⟨ko, kp, co, ho, ne, cnt, kept, fnd⟩ := s
  refine j_iconst (v := 0) d_An_need_0 (by decide) ?_
  refine j_istore_n d_An_need_1 (by decide) ?_
  have loop : ∀ (k c : Nat) (f : Nat → Int32), c + k = cc → J E m_An_need 1 0 0 2 [(0, .ref a), (1, .int pts), (2, .int (nI c))] [] (hAn E h a p od K (ko, kp, co, ho, f, cnt, kept, fnd) ws) n (Rt none (hAn E h a p od K (ko, kp, co, ho, (List.range' c k).foldl (fun f c => if pts &&& (ho c ^^^ (-1)) = 0 then f else upd f c 1) f, cnt, kept, fnd) ws) n) := by
    intro k
    induction k with
    | zero =>
      intro c f hc
      have hc : c = cc := by omega
      subst hc
      have hw0 := hAn_0 (E := E) (h := h) (a := a) (p := p) (od := od) (K := K) (s := (ko, kp, co, ho, f, cnt, kept, fnd)) (ws := ws)
      have hwp : hAn E h a p od K (ko, kp, co, ho, f, cnt, kept, fnd) ws p = some (oPz (nI N) (nI K) (nI M) od cp (nI c)) := (hAn_x (Or.inl hpa)).trans hp
      refine j_iload_n d_An_need_2 rfl ?_
      refine j_aload_n d_An_need_3 rfl ?_
      refine j_get d_An_need_4 fl_An_28 (by first | assumption | exact hset_s _ _ _ | (rw [hset_n _ _ (by omega)]; first | assumption | exact hset_s _ _ _ | (rw [hset_n _ _ (by omega)]; first | assumption | exact hset_s _ _ _ | (rw [hset_n _ _ (by omega)]; first | assumption | exact hset_s _ _ _ | (rw [hset_n _ _ (by omega)]; first | assumption | exact hset_s _ _ _))))) rfl ?_
      refine j_pV (As := []) d_An_need_7 cb_An_95 vv_Pz_clueCount hwp rfl rfl rfl rfl (Nat.le_of_ble_eq_true rfl) (by decide) (c_Pz_clueCount hwp rfl) ?_
      refine j_icmp_ge (tgt := 39) d_An_need_10 (by decide) (fun c2 => ?_) (fun c2 => absurd (nI_le (Nat.le_refl _) (by omega)) c2)
      exact j_vret d_An_need_39 rfl ⟨rfl, rfl, rfl⟩
    | succ k ih =>
      intro c f hc
      have hw0 := hAn_0 (E := E) (h := h) (a := a) (p := p) (od := od) (K := K) (s := (ko, kp, co, ho, f, cnt, kept, fnd)) (ws := ws)
      have hw4 := hAn_4 (E := E) (h := h) (a := a) (p := p) (od := od) (K := K) (s := (ko, kp, co, ho, f, cnt, kept, fnd)) (ws := ws)
      have hw5 := hAn_5 (E := E) (h := h) (a := a) (p := p) (od := od) (K := K) (s := (ko, kp, co, ho, f, cnt, kept, fnd)) (ws := ws)
      have hwp : hAn E h a p od K (ko, kp, co, ho, f, cnt, kept, fnd) ws p = some (oPz (nI N) (nI K) (nI M) od cp (nI cc)) := (hAn_x (Or.inl hpa)).trans hp
      have hin : vp_in (nI c) 20 := vp_in_nI (by omega) (by omega)
      refine j_iload_n d_An_need_2 rfl ?_
      refine j_aload_n d_An_need_3 rfl ?_
      refine j_get d_An_need_4 fl_An_28 (by first | assumption | exact hset_s _ _ _ | (rw [hset_n _ _ (by omega)]; first | assumption | exact hset_s _ _ _ | (rw [hset_n _ _ (by omega)]; first | assumption | exact hset_s _ _ _ | (rw [hset_n _ _ (by omega)]; first | assumption | exact hset_s _ _ _ | (rw [hset_n _ _ (by omega)]; first | assumption | exact hset_s _ _ _))))) rfl ?_
      refine j_pV (As := []) d_An_need_7 cb_An_95 vv_Pz_clueCount hwp rfl rfl rfl rfl (Nat.le_of_ble_eq_true rfl) (by decide) (c_Pz_clueCount hwp rfl) ?_
      refine j_icmp_ge (tgt := 39) d_An_need_10 (by decide) (fun c2 => absurd c2 (nI_ge (by omega) (by omega))) (fun c2 => ?_)
      refine j_iload_n d_An_need_13 rfl ?_
      refine j_aload_n d_An_need_14 rfl ?_
      refine j_get d_An_need_15 fl_An_21 (by first | assumption | exact hset_s _ _ _ | (rw [hset_n _ _ (by omega)]; first | assumption | exact hset_s _ _ _ | (rw [hset_n _ _ (by omega)]; first | assumption | exact hset_s _ _ _ | (rw [hset_n _ _ (by omega)]; first | assumption | exact hset_s _ _ _ | (rw [hset_n _ _ (by omega)]; first | assumption | exact hset_s _ _ _))))) rfl ?_
      refine j_iload_n d_An_need_18 rfl ?_
      refine j_iald (t := 0) d_An_need_19 rfl (by first | assumption | exact hset_s _ _ _ | (rw [hset_n _ _ (by omega)]; first | assumption | exact hset_s _ _ _ | (rw [hset_n _ _ (by omega)]; first | assumption | exact hset_s _ _ _ | (rw [hset_n _ _ (by omega)]; first | assumption | exact hset_s _ _ _ | (rw [hset_n _ _ (by omega)]; first | assumption | exact hset_s _ _ _))))) (by assumption) rfl ?_
      refine j_iconst (v := (-1)) d_An_need_20 (by decide) ?_
      refine j_ixor d_An_need_21 ?_
      refine j_iand d_An_need_22 ?_
      rw [nI_clamp (by omega)]
      rw [List.range'_succ, List.foldl_cons]
      refine j_if_eq (tgt := 33) d_An_need_23 (by decide) (fun c3 => ?_) (fun c3 => ?_)
      · refine j_iinc (v := nI (c + 1)) d_An_need_33 rfl (nI_succ c).symm (by decide) ?_
        refine j_goto (tgt := 2) d_An_need_36 (by decide) ?_
        rw [if_pos c3]
        exact ih (c + 1) f (by omega)
      · refine j_aload_n d_An_need_26 rfl ?_
        refine j_get d_An_need_27 fl_An_24 (by first | assumption | exact hset_s _ _ _ | (rw [hset_n _ _ (by omega)]; first | assumption | exact hset_s _ _ _ | (rw [hset_n _ _ (by omega)]; first | assumption | exact hset_s _ _ _ | (rw [hset_n _ _ (by omega)]; first | assumption | exact hset_s _ _ _ | (rw [hset_n _ _ (by omega)]; first | assumption | exact hset_s _ _ _))))) rfl ?_
        refine j_iload_n d_An_need_30 rfl ?_
        refine j_iconst (v := 1) d_An_need_31 (by decide) ?_
        refine j_zast (t := 1) d_An_need_32 rfl hw5 (by omega) hin ?_
        refine j_iinc (v := nI (c + 1)) d_An_need_33 rfl (nI_succ c).symm (by decide) ?_
        refine j_goto (tgt := 2) d_An_need_36 (by decide) ?_
        rw [if_neg c3]
        refine J.conv (L := _) rfl ?_ (ih (c + 1) _ (by omega))
        rw [nI_clamp (by omega), show vp_nar .boolean 1 = 1 from rfl, hAn_s5]
  exact loop cc 0 ne (by omega)
theorem c_An_add {cp N M cc : Nat} {pts : Int32} (hb : E.2.2.2.1 ≤ a) (hp : h p = some (oPz (nI N) (nI K) (nI M) od cp (nI cc))) (hpa : p < a) (hK : K ≤ 3) (hs : WB ws) (hk : s.2.2.2.2.2.2.1 ≤ 100) :
    Ct E m_An_add 2 0 0 [.ref a, .int pts] (hAn E h a p od K s ws) n (Rt none (hAn E h a p od K (anAdd K ws s pts) ws) n) := by
  refine Ct.go rfl rfl rfl ?_
  obtain ⟨ko, kp, co, ho, ne, cnt, kept, fnd⟩ := s
  dsimp only at hk
  have hw0 := hAn_0 (E := E) (h := h) (a := a) (p := p) (od := od) (K := K) (s := (ko, kp, co, ho, ne, cnt, kept, fnd)) (ws := ws)
  refine j_iload_n d_An_add_0 rfl ?_
  refine j_pS (As := [.int _]) d_An_add_1 cb_An_118 sv_In_bitCount rfl rfl (Nat.le_of_ble_eq_true rfl) (by decide) (c_In_bitCount _) ?_
  refine j_istore_n d_An_add_4 (by decide) ?_
  refine j_aload_n d_An_add_5 rfl ?_
  refine j_dup d_An_add_6 rfl ?_
  refine j_get d_An_add_7 fl_An_41 (by first | assumption | exact hset_s _ _ _ | (rw [hset_n _ _ (by omega)]; first | assumption | exact hset_s _ _ _ | (rw [hset_n _ _ (by omega)]; first | assumption | exact hset_s _ _ _ | (rw [hset_n _ _ (by omega)]; first | assumption | exact hset_s _ _ _ | (rw [hset_n _ _ (by omega)]; first | assumption | exact hset_s _ _ _))))) rfl ?_
  refine j_iload_n d_An_add_10 rfl ?_
  refine j_iadd d_An_add_11 ?_
  refine j_put d_An_add_12 fl_An_41 fp_An (Or.inl rfl) hw0 hb rfl rfl (Nat.le_of_ble_eq_true rfl) ?_
  refine J.conv (L := _) rfl (show _ = hAn E h a p od K (ko, kp, co, ho, ne, cnt + bcF pts, kept, fnd) ws from hAn_s0) ?_
  refine j_iconst (v := 0) d_An_add_15 (by decide) ?_
  refine j_istore_n d_An_add_16 (by decide) ?_
  have loop2 : ∀ (k pt : Nat) (s : AS), pt + k = 8 → s.2.2.2.2.2.2.1 ≤ 100 → J E m_An_add 2 0 0 58 [(0, .ref a), (1, .int pts), (2, .int (bcF pts)), (3, .int (nI pt))] [] (hAn E h a p od K s ws) n (Rt none (hAn E h a p od K ((List.range' pt k).foldl (kpS K ws pts) s) ws) n) := by
    intro k
    induction k with
    | zero =>
      intro pt s hpt hk
      have hpt : pt = 8 := by omega
      subst hpt
      refine j_iload_n d_An_add_58 rfl ?_
      refine j_bipush (v := 8) d_An_add_59 (by decide) ?_
      refine j_icmp_ge (tgt := 92) d_An_add_61 (by decide) (fun c2 => ?_) (fun c2 => absurd (by decide) c2)
      exact j_vret d_An_add_92 rfl ⟨rfl, rfl, rfl⟩
    | succ k ih =>
      intro pt s hpt hk
      have hw0 := hAn_0 (E := E) (h := h) (a := a) (p := p) (od := od) (K := K) (s := s) (ws := ws)
      refine j_iload_n d_An_add_58 rfl ?_
      refine j_bipush (v := 8) d_An_add_59 (by decide) ?_
      refine j_icmp_ge (tgt := 92) d_An_add_61 (by decide) (fun c2 => absurd c2 (nI_ge (a := pt) (b := 8) (by omega) (by omega))) (fun c2 => ?_)
      refine j_aload_n d_An_add_64 rfl ?_
      refine j_get d_An_add_65 fl_An_45 (by first | assumption | exact hset_s _ _ _ | (rw [hset_n _ _ (by omega)]; first | assumption | exact hset_s _ _ _ | (rw [hset_n _ _ (by omega)]; first | assumption | exact hset_s _ _ _ | (rw [hset_n _ _ (by omega)]; first | assumption | exact hset_s _ _ _ | (rw [hset_n _ _ (by omega)]; first | assumption | exact hset_s _ _ _))))) rfl ?_
      refine j_bipush (v := 100) d_An_add_68 (by decide) ?_
      refine j_icmp_ge (tgt := 92) d_An_add_70 (by decide) (fun c3 => ?_) (fun c3 => ?_)
      · have hge : ¬ s.2.2.2.2.2.2.1 < 100 := fun q => absurd c3 (nI_ge (b := 100) q (by omega))
        rw [kps_id _ s hge]
        exact j_vret d_An_add_92 rfl ⟨rfl, rfl, rfl⟩
      · have hlt : s.2.2.2.2.2.2.1 < 100 := Nat.not_le.mp (fun q => c3 (nI_le (a := 100) q (by omega)))
        refine j_iload_n d_An_add_73 rfl ?_
        refine j_iload_n d_An_add_74 rfl ?_
        refine j_ishr d_An_add_75 ?_
        refine j_iconst (v := 1) d_An_add_76 (by decide) ?_
        refine j_iand d_An_add_77 ?_
        rw [List.range'_succ, List.foldl_cons]
        refine j_if_eq (tgt := 86) d_An_add_78 (by decide) (fun c4 => ?_) (fun c4 => ?_)
        · refine j_iinc (v := nI (pt + 1)) d_An_add_86 rfl (nI_succ pt).symm (by decide) ?_
          refine j_goto (tgt := 58) d_An_add_89 (by decide) ?_
          rw [show kpS K ws pts s pt = s from if_neg (fun q => q.2 c4)]
          exact ih (pt + 1) s (by omega) hk
        · refine j_aload_n d_An_add_81 rfl ?_
          refine j_iload_n d_An_add_82 rfl ?_
          refine j_callV (As := [.int (nI pt)]) d_An_add_83 cb_An_130 vv_An_keep hw0 rfl rfl rfl rfl (Nat.le_of_ble_eq_true rfl) (by decide) (Nat.zero_le _) (Nat.zero_le _) (c_An_keep hb hp hpa hK hs hlt) (fun v' h' n' q _ => ?_)
          obtain ⟨rfl, rfl, rfl⟩ := q
          refine j_iinc (v := nI (pt + 1)) d_An_add_86 rfl (nI_succ pt).symm (by decide) ?_
          refine j_goto (tgt := 58) d_An_add_89 (by decide) ?_
          rw [show kpS K ws pts s pt = keepF K ws s pt from if_pos ⟨hlt, c4⟩]
          exact ih (pt + 1) _ (by omega) (by rw [keepF_k]; omega)
  have loop : ∀ (k kd : Nat) (f : Nat → Int32), kd + k = K → J E m_An_add 2 0 0 17 [(0, .ref a), (1, .int pts), (2, .int (bcF pts)), (3, .int (nI kd))] [] (hAn E h a p od K (ko, kp, f, ho, ne, cnt + bcF pts, kept, fnd) ws) n (Rt none (hAn E h a p od K ((List.range' 0 8).foldl (kpS K ws pts) (ko, kp, (List.range' kd k).foldl (fun f kd => upd f (24 * kd + wOrd ws kd) (f (24 * kd + wOrd ws kd) + bcF pts)) f, ho, ne, cnt + bcF pts, kept, fnd)) ws) n) := by
    intro k
    induction k with
    | zero =>
      intro kd f hkd
      have hkd : kd = K := by omega
      subst hkd
      have hw0 := hAn_0 (E := E) (h := h) (a := a) (p := p) (od := od) (K := kd) (s := (ko, kp, f, ho, ne, cnt + bcF pts, kept, fnd)) (ws := ws)
      have hwp : hAn E h a p od kd (ko, kp, f, ho, ne, cnt + bcF pts, kept, fnd) ws p = some (oPz (nI N) (nI kd) (nI M) od cp (nI cc)) := (hAn_x (Or.inl hpa)).trans hp
      refine j_iload_n d_An_add_17 rfl ?_
      refine j_aload_n d_An_add_18 rfl ?_
      refine j_get d_An_add_19 fl_An_28 (by first | assumption | exact hset_s _ _ _ | (rw [hset_n _ _ (by omega)]; first | assumption | exact hset_s _ _ _ | (rw [hset_n _ _ (by omega)]; first | assumption | exact hset_s _ _ _ | (rw [hset_n _ _ (by omega)]; first | assumption | exact hset_s _ _ _ | (rw [hset_n _ _ (by omega)]; first | assumption | exact hset_s _ _ _))))) rfl ?_
      refine j_pV (As := []) d_An_add_22 cb_An_124 vv_Pz_kinds hwp rfl rfl rfl rfl (Nat.le_of_ble_eq_true rfl) (by decide) (c_Pz_kinds hwp rfl) ?_
      refine j_icmp_ge (tgt := 56) d_An_add_25 (by decide) (fun c2 => ?_) (fun c2 => absurd (nI_le (Nat.le_refl _) (by omega)) c2)
      refine j_iconst (v := 0) d_An_add_56 (by decide) ?_
      refine j_istore_n d_An_add_57 (by decide) ?_
      exact loop2 8 0 _ (by omega) hk
    | succ k ih =>
      intro kd f hkd
      have hw0 := hAn_0 (E := E) (h := h) (a := a) (p := p) (od := od) (K := K) (s := (ko, kp, f, ho, ne, cnt + bcF pts, kept, fnd)) (ws := ws)
      have hw3 := hAn_3 (E := E) (h := h) (a := a) (p := p) (od := od) (K := K) (s := (ko, kp, f, ho, ne, cnt + bcF pts, kept, fnd)) (ws := ws)
      have hw6 := hAn_6 (E := E) (h := h) (a := a) (p := p) (od := od) (K := K) (s := (ko, kp, f, ho, ne, cnt + bcF pts, kept, fnd)) (ws := ws)
      have hwp : hAn E h a p od K (ko, kp, f, ho, ne, cnt + bcF pts, kept, fnd) ws p = some (oPz (nI N) (nI K) (nI M) od cp (nI cc)) := (hAn_x (Or.inl hpa)).trans hp
      have hord : wOrd ws kd < 24 := hs.1 _
      have hin : vp_in (24 * nI kd + nI (wOrd ws kd)) 72 := by rw [n24]; exact vp_in_nI (by omega) (by omega)
      have e1 : (24 * nI kd + nI (wOrd ws kd)).toNatClampNeg = 24 * kd + wOrd ws kd := by rw [n24, nI_clamp (by omega)]
      refine j_iload_n d_An_add_17 rfl ?_
      refine j_aload_n d_An_add_18 rfl ?_
      refine j_get d_An_add_19 fl_An_28 (by first | assumption | exact hset_s _ _ _ | (rw [hset_n _ _ (by omega)]; first | assumption | exact hset_s _ _ _ | (rw [hset_n _ _ (by omega)]; first | assumption | exact hset_s _ _ _ | (rw [hset_n _ _ (by omega)]; first | assumption | exact hset_s _ _ _ | (rw [hset_n _ _ (by omega)]; first | assumption | exact hset_s _ _ _))))) rfl ?_
      refine j_pV (As := []) d_An_add_22 cb_An_124 vv_Pz_kinds hwp rfl rfl rfl rfl (Nat.le_of_ble_eq_true rfl) (by decide) (c_Pz_kinds hwp rfl) ?_
      refine j_icmp_ge (tgt := 56) d_An_add_25 (by decide) (fun c2 => absurd c2 (nI_ge (by omega) (by omega))) (fun c2 => ?_)
      refine j_aload_n d_An_add_28 rfl ?_
      refine j_get d_An_add_29 fl_An_18 (by first | assumption | exact hset_s _ _ _ | (rw [hset_n _ _ (by omega)]; first | assumption | exact hset_s _ _ _ | (rw [hset_n _ _ (by omega)]; first | assumption | exact hset_s _ _ _ | (rw [hset_n _ _ (by omega)]; first | assumption | exact hset_s _ _ _ | (rw [hset_n _ _ (by omega)]; first | assumption | exact hset_s _ _ _))))) rfl ?_
      refine j_bipush (v := 24) d_An_add_32 (by decide) ?_
      refine j_iload_n d_An_add_34 rfl ?_
      refine j_imul d_An_add_35 ?_
      refine j_aload_n d_An_add_36 rfl ?_
      refine j_get d_An_add_37 fl_An_37 (by first | assumption | exact hset_s _ _ _ | (rw [hset_n _ _ (by omega)]; first | assumption | exact hset_s _ _ _ | (rw [hset_n _ _ (by omega)]; first | assumption | exact hset_s _ _ _ | (rw [hset_n _ _ (by omega)]; first | assumption | exact hset_s _ _ _ | (rw [hset_n _ _ (by omega)]; first | assumption | exact hset_s _ _ _))))) rfl ?_
      refine j_iload_n d_An_add_40 rfl ?_
      refine j_pV (As := [.int _]) d_An_add_41 cb_An_127 vv_Wk_order hw6 rfl rfl rfl rfl (Nat.le_of_ble_eq_true rfl) (by decide) (c_Wk_orderW hs (by omega)) ?_
      refine j_iadd d_An_add_44 ?_
      refine j_dup2 d_An_add_45 rfl rfl ?_
      refine j_iald (t := 0) d_An_add_46 rfl (by first | assumption | exact hset_s _ _ _ | (rw [hset_n _ _ (by omega)]; first | assumption | exact hset_s _ _ _ | (rw [hset_n _ _ (by omega)]; first | assumption | exact hset_s _ _ _ | (rw [hset_n _ _ (by omega)]; first | assumption | exact hset_s _ _ _ | (rw [hset_n _ _ (by omega)]; first | assumption | exact hset_s _ _ _))))) (by assumption) rfl ?_
      refine j_iload_n d_An_add_47 rfl ?_
      refine j_iadd d_An_add_48 ?_
      refine j_iast (t := 0) d_An_add_49 rfl hw3 (by omega) hin ?_
      refine j_iinc (v := nI (kd + 1)) d_An_add_50 rfl (nI_succ kd).symm (by decide) ?_
      refine j_goto (tgt := 17) d_An_add_53 (by decide) ?_
      rw [List.range'_succ, List.foldl_cons]
      refine J.conv (L := _) rfl ?_ (ih (kd + 1) _ (by omega))
      rw [e1, hAn_s3]
  exact loop K 0 co (by omega)
theorem CK_hAn (hck : ∀ q, a ≤ q → q ≤ a + 10 → ∀ ci fs, clN ci → h q ≠ some (.inr (ci, fs))) : CK h (hAn E h a p od K s ws) := by
  intro q ci fs hc hq
  by_cases hr : a ≤ q ∧ q ≤ a + 10
  · exact absurd hq (hck q hr.1 hr.2 ci fs hc)
  · rw [hAn_x (by omega)]; exact hq
/-- the puzzle's own facts that the answers use -/
def PzF (E : EV) (h : HP) (a p od K N M cc D : Nat) (φ : Nat → (Nat → Int32) → Int32) : Prop := ∃ (cp : Nat) (f : Nat → Option Nat), h p = some (oPz (nI N) (nI K) (nI M) od cp (nI cc)) ∧ p < a ∧ h cp = some (arQ E 3 20 f) ∧ cp < a ∧ (∀ c, c < cc → ∃ y, f c = some y ∧ CR D h y (φ c)) ∧ cc ≤ 20 ∧ K ≤ 3 ∧ M ≤ 3 ∧ (∀ q, a ≤ q → q ≤ a + 10 → ∀ ci fs, clN ci → h q ≠ some (.inr (ci, fs))) ∧ E.2.2.2.1 ≤ a
theorem c_An_weigh {N M cc D : Nat} {φ : Nat → (Nat → Int32) → Int32} (F : PzF E h a p od K N M cc D φ) (hs : WB ws) (hk : s.2.2.2.2.2.2.1 ≤ 100) :
    Ct E m_An_weigh (D + 3) 0 0 [.ref a] (hAn E h a p od K s ws) n (Rt none (hAn E h a p od K (anWeigh cc K (partsF M) φ ws s) ws) n) := by
  obtain ⟨cp, f, hp, hpa, hcp, hcpa, hcl, hcc, hK, hM, hck, hb⟩ := F
  refine Ct.go rfl rfl rfl ?_
  obtain ⟨ko, kp, co, ho, ne, cnt, kept, fnd⟩ := s
  dsimp only at hk
  have hw0 := hAn_0 (E := E) (h := h) (a := a) (p := p) (od := od) (K := K) (s := (ko, kp, co, ho, ne, cnt, kept, fnd)) (ws := ws)
  have hwp : hAn E h a p od K (ko, kp, co, ho, ne, cnt, kept, fnd) ws p = some (oPz (nI N) (nI K) (nI M) od cp (nI cc)) := (hAn_x (Or.inl hpa)).trans hp
  refine j_aload_n d_An_weigh_0 rfl ?_
  refine j_get d_An_weigh_1 fl_An_28 (by first | assumption | exact hset_s _ _ _ | (rw [hset_n _ _ (by omega)]; first | assumption | exact hset_s _ _ _ | (rw [hset_n _ _ (by omega)]; first | assumption | exact hset_s _ _ _ | (rw [hset_n _ _ (by omega)]; first | assumption | exact hset_s _ _ _ | (rw [hset_n _ _ (by omega)]; first | assumption | exact hset_s _ _ _))))) rfl ?_
  refine j_pV (As := []) d_An_weigh_4 cb_An_92 vv_Pz_parties hwp rfl rfl rfl rfl (Nat.le_of_ble_eq_true rfl) (show 0 + 1 ≤ D + 3 by omega) (c_Pz_parties hwp (vp_in_nI (by omega) (by omega))) ?_
  rw [nI_clamp (by omega)]
  refine j_istore_n d_An_weigh_7 (by decide) ?_
  refine j_iconst (v := 0) d_An_weigh_8 (by decide) ?_
  refine j_istore_n d_An_weigh_9 (by decide) ?_
  refine j_iconst (v := 0) d_An_weigh_10 (by decide) ?_
  refine j_istore_n d_An_weigh_11 (by decide) ?_
  have fin : ∀ (x : (Nat → Int32) × Int32 × Int32) (x3 : Int32) (x4 : List (Nat × Value)), J E m_An_weigh (D + 3) 0 0 82 ([(0, .ref a), (1, .int x.2.1), (2, .int x.2.2), (3, .int x3)] ++ x4) [] (hAn E h a p od K (ko, kp, co, x.1, ne, cnt, kept, fnd) ws) n (Rt none (hAn E h a p od K (anEnd cc K ws (ko, kp, co, ho, ne, cnt, kept, fnd) x) ws) n) := by
    rintro ⟨ho1, no, on⟩ x3 x4
    have hw0 := hAn_0 (E := E) (h := h) (a := a) (p := p) (od := od) (K := K) (s := (ko, kp, co, ho1, ne, cnt, kept, fnd)) (ws := ws)
    have fin2 : ∀ (s : AS), J E m_An_weigh (D + 3) 0 0 91 ([(0, .ref a), (1, .int no), (2, .int on), (3, .int x3)] ++ x4) [] (hAn E h a p od K s ws) n (Rt none (hAn E h a p od K (if on = 0 then s else anNeed cc s on) ws) n) := by
      intro s
      have hw0 := hAn_0 (E := E) (h := h) (a := a) (p := p) (od := od) (K := K) (s := s) (ws := ws)
      refine j_iload_n d_An_weigh_91 rfl ?_
      refine j_if_eq (tgt := 100) d_An_weigh_92 (by decide) (fun c4 => ?_) (fun c4 => ?_)
      · exact j_vret d_An_weigh_100 rfl ⟨rfl, by rw [if_pos c4], rfl⟩
      · refine j_aload_n d_An_weigh_95 rfl ?_
        refine j_iload_n d_An_weigh_96 rfl ?_
        refine j_callV (As := [.int on]) d_An_weigh_97 cb_An_115 vv_An_need hw0 rfl rfl rfl rfl (Nat.le_of_ble_eq_true rfl) (show 1 + 1 ≤ D + 3 by omega) (Nat.zero_le _) (Nat.zero_le _) (c_An_need hb hp hpa hcc) (fun v' h' n' q _ => ?_)
        obtain ⟨rfl, rfl, rfl⟩ := q
        exact j_vret d_An_weigh_100 rfl ⟨rfl, by rw [if_neg c4], rfl⟩
    refine j_iload_n d_An_weigh_82 rfl ?_
    refine j_if_eq (tgt := 91) d_An_weigh_83 (by decide) (fun c4 => ?_) (fun c4 => ?_)
    · have e : anEnd cc K ws (ko, kp, co, ho, ne, cnt, kept, fnd) (ho1, no, on) = if on = 0 then (ko, kp, co, ho1, ne, cnt, kept, fnd) else anNeed cc (ko, kp, co, ho1, ne, cnt, kept, fnd) on := by
        unfold anEnd; dsimp only; rw [if_pos c4]
      rw [e]
      exact fin2 _
    · have e : anEnd cc K ws (ko, kp, co, ho, ne, cnt, kept, fnd) (ho1, no, on) = if on = 0 then anAdd K ws (ko, kp, co, ho1, ne, cnt, kept, fnd) no else anNeed cc (anAdd K ws (ko, kp, co, ho1, ne, cnt, kept, fnd) no) on := by
        unfold anEnd; dsimp only; rw [if_neg c4]
      rw [e]
      refine j_aload_n d_An_weigh_86 rfl ?_
      refine j_iload_n d_An_weigh_87 rfl ?_
      refine j_callV (As := [.int no]) d_An_weigh_88 cb_An_111 vv_An_add hw0 rfl rfl rfl rfl (Nat.le_of_ble_eq_true rfl) (show 2 + 1 ≤ D + 3 by omega) (Nat.zero_le _) (Nat.zero_le _) (c_An_add hb hp hpa hK hs hk) (fun v' h' n' q _ => ?_)
      obtain ⟨rfl, rfl, rfl⟩ := q
      exact fin2 _
  have loop : ∀ (k c : Nat) (x : (Nat → Int32) × Int32 × Int32) (x4 : List (Nat × Value)), c + k = cc → (x4 = [] ∨ ∃ v, x4 = [(4, .int v)]) → J E m_An_weigh (D + 3) 0 0 12 ([(0, .ref a), (1, .int x.2.1), (2, .int x.2.2), (3, .int (nI c))] ++ x4) [] (hAn E h a p od K (ko, kp, co, x.1, ne, cnt, kept, fnd) ws) n (Rt none (hAn E h a p od K (anEnd cc K ws (ko, kp, co, ho, ne, cnt, kept, fnd) ((List.range' c k).foldl (wlS φ (nA ws.2.2.2)) x)) ws) n) := by
    intro k
    induction k with
    | zero =>
      intro c x x4 hc hx4
      have hc : c = cc := by omega
      subst hc
      have hw0 := hAn_0 (E := E) (h := h) (a := a) (p := p) (od := od) (K := K) (s := (ko, kp, co, x.1, ne, cnt, kept, fnd)) (ws := ws)
      have hwp : hAn E h a p od K (ko, kp, co, x.1, ne, cnt, kept, fnd) ws p = some (oPz (nI N) (nI K) (nI M) od cp (nI c)) := (hAn_x (Or.inl hpa)).trans hp
      refine j_iload_n d_An_weigh_12 rfl ?_
      refine j_aload_n d_An_weigh_13 rfl ?_
      refine j_get d_An_weigh_14 fl_An_28 (by first | assumption | exact hset_s _ _ _ | (rw [hset_n _ _ (by omega)]; first | assumption | exact hset_s _ _ _ | (rw [hset_n _ _ (by omega)]; first | assumption | exact hset_s _ _ _ | (rw [hset_n _ _ (by omega)]; first | assumption | exact hset_s _ _ _ | (rw [hset_n _ _ (by omega)]; first | assumption | exact hset_s _ _ _))))) rfl ?_
      refine j_pV (As := []) d_An_weigh_17 cb_An_95 vv_Pz_clueCount hwp rfl rfl rfl rfl (Nat.le_of_ble_eq_true rfl) (show 0 + 1 ≤ D + 3 by omega) (c_Pz_clueCount hwp rfl) ?_
      refine j_icmp_ge (tgt := 82) d_An_weigh_20 (by decide) (fun c2 => ?_) (fun c2 => absurd (nI_le (Nat.le_refl _) (by omega)) c2)
      exact fin x _ x4
    | succ k ih =>
      intro c x x4 hc hx4
      have hw0 := hAn_0 (E := E) (h := h) (a := a) (p := p) (od := od) (K := K) (s := (ko, kp, co, x.1, ne, cnt, kept, fnd)) (ws := ws)
      have hw4 := hAn_4 (E := E) (h := h) (a := a) (p := p) (od := od) (K := K) (s := (ko, kp, co, x.1, ne, cnt, kept, fnd)) (ws := ws)
      have hw6 := hAn_6 (E := E) (h := h) (a := a) (p := p) (od := od) (K := K) (s := (ko, kp, co, x.1, ne, cnt, kept, fnd)) (ws := ws)
      have hw10 := hAn_10 (E := E) (h := h) (a := a) (p := p) (od := od) (K := K) (s := (ko, kp, co, x.1, ne, cnt, kept, fnd)) (ws := ws)
      have hwp : hAn E h a p od K (ko, kp, co, x.1, ne, cnt, kept, fnd) ws p = some (oPz (nI N) (nI K) (nI M) od cp (nI cc)) := (hAn_x (Or.inl hpa)).trans hp
      have hwc : hAn E h a p od K (ko, kp, co, x.1, ne, cnt, kept, fnd) ws cp = some (arQ E 3 20 f) := (hAn_x (Or.inl hcpa)).trans hcp
      have hin : vp_in (nI c) 20 := vp_in_nI (by omega) (by omega)
      obtain ⟨y, hy, hcr⟩ := hcl c (by omega)
      refine j_iload_n d_An_weigh_12 rfl ?_
      refine j_aload_n d_An_weigh_13 rfl ?_
      refine j_get d_An_weigh_14 fl_An_28 (by first | assumption | exact hset_s _ _ _ | (rw [hset_n _ _ (by omega)]; first | assumption | exact hset_s _ _ _ | (rw [hset_n _ _ (by omega)]; first | assumption | exact hset_s _ _ _ | (rw [hset_n _ _ (by omega)]; first | assumption | exact hset_s _ _ _ | (rw [hset_n _ _ (by omega)]; first | assumption | exact hset_s _ _ _))))) rfl ?_
      refine j_pV (As := []) d_An_weigh_17 cb_An_95 vv_Pz_clueCount hwp rfl rfl rfl rfl (Nat.le_of_ble_eq_true rfl) (show 0 + 1 ≤ D + 3 by omega) (c_Pz_clueCount hwp rfl) ?_
      refine j_icmp_ge (tgt := 82) d_An_weigh_20 (by decide) (fun c2 => absurd c2 (nI_ge (by omega) (by omega))) (fun c2 => ?_)
      refine j_iload_n d_An_weigh_23 rfl ?_
      refine j_iload_n d_An_weigh_24 rfl ?_
      refine j_ior d_An_weigh_25 ?_
      refine j_if_eq (tgt := 82) d_An_weigh_26 (by decide) (fun c3 => ?_) (fun c3 => ?_)
      · rw [wls_id _ x c3]
        exact fin x _ x4
      · refine j_aload_n d_An_weigh_29 rfl ?_
        refine j_get d_An_weigh_30 fl_An_28 (by first | assumption | exact hset_s _ _ _ | (rw [hset_n _ _ (by omega)]; first | assumption | exact hset_s _ _ _ | (rw [hset_n _ _ (by omega)]; first | assumption | exact hset_s _ _ _ | (rw [hset_n _ _ (by omega)]; first | assumption | exact hset_s _ _ _ | (rw [hset_n _ _ (by omega)]; first | assumption | exact hset_s _ _ _))))) rfl ?_
        refine j_iload_n d_An_weigh_33 rfl ?_
        refine j_pV (As := [.int _]) d_An_weigh_34 cb_An_98 vv_Pz_clue hwp rfl rfl rfl rfl (Nat.le_of_ble_eq_true rfl) (show 0 + 1 ≤ D + 3 by omega) (c_Pz_clue hwp hwc hin (by rw [nI_clamp (by omega)]; exact hy)) ?_
        refine j_aload_n d_An_weigh_37 rfl ?_
        refine j_get d_An_weigh_38 fl_An_37 (by first | assumption | exact hset_s _ _ _ | (rw [hset_n _ _ (by omega)]; first | assumption | exact hset_s _ _ _ | (rw [hset_n _ _ (by omega)]; first | assumption | exact hset_s _ _ _ | (rw [hset_n _ _ (by omega)]; first | assumption | exact hset_s _ _ _ | (rw [hset_n _ _ (by omega)]; first | assumption | exact hset_s _ _ _))))) rfl ?_
        refine j_pV (As := []) d_An_weigh_41 cb_An_102 vv_Wk_thing hw6 rfl rfl rfl rfl (Nat.le_of_ble_eq_true rfl) (show 0 + 1 ≤ D + 3 by omega) (c_Wk_thing hw6 rfl) ?_
        refine j_holds (D := D) d_An_weigh_44 fk_An_106 (c_holds hw10 D y (φ c) (CR.kept (CK_hAn hck) hcr)) (Nat.le_of_ble_eq_true rfl) (by omega) ?_
        rcases hx4 with rfl | ⟨v4, rfl⟩
        all_goals
          refine j_istore d_An_weigh_49 (by decide) ?_
          refine j_aload_n d_An_weigh_51 rfl ?_
          refine j_get d_An_weigh_52 fl_An_21 (by first | assumption | exact hset_s _ _ _ | (rw [hset_n _ _ (by omega)]; first | assumption | exact hset_s _ _ _ | (rw [hset_n _ _ (by omega)]; first | assumption | exact hset_s _ _ _ | (rw [hset_n _ _ (by omega)]; first | assumption | exact hset_s _ _ _ | (rw [hset_n _ _ (by omega)]; first | assumption | exact hset_s _ _ _))))) rfl ?_
          refine j_iload_n d_An_weigh_55 rfl ?_
          refine j_iload d_An_weigh_56 rfl ?_
          refine j_iast (t := 0) d_An_weigh_58 rfl hw4 (by omega) hin ?_
          refine J.conv (L := _) rfl (show _ = hAn E h a p od K (ko, kp, co, upd x.1 c (φ c (nA ws.2.2.2)), ne, cnt, kept, fnd) ws by rw [nI_clamp (n := c) (by omega), hAn_s4]) ?_
          refine j_iload_n d_An_weigh_59 rfl ?_
          refine j_iload d_An_weigh_60 rfl ?_
          refine j_iand d_An_weigh_62 ?_
          refine j_iload_n d_An_weigh_63 rfl ?_
          refine j_iload d_An_weigh_64 rfl ?_
          refine j_iconst (v := (-1)) d_An_weigh_66 (by decide) ?_
          refine j_ixor d_An_weigh_67 ?_
          refine j_iand d_An_weigh_68 ?_
          refine j_ior d_An_weigh_69 ?_
          refine j_istore_n d_An_weigh_70 (by decide) ?_
          refine j_iload_n d_An_weigh_71 rfl ?_
          refine j_iload d_An_weigh_72 rfl ?_
          refine j_iand d_An_weigh_74 ?_
          refine j_istore_n d_An_weigh_75 (by decide) ?_
          refine j_iinc (v := nI (c + 1)) d_An_weigh_76 rfl (nI_succ c).symm (by decide) ?_
          refine j_goto (tgt := 12) d_An_weigh_79 (by decide) ?_
          rw [List.range'_succ, List.foldl_cons]
          have e1 : wlS φ (nA ws.2.2.2) x c = (upd x.1 c (φ c (nA ws.2.2.2)), x.2.1 &&& φ c (nA ws.2.2.2), (x.2.2 &&& φ c (nA ws.2.2.2)) ||| (x.2.1 &&& (φ c (nA ws.2.2.2) ^^^ (-1)))) := if_neg c3
          rw [e1]
          exact ih (c + 1) (upd x.1 c (φ c (nA ws.2.2.2)), x.2.1 &&& φ c (nA ws.2.2.2), (x.2.2 &&& φ c (nA ws.2.2.2)) ||| (x.2.1 &&& (φ c (nA ws.2.2.2) ^^^ (-1)))) [(4, .int (φ c (nA ws.2.2.2)))] (by omega) (Or.inr ⟨_, rfl⟩)
  exact loop cc 0 (ho, partsF M, 0) [] (by omega) (Or.inl rfl)
end ANS

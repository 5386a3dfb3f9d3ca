section WLK
variable {E : EV} {h : HP} {n : Nat}
/-- a row of small numbers -/
def nA (f : Nat → Nat) : Nat → Int32 := fun j => nI (f j)
def upN (f : Nat → Nat) (k v : Nat) : Nat → Nat := fun j => if j = k then v else f j
theorem upd_nA (f : Nat → Nat) (k v : Nat) : upd (nA f) k (nI v) = nA (upN f k v) := by
  funext j
  unfold upd nA upN
  split <;> rfl
theorem nA_0 : nA (fun _ => 0) = fun _ => 0 := rfl
theorem upN_s (f : Nat → Nat) (k v : Nat) : upN f k v k = v := if_pos rfl
theorem upN_n (f : Nat → Nat) {k j : Nat} (v : Nat) (h : j ≠ k) : upN f k v j = f j := if_neg h
theorem upN_lt {f : Nat → Nat} {b k v : Nat} (hf : ∀ j, f j < b) (hv : v < b) : ∀ j, upN f k v j < b := by
  intro j; unfold upN; split
  · exact hv
  · exact hf j
theorem n24 (a b : Nat) : 24 * nI a + nI b = nI (24 * a + b) := by rw [show (24 : Int32) = nI 24 from rfl, pk_mul, nI_add]
theorem n3 (a b : Nat) : 3 * nI a + nI b = nI (3 * a + b) := by rw [show (3 : Int32) = nI 3 from rfl, pk_mul, nI_add]
/-- a Walk: open, openCount, at, thing -/
abbrev WS : Type := (Nat → Nat) × (Nat → Nat) × (Nat → Nat) × (Nat → Nat)
def hW (E : EV) (h : HP) (w od K : Nat) (s : WS) : HP := hset (hset (hset (hset (hset h w (oWk od (nI K) (w + 1) (w + 2) (w + 3) (w + 4))) (w + 1) (arI E 0 72 (nA s.1))) (w + 2) (arI E 0 3 (nA s.2.1))) (w + 3) (arI E 0 3 (nA s.2.2.1))) (w + 4) (arI E 0 12 (nA s.2.2.2))
variable {w od K : Nat} {s : WS}
theorem hW_0 : hW E h w od K s w = some (oWk od (nI K) (w + 1) (w + 2) (w + 3) (w + 4)) := by simp [hW, hset]
theorem hW_1 : hW E h w od K s (w + 1) = some (arI E 0 72 (nA s.1)) := by simp [hW, hset]
theorem hW_2 : hW E h w od K s (w + 2) = some (arI E 0 3 (nA s.2.1)) := by simp [hW, hset]
theorem hW_3 : hW E h w od K s (w + 3) = some (arI E 0 3 (nA s.2.2.1)) := by simp [hW, hset]
theorem hW_4 : hW E h w od K s (w + 4) = some (arI E 0 12 (nA s.2.2.2)) := by simp [hW, hset]
theorem hW_x {q : Nat} (hq : q < w ∨ w + 4 < q) : hW E h w od K s q = h q := by
  have h0 : q ≠ w := by omega
  have h1 : q ≠ w + 1 := by omega
  have h2 : q ≠ w + 2 := by omega
  have h3 : q ≠ w + 3 := by omega
  have h4 : q ≠ w + 4 := by omega
  simp [hW, hset, h0, h1, h2, h3, h4]
theorem hW_s1 {f : Nat → Nat} : hset (hW E h w od K s) (w + 1) (arI E 0 72 (nA f)) = hW E h w od K (f, s.2.1, s.2.2.1, s.2.2.2) := by
  funext q
  unfold hW hset
  by_cases h1 : q = w + 1 <;> by_cases h2 : q = w + 2 <;> by_cases h3 : q = w + 3 <;> by_cases h4 : q = w + 4 <;> simp_all
theorem hW_s2 {f : Nat → Nat} : hset (hW E h w od K s) (w + 2) (arI E 0 3 (nA f)) = hW E h w od K (s.1, f, s.2.2.1, s.2.2.2) := by
  funext q
  unfold hW hset
  by_cases h1 : q = w + 1 <;> by_cases h2 : q = w + 2 <;> by_cases h3 : q = w + 3 <;> by_cases h4 : q = w + 4 <;> simp_all
theorem hW_s3 {f : Nat → Nat} : hset (hW E h w od K s) (w + 3) (arI E 0 3 (nA f)) = hW E h w od K (s.1, s.2.1, f, s.2.2.2) := by
  funext q
  unfold hW hset
  by_cases h1 : q = w + 1 <;> by_cases h2 : q = w + 2 <;> by_cases h3 : q = w + 3 <;> by_cases h4 : q = w + 4 <;> simp_all
theorem hW_s4 {f : Nat → Nat} : hset (hW E h w od K s) (w + 4) (arI E 0 12 (nA f)) = hW E h w od K (s.1, s.2.1, s.2.2.1, f) := by
  funext q
  unfold hW hset
  by_cases h1 : q = w + 1 <;> by_cases h2 : q = w + 2 <;> by_cases h3 : q = w + 3 <;> by_cases h4 : q = w + 4 <;> simp_all
/-! what it does, in numbers -/
def coS (tkf : Nat → Int32) (my : Int32) (kd : Nat) (x : (Nat → Nat) × Nat) (o : Nat) : (Nat → Nat) × Nat := if tkf o &&& (my ^^^ (-1)) = 0 then (upN x.1 (24 * kd + x.2) o, x.2 + 1) else x
def coF (tkf : Nat → Int32) (cnt : Nat) (my : Int32) (kd : Nat) (op : Nat → Nat) : (Nat → Nat) × Nat := (List.range' 0 cnt).foldl (coS tkf my kd) (op, 0)
def chS (tkf : Nat → Int32) (cnt : Nat) (my : Nat → Int32) (x : (Nat → Nat) × (Nat → Nat) × Nat) (kd : Nat) : (Nat → Nat) × (Nat → Nat) × Nat :=
  ((coF tkf cnt (my kd) kd x.1).1, upN x.2.1 kd (coF tkf cnt (my kd) kd x.1).2, x.2.2 * (coF tkf cnt (my kd) kd x.1).2)
def chF (tkf : Nat → Int32) (cnt K : Nat) (my : Nat → Int32) (op oc : Nat → Nat) : (Nat → Nat) × (Nat → Nat) × Nat := (List.range' 0 K).foldl (chS tkf cnt my) (op, oc, 1)
def goF (vf : Nat → Nat) (N : Nat) (s : WS) (kd pl : Nat) : WS := (s.1, s.2.1, upN s.2.2.1 kd pl, (List.range' 0 N).foldl (fun th i => upN th (4 * kd + vf (4 * s.1 (24 * kd + pl) + i)) i) s.2.2.2)
def stF (vf : Nat → Nat) (N K : Nat) (s : WS) : WS := (List.range' 0 K).foldl (fun s kd => goF vf N s kd 0) s
def nxF (vf : Nat → Nat) (N : Nat) : Nat → WS → WS
  | 0, s => s
  | k + 1, s => if s.2.2.1 k + 1 < s.2.1 k then goF vf N s k (s.2.2.1 k + 1) else nxF vf N k (goF vf N s k 0)
/-- the rows' bounds -/
def WB (s : WS) : Prop := (∀ j, s.1 j < 24) ∧ (∀ j, s.2.1 j ≤ 24) ∧ ∀ j, s.2.2.1 j < 24
theorem goF_WB {vf : Nat → Nat} {N kd pl : Nat} (hs : WB s) (hp : pl < 24) : WB (goF vf N s kd pl) := ⟨hs.1, hs.2.1, upN_lt hs.2.2 hp⟩
theorem stF_WB {vf : Nat → Nat} {N : Nat} : ∀ (l : List Nat) (s : WS), WB s → WB (l.foldl (fun s kd => goF vf N s kd 0) s)
  | [], _, h => h
  | _ :: l, _, h => stF_WB l _ (goF_WB h (by omega))
theorem nxF_WB {vf : Nat → Nat} {N : Nat} : ∀ (k : Nat) (s : WS), WB s → WB (nxF vf N k s)
  | 0, _, h => h
  | k + 1, s, h => by
    unfold nxF
    have := h.2.1 k
    split
    · exact goF_WB h (by omega)
    · exact nxF_WB k _ (goF_WB h (by omega))
theorem coF_B (tkf : Nat → Int32) (my : Int32) (kd : Nat) : ∀ (k o : Nat) (x : (Nat → Nat) × Nat), o + k ≤ 24 → x.2 ≤ o → (∀ j, x.1 j < 24) → ((List.range' o k).foldl (coS tkf my kd) x).2 ≤ o + k ∧ ∀ j, ((List.range' o k).foldl (coS tkf my kd) x).1 j < 24
  | 0, o, x, _, h2, h3 => ⟨h2, h3⟩
  | k + 1, o, x, h1, h2, h3 => by
    rw [List.range'_succ, List.foldl_cons]
    have := coF_B tkf my kd k (o + 1) (coS tkf my kd x o) (by omega) (by
      unfold coS; split
      · show x.2 + 1 ≤ o + 1; omega
      · omega) (by
      unfold coS; split
      · exact upN_lt h3 (by omega)
      · exact h3)
    exact ⟨by omega, this.2⟩
/-! its methods -/
theorem c_Wk_chooseOrders {tk vl N cnt kd : Nat} {al my : Int32} {tkf : Nat → Int32} (hb : E.2.2.2.1 ≤ w) (hod : h od = some (oOd (nI N) tk vl (nI cnt) al)) (htk : h tk = some (arI E 0 24 tkf)) (h1 : od < w) (h2 : tk < w) (hc : cnt ≤ 24) (hkd : kd < 3) :
    Ct E m_Wk_chooseOrders 1 0 0 [.ref w, .int (nI kd), .int my] (hW E h w od K s) n (Rt (some (.int (nI (coF tkf cnt my kd s.1).2))) (hW E h w od K ((coF tkf cnt my kd s.1).1, s.2)) n) := by
  refine Ct.go rfl rfl rfl ?_
  refine j_iconst (v := 0) d_Wk_chooseOrders_0 (by decide) ?_
  refine j_istore_n d_Wk_chooseOrders_1 (by decide) ?_
  refine j_iconst (v := 0) d_Wk_chooseOrders_2 (by decide) ?_
  refine j_istore d_Wk_chooseOrders_3 (by decide) ?_
  have loop : ∀ (k o : Nat) (x : (Nat → Nat) × Nat), o + k = cnt → x.2 ≤ o → J E m_Wk_chooseOrders 1 0 0 5 [(0, .ref w), (1, .int (nI kd)), (2, .int my), (3, .int (nI x.2)), (4, .int (nI o))] [] (hW E h w od K (x.1, s.2)) n (Rt (some (.int (nI ((List.range' o k).foldl (coS tkf my kd) x).2))) (hW E h w od K (((List.range' o k).foldl (coS tkf my kd) x).1, s.2)) n) := by
    intro k
    induction k with
    | zero =>
      intro o x ho hx
      have ho : o = cnt := by omega
      subst ho
      have hw0 := hW_0 (E := E) (h := h) (w := w) (od := od) (K := K) (s := (x.1, s.2))
      have hwo : hW E h w od K (x.1, s.2) od = some (oOd (nI N) tk vl (nI o) al) := (hW_x (Or.inl h1)).trans hod
      refine j_iload d_Wk_chooseOrders_5 rfl ?_
      refine j_aload_n d_Wk_chooseOrders_7 rfl ?_
      refine j_get d_Wk_chooseOrders_8 fl_Wk_30 (by first | assumption | exact hset_s _ _ _ | (rw [hset_n _ _ (by omega)]; first | assumption | exact hset_s _ _ _ | (rw [hset_n _ _ (by omega)]; first | assumption | exact hset_s _ _ _ | (rw [hset_n _ _ (by omega)]; first | assumption | exact hset_s _ _ _ | (rw [hset_n _ _ (by omega)]; first | assumption | exact hset_s _ _ _))))) rfl ?_
      refine j_pV (As := []) d_Wk_chooseOrders_11 cb_Wk_44 vv_Od_count hwo rfl rfl rfl rfl (Nat.le_of_ble_eq_true rfl) (by decide) (c_Od_count hwo rfl) ?_
      refine j_icmp_ge (tgt := 55) d_Wk_chooseOrders_14 (by decide) (fun c2 => ?_) (fun c2 => absurd (nI_le (Nat.le_refl _) (by omega)) c2)
      refine j_iload_n d_Wk_chooseOrders_55 rfl ?_
      exact j_iret d_Wk_chooseOrders_56 rfl ⟨rfl, rfl, rfl⟩
    | succ k ih =>
      intro o x ho hx
      have hw0 := hW_0 (E := E) (h := h) (w := w) (od := od) (K := K) (s := (x.1, s.2))
      have hw1 := hW_1 (E := E) (h := h) (w := w) (od := od) (K := K) (s := (x.1, s.2))
      have hwo : hW E h w od K (x.1, s.2) od = some (oOd (nI N) tk vl (nI cnt) al) := (hW_x (Or.inl h1)).trans hod
      have hwt : hW E h w od K (x.1, s.2) tk = some (arI E 0 24 tkf) := (hW_x (Or.inl h2)).trans htk
      have ho24 : o < 24 := by omega
      refine j_iload d_Wk_chooseOrders_5 rfl ?_
      refine j_aload_n d_Wk_chooseOrders_7 rfl ?_
      refine j_get d_Wk_chooseOrders_8 fl_Wk_30 (by first | assumption | exact hset_s _ _ _ | (rw [hset_n _ _ (by omega)]; first | assumption | exact hset_s _ _ _ | (rw [hset_n _ _ (by omega)]; first | assumption | exact hset_s _ _ _ | (rw [hset_n _ _ (by omega)]; first | assumption | exact hset_s _ _ _ | (rw [hset_n _ _ (by omega)]; first | assumption | exact hset_s _ _ _))))) rfl ?_
      refine j_pV (As := []) d_Wk_chooseOrders_11 cb_Wk_44 vv_Od_count hwo rfl rfl rfl rfl (Nat.le_of_ble_eq_true rfl) (by decide) (c_Od_count hwo rfl) ?_
      refine j_icmp_ge (tgt := 55) d_Wk_chooseOrders_14 (by decide) (fun c2 => absurd c2 (nI_ge (by omega) (by omega))) (fun c2 => ?_)
      refine j_aload_n d_Wk_chooseOrders_17 rfl ?_
      refine j_get d_Wk_chooseOrders_18 fl_Wk_30 (by first | assumption | exact hset_s _ _ _ | (rw [hset_n _ _ (by omega)]; first | assumption | exact hset_s _ _ _ | (rw [hset_n _ _ (by omega)]; first | assumption | exact hset_s _ _ _ | (rw [hset_n _ _ (by omega)]; first | assumption | exact hset_s _ _ _ | (rw [hset_n _ _ (by omega)]; first | assumption | exact hset_s _ _ _))))) rfl ?_
      refine j_iload d_Wk_chooseOrders_21 rfl ?_
      refine j_pV (As := [.int _]) d_Wk_chooseOrders_23 cb_Wk_49 vv_Od_ticks hwo rfl rfl rfl rfl (Nat.le_of_ble_eq_true rfl) (by decide) (c_Od_ticks hwo hwt (vp_in_nI ho24 (by omega))) ?_
      rw [nI_clamp (by omega)]
      refine j_iload_n d_Wk_chooseOrders_26 rfl ?_
      refine j_iconst (v := (-1)) d_Wk_chooseOrders_27 (by decide) ?_
      refine j_ixor d_Wk_chooseOrders_28 ?_
      refine j_iand d_Wk_chooseOrders_29 ?_
      rw [List.range'_succ, List.foldl_cons]
      refine j_if_ne (tgt := 49) d_Wk_chooseOrders_30 (by decide) (fun c3 => ?_) (fun c3 => ?_)
      · refine j_iinc (v := nI (o + 1)) d_Wk_chooseOrders_49 rfl (nI_succ o).symm (by decide) ?_
        refine j_goto (tgt := 5) d_Wk_chooseOrders_52 (by decide) ?_
        rw [show coS tkf my kd x o = x from if_neg c3]
        exact ih (o + 1) x (by omega) (by omega)
      · refine j_aload_n d_Wk_chooseOrders_33 rfl ?_
        refine j_get d_Wk_chooseOrders_34 fl_Wk_9 (by first | assumption | exact hset_s _ _ _ | (rw [hset_n _ _ (by omega)]; first | assumption | exact hset_s _ _ _ | (rw [hset_n _ _ (by omega)]; first | assumption | exact hset_s _ _ _ | (rw [hset_n _ _ (by omega)]; first | assumption | exact hset_s _ _ _ | (rw [hset_n _ _ (by omega)]; first | assumption | exact hset_s _ _ _))))) rfl ?_
        refine j_bipush (v := 24) d_Wk_chooseOrders_37 (by decide) ?_
        refine j_iload_n d_Wk_chooseOrders_39 rfl ?_
        refine j_imul d_Wk_chooseOrders_40 ?_
        refine j_iload_n d_Wk_chooseOrders_41 rfl ?_
        refine j_iadd d_Wk_chooseOrders_42 ?_
        refine j_iload d_Wk_chooseOrders_43 rfl ?_
        refine j_iast (t := 0) d_Wk_chooseOrders_45 rfl hw1 (by omega) (show vp_in (24 * nI kd + nI x.2) 72 by rw [n24]; exact vp_in_nI (by omega) (by omega)) ?_
        refine j_iinc (v := nI (x.2 + 1)) d_Wk_chooseOrders_46 rfl (nI_succ x.2).symm (by decide) ?_
        refine j_iinc (v := nI (o + 1)) d_Wk_chooseOrders_49 rfl (nI_succ o).symm (by decide) ?_
        refine j_goto (tgt := 5) d_Wk_chooseOrders_52 (by decide) ?_
        rw [show coS tkf my kd x o = (upN x.1 (24 * kd + x.2) o, x.2 + 1) from if_pos c3]
        refine J.conv (L := _) rfl ?_ (ih (o + 1) (upN x.1 (24 * kd + x.2) o, x.2 + 1) (by omega) (by show x.2 + 1 ≤ o + 1; omega))
        show hset _ (w + 1) (arI E 0 72 (upd (nA x.1) (24 * nI kd + nI x.2).toNatClampNeg (nI o))) = _
        rw [n24, nI_clamp (by omega), upd_nA, hW_s1]
  exact loop cnt 0 (s.1, 0) (by omega) (Nat.le_refl _)
theorem c_Wk_choose {tk vl N cnt ma : Nat} {al : Int32} {tkf my : Nat → Int32} (hb : E.2.2.2.1 ≤ w) (hod : h od = some (oOd (nI N) tk vl (nI cnt) al)) (htk : h tk = some (arI E 0 24 tkf)) (hma : h ma = some (arI E 0 3 my)) (h1 : od < w) (h2 : tk < w) (h3 : ma < w ∨ w + 4 < ma) (hc : cnt ≤ 24) (hK : K ≤ 3) (hs : ∀ j, s.1 j < 24) :
    Ct E m_Wk_choose 2 0 0 [.ref w, .ref ma] (hW E h w od K s) n (Rt (some (.int (nI (chF tkf cnt K my s.1 s.2.1).2.2))) (hW E h w od K ((chF tkf cnt K my s.1 s.2.1).1, (chF tkf cnt K my s.1 s.2.1).2.1, s.2.2)) n) := by
  refine Ct.go rfl rfl rfl ?_
  refine j_iconst (v := 1) d_Wk_choose_0 (by decide) ?_
  refine j_istore_n d_Wk_choose_1 (by decide) ?_
  refine j_iconst (v := 0) d_Wk_choose_2 (by decide) ?_
  refine j_istore_n d_Wk_choose_3 (by decide) ?_
  have loop : ∀ (k kd : Nat) (x : (Nat → Nat) × (Nat → Nat) × Nat), kd + k = K → (∀ j, x.1 j < 24) → J E m_Wk_choose 2 0 0 4 [(0, .ref w), (1, .ref ma), (2, .int (nI x.2.2)), (3, .int (nI kd))] [] (hW E h w od K (x.1, x.2.1, s.2.2)) n (Rt (some (.int (nI ((List.range' kd k).foldl (chS tkf cnt my) x).2.2))) (hW E h w od K (((List.range' kd k).foldl (chS tkf cnt my) x).1, ((List.range' kd k).foldl (chS tkf cnt my) x).2.1, s.2.2)) n) := by
    intro k
    induction k with
    | zero =>
      intro kd x hk hx
      have hk : kd = K := by omega
      subst hk
      have hw0 := hW_0 (E := E) (h := h) (w := w) (od := od) (K := kd) (s := (x.1, x.2.1, s.2.2))
      refine j_iload_n d_Wk_choose_4 rfl ?_
      refine j_aload_n d_Wk_choose_5 rfl ?_
      refine j_get d_Wk_choose_6 fl_Wk_37 (by first | assumption | exact hset_s _ _ _ | (rw [hset_n _ _ (by omega)]; first | assumption | exact hset_s _ _ _ | (rw [hset_n _ _ (by omega)]; first | assumption | exact hset_s _ _ _ | (rw [hset_n _ _ (by omega)]; first | assumption | exact hset_s _ _ _ | (rw [hset_n _ _ (by omega)]; first | assumption | exact hset_s _ _ _))))) rfl ?_
      refine j_icmp_ge (tgt := 41) d_Wk_choose_9 (by decide) (fun c2 => ?_) (fun c2 => absurd (nI_le (Nat.le_refl _) (by omega)) c2)
      refine j_iload_n d_Wk_choose_41 rfl ?_
      exact j_iret d_Wk_choose_42 rfl ⟨rfl, rfl, rfl⟩
    | succ k ih =>
      intro kd x hk hx
      have hw0 := hW_0 (E := E) (h := h) (w := w) (od := od) (K := K) (s := (x.1, x.2.1, s.2.2))
      have hwm : hW E h w od K (x.1, x.2.1, s.2.2) ma = some (arI E 0 3 my) := (hW_x h3).trans hma
      have hin : vp_in (nI kd) 3 := vp_in_nI (by omega) (by omega)
      refine j_iload_n d_Wk_choose_4 rfl ?_
      refine j_aload_n d_Wk_choose_5 rfl ?_
      refine j_get d_Wk_choose_6 fl_Wk_37 (by first | assumption | exact hset_s _ _ _ | (rw [hset_n _ _ (by omega)]; first | assumption | exact hset_s _ _ _ | (rw [hset_n _ _ (by omega)]; first | assumption | exact hset_s _ _ _ | (rw [hset_n _ _ (by omega)]; first | assumption | exact hset_s _ _ _ | (rw [hset_n _ _ (by omega)]; first | assumption | exact hset_s _ _ _))))) rfl ?_
      refine j_icmp_ge (tgt := 41) d_Wk_choose_9 (by decide) (fun c2 => absurd c2 (nI_ge (by omega) (by omega))) (fun c2 => ?_)
      refine j_aload_n d_Wk_choose_12 rfl ?_
      refine j_get d_Wk_choose_13 fl_Wk_15 (by first | assumption | exact hset_s _ _ _ | (rw [hset_n _ _ (by omega)]; first | assumption | exact hset_s _ _ _ | (rw [hset_n _ _ (by omega)]; first | assumption | exact hset_s _ _ _ | (rw [hset_n _ _ (by omega)]; first | assumption | exact hset_s _ _ _ | (rw [hset_n _ _ (by omega)]; first | assumption | exact hset_s _ _ _))))) rfl ?_
      refine j_iload_n d_Wk_choose_16 rfl ?_
      refine j_aload_n d_Wk_choose_17 rfl ?_
      refine j_iload_n d_Wk_choose_18 rfl ?_
      refine j_aload_n d_Wk_choose_19 rfl ?_
      refine j_iload_n d_Wk_choose_20 rfl ?_
      refine j_iald (t := 0) d_Wk_choose_21 rfl (by first | assumption | exact hset_s _ _ _ | (rw [hset_n _ _ (by omega)]; first | assumption | exact hset_s _ _ _ | (rw [hset_n _ _ (by omega)]; first | assumption | exact hset_s _ _ _ | (rw [hset_n _ _ (by omega)]; first | assumption | exact hset_s _ _ _ | (rw [hset_n _ _ (by omega)]; first | assumption | exact hset_s _ _ _))))) (by assumption) rfl ?_
      rw [nI_clamp (by omega)]
      refine j_callV (As := [.int _, .int _]) d_Wk_choose_22 cb_Wk_40 vv_Wk_chooseOrders hw0 rfl rfl rfl rfl (Nat.le_of_ble_eq_true rfl) (by decide) (Nat.zero_le _) (Nat.zero_le _) (c_Wk_chooseOrders (my := my kd) (kd := kd) hb hod htk h1 h2 hc (by omega)) (fun v' h' n' q _ => ?_)
      obtain ⟨rfl, rfl, rfl⟩ := q
      have hw2 := hW_2 (E := E) (h := h) (w := w) (od := od) (K := K) (s := ((coF tkf cnt (my kd) kd x.1).1, x.2.1, s.2.2))
      refine j_iast (t := 0) d_Wk_choose_25 rfl hw2 (by omega) hin ?_
      refine J.conv (L := _) rfl (show _ = hW E h w od K ((coF tkf cnt (my kd) kd x.1).1, upN x.2.1 kd (coF tkf cnt (my kd) kd x.1).2, s.2.2) by rw [nI_clamp (by omega), upd_nA, hW_s2]) ?_
      have hv0 := hW_0 (E := E) (h := h) (w := w) (od := od) (K := K) (s := ((coF tkf cnt (my kd) kd x.1).1, upN x.2.1 kd (coF tkf cnt (my kd) kd x.1).2, s.2.2))
      have hv2 := hW_2 (E := E) (h := h) (w := w) (od := od) (K := K) (s := ((coF tkf cnt (my kd) kd x.1).1, upN x.2.1 kd (coF tkf cnt (my kd) kd x.1).2, s.2.2))
      refine j_iload_n d_Wk_choose_26 rfl ?_
      refine j_aload_n d_Wk_choose_27 rfl ?_
      refine j_get d_Wk_choose_28 fl_Wk_15 (by first | assumption | exact hset_s _ _ _ | (rw [hset_n _ _ (by omega)]; first | assumption | exact hset_s _ _ _ | (rw [hset_n _ _ (by omega)]; first | assumption | exact hset_s _ _ _ | (rw [hset_n _ _ (by omega)]; first | assumption | exact hset_s _ _ _ | (rw [hset_n _ _ (by omega)]; first | assumption | exact hset_s _ _ _))))) rfl ?_
      refine j_iload_n d_Wk_choose_31 rfl ?_
      refine j_iald (t := 0) (x := nI (coF tkf cnt (my kd) kd x.1).2) d_Wk_choose_32 rfl hv2 hin (by rw [nI_clamp (by omega)]; show nI (upN _ _ _ _) = _; rw [upN_s]) ?_
      refine j_imul d_Wk_choose_33 ?_
      refine j_istore_n d_Wk_choose_34 (by decide) ?_
      refine j_iinc (v := nI (kd + 1)) d_Wk_choose_35 rfl (nI_succ kd).symm (by decide) ?_
      refine j_goto (tgt := 4) d_Wk_choose_38 (by decide) ?_
      rw [List.range'_succ, List.foldl_cons, pk_mul]
      exact ih (kd + 1) (chS tkf cnt my x kd) (by omega) (coF_B tkf (my kd) kd cnt 0 (x.1, 0) (by omega) (Nat.le_refl _) hx).2
  exact loop K 0 (s.1, s.2.1, 1) (by omega) hs
theorem c_Wk_go {tk vl N cnt kd pl : Nat} {al : Int32} {vf : Nat → Nat} (hb : E.2.2.2.1 ≤ w) (hod : h od = some (oOd (nI N) tk vl (nI cnt) al)) (hvl : h vl = some (arI E 0 96 (nA vf))) (h1 : od < w) (h2 : vl < w) (hkd : kd < 3) (hpl : pl < 24) (hN : N ≤ 4) (hs : WB s) (hvf : ∀ j, vf j < 4) :
    Ct E m_Wk_go 1 0 0 [.ref w, .int (nI kd), .int (nI pl)] (hW E h w od K s) n (Rt none (hW E h w od K (goF vf N s kd pl)) n) := by
  refine Ct.go rfl rfl rfl ?_
  obtain ⟨op, oc, a3, th⟩ := s
  have hw0 := hW_0 (E := E) (h := h) (w := w) (od := od) (K := K) (s := (op, oc, a3, th))
  have hw3 := hW_3 (E := E) (h := h) (w := w) (od := od) (K := K) (s := (op, oc, a3, th))
  have hin : vp_in (nI kd) 3 := vp_in_nI (by omega) (by omega)
  have hord : op (24 * kd + pl) < 24 := hs.1 _
  refine j_aload_n d_Wk_go_0 rfl ?_
  refine j_get d_Wk_go_1 fl_Wk_18 (by first | assumption | exact hset_s _ _ _ | (rw [hset_n _ _ (by omega)]; first | assumption | exact hset_s _ _ _ | (rw [hset_n _ _ (by omega)]; first | assumption | exact hset_s _ _ _ | (rw [hset_n _ _ (by omega)]; first | assumption | exact hset_s _ _ _ | (rw [hset_n _ _ (by omega)]; first | assumption | exact hset_s _ _ _))))) rfl ?_
  refine j_iload_n d_Wk_go_4 rfl ?_
  refine j_iload_n d_Wk_go_5 rfl ?_
  refine j_iast (t := 0) d_Wk_go_6 rfl hw3 (by omega) hin ?_
  refine J.conv (L := _) rfl (show _ = hW E h w od K (op, oc, upN a3 kd pl, th) by rw [nI_clamp (by omega), upd_nA, hW_s3]) ?_
  have hv0 := hW_0 (E := E) (h := h) (w := w) (od := od) (K := K) (s := (op, oc, upN a3 kd pl, th))
  have hv1 := hW_1 (E := E) (h := h) (w := w) (od := od) (K := K) (s := (op, oc, upN a3 kd pl, th))
  have hv3 := hW_3 (E := E) (h := h) (w := w) (od := od) (K := K) (s := (op, oc, upN a3 kd pl, th))
  have eat : (nA (upN a3 kd pl)) (nI kd).toNatClampNeg = nI pl := by rw [nI_clamp (by omega)]; show nI (upN _ _ _ _) = _; rw [upN_s]
  refine j_aload_n d_Wk_go_7 rfl ?_
  refine j_iload_n d_Wk_go_8 rfl ?_
  refine j_pV (As := [.int _]) d_Wk_go_9 cb_Wk_57 vv_Wk_order hv0 rfl rfl rfl rfl (Nat.le_of_ble_eq_true rfl) (by decide) (c_Wk_order hv0 hv1 hv3 hin (by rw [eat, n24]; exact vp_in_nI (by omega) (by omega))) ?_
  rw [eat, n24, nI_clamp (by omega)]
  refine j_istore_n d_Wk_go_12 (by decide) ?_
  refine j_iconst (v := 0) d_Wk_go_13 (by decide) ?_
  refine j_istore d_Wk_go_14 (by decide) ?_
  have loop : ∀ (k i : Nat) (t : Nat → Nat), i + k = N → J E m_Wk_go 1 0 0 16 [(0, .ref w), (1, .int (nI kd)), (2, .int (nI pl)), (3, .int (nA op (24 * kd + pl))), (4, .int (nI i))] [] (hW E h w od K (op, oc, upN a3 kd pl, t)) n (Rt none (hW E h w od K (op, oc, upN a3 kd pl, (List.range' i k).foldl (fun th i => upN th (4 * kd + vf (4 * op (24 * kd + pl) + i)) i) t)) n) := by
    intro k
    induction k with
    | zero =>
      intro i t hi
      have hi : i = N := by omega
      subst hi
      have hw0 := hW_0 (E := E) (h := h) (w := w) (od := od) (K := K) (s := (op, oc, upN a3 kd pl, t))
      have hwo : hW E h w od K (op, oc, upN a3 kd pl, t) od = some (oOd (nI i) tk vl (nI cnt) al) := (hW_x (Or.inl h1)).trans hod
      refine j_iload d_Wk_go_16 rfl ?_
      refine j_aload_n d_Wk_go_18 rfl ?_
      refine j_get d_Wk_go_19 fl_Wk_30 (by first | assumption | exact hset_s _ _ _ | (rw [hset_n _ _ (by omega)]; first | assumption | exact hset_s _ _ _ | (rw [hset_n _ _ (by omega)]; first | assumption | exact hset_s _ _ _ | (rw [hset_n _ _ (by omega)]; first | assumption | exact hset_s _ _ _ | (rw [hset_n _ _ (by omega)]; first | assumption | exact hset_s _ _ _))))) rfl ?_
      refine j_pV (As := []) d_Wk_go_22 cb_Wk_60 vv_Od_things hwo rfl rfl rfl rfl (Nat.le_of_ble_eq_true rfl) (by decide) (c_Od_things hwo rfl) ?_
      refine j_icmp_ge (tgt := 55) d_Wk_go_25 (by decide) (fun c2 => ?_) (fun c2 => absurd (nI_le (Nat.le_refl _) (by omega)) c2)
      exact j_vret d_Wk_go_55 rfl ⟨rfl, rfl, rfl⟩
    | succ k ih =>
      intro i t hi
      have hw0 := hW_0 (E := E) (h := h) (w := w) (od := od) (K := K) (s := (op, oc, upN a3 kd pl, t))
      have hw4 := hW_4 (E := E) (h := h) (w := w) (od := od) (K := K) (s := (op, oc, upN a3 kd pl, t))
      have hwo : hW E h w od K (op, oc, upN a3 kd pl, t) od = some (oOd (nI N) tk vl (nI cnt) al) := (hW_x (Or.inl h1)).trans hod
      have hwv : hW E h w od K (op, oc, upN a3 kd pl, t) vl = some (arI E 0 96 (nA vf)) := (hW_x (Or.inl h2)).trans hvl
      have hvb := hvf (4 * op (24 * kd + pl) + i)
      refine j_iload d_Wk_go_16 rfl ?_
      refine j_aload_n d_Wk_go_18 rfl ?_
      refine j_get d_Wk_go_19 fl_Wk_30 (by first | assumption | exact hset_s _ _ _ | (rw [hset_n _ _ (by omega)]; first | assumption | exact hset_s _ _ _ | (rw [hset_n _ _ (by omega)]; first | assumption | exact hset_s _ _ _ | (rw [hset_n _ _ (by omega)]; first | assumption | exact hset_s _ _ _ | (rw [hset_n _ _ (by omega)]; first | assumption | exact hset_s _ _ _))))) rfl ?_
      refine j_pV (As := []) d_Wk_go_22 cb_Wk_60 vv_Od_things hwo rfl rfl rfl rfl (Nat.le_of_ble_eq_true rfl) (by decide) (c_Od_things hwo rfl) ?_
      refine j_icmp_ge (tgt := 55) d_Wk_go_25 (by decide) (fun c2 => absurd c2 (nI_ge (by omega) (by omega))) (fun c2 => ?_)
      refine j_aload_n d_Wk_go_28 rfl ?_
      refine j_get d_Wk_go_29 fl_Wk_21 (by first | assumption | exact hset_s _ _ _ | (rw [hset_n _ _ (by omega)]; first | assumption | exact hset_s _ _ _ | (rw [hset_n _ _ (by omega)]; first | assumption | exact hset_s _ _ _ | (rw [hset_n _ _ (by omega)]; first | assumption | exact hset_s _ _ _ | (rw [hset_n _ _ (by omega)]; first | assumption | exact hset_s _ _ _))))) rfl ?_
      refine j_iconst (v := 4) d_Wk_go_32 (by decide) ?_
      refine j_iload_n d_Wk_go_33 rfl ?_
      refine j_imul d_Wk_go_34 ?_
      refine j_aload_n d_Wk_go_35 rfl ?_
      refine j_get d_Wk_go_36 fl_Wk_30 (by first | assumption | exact hset_s _ _ _ | (rw [hset_n _ _ (by omega)]; first | assumption | exact hset_s _ _ _ | (rw [hset_n _ _ (by omega)]; first | assumption | exact hset_s _ _ _ | (rw [hset_n _ _ (by omega)]; first | assumption | exact hset_s _ _ _ | (rw [hset_n _ _ (by omega)]; first | assumption | exact hset_s _ _ _))))) rfl ?_
      refine j_iload_n d_Wk_go_39 rfl ?_
      refine j_iload d_Wk_go_40 rfl ?_
      refine j_pV (As := [.int _, .int _]) d_Wk_go_42 cb_Wk_63 vv_Od_value hwo rfl rfl rfl rfl (Nat.le_of_ble_eq_true rfl) (by decide) (c_Od_value hwo hwv (by show vp_in (4 * nI (op _) + nI i) 96; rw [nI_4]; exact vp_in_nI (by omega) (by omega))) ?_
      refine j_iadd d_Wk_go_45 ?_
      refine j_iload d_Wk_go_46 rfl ?_
      have e2 : 4 * nI kd + nA vf (4 * nA op (24 * kd + pl) + nI i).toNatClampNeg = nI (4 * kd + vf (4 * op (24 * kd + pl) + i)) := by
        show 4 * nI kd + nA vf (4 * nI (op (24 * kd + pl)) + nI i).toNatClampNeg = _
        rw [nI_4, nI_clamp (by omega)]
        exact nI_4 _ _
      refine j_iast (t := 0) d_Wk_go_48 rfl hw4 (by omega) (by rw [e2]; exact vp_in_nI (by omega) (by omega)) ?_
      refine j_iinc (v := nI (i + 1)) d_Wk_go_49 rfl (nI_succ i).symm (by decide) ?_
      refine j_goto (tgt := 16) d_Wk_go_52 (by decide) ?_
      rw [List.range'_succ, List.foldl_cons]
      refine J.conv (L := _) rfl ?_ (ih (i + 1) _ (by omega))
      rw [e2, nI_clamp (by omega), upd_nA, hW_s4]
  exact loop N 0 th (by omega)
theorem c_Wk_start {tk vl N cnt : Nat} {al : Int32} {vf : Nat → Nat} (hb : E.2.2.2.1 ≤ w) (hod : h od = some (oOd (nI N) tk vl (nI cnt) al)) (hvl : h vl = some (arI E 0 96 (nA vf))) (h1 : od < w) (h2 : vl < w) (hK : K ≤ 3) (hN : N ≤ 4) (hs : WB s) (hvf : ∀ j, vf j < 4) :
    Ct E m_Wk_start 2 0 0 [.ref w] (hW E h w od K s) n (Rt none (hW E h w od K (stF vf N K s)) n) := by
  refine Ct.go rfl rfl rfl ?_
  refine j_iconst (v := 0) d_Wk_start_0 (by decide) ?_
  refine j_istore_n d_Wk_start_1 (by decide) ?_
  have loop : ∀ (k kd : Nat) (s : WS), kd + k = K → WB s → J E m_Wk_start 2 0 0 2 [(0, .ref w), (1, .int (nI kd))] [] (hW E h w od K s) n (Rt none (hW E h w od K ((List.range' kd k).foldl (fun s kd => goF vf N s kd 0) s)) n) := by
    intro k
    induction k with
    | zero =>
      intro kd s hk hs
      have hk : kd = K := by omega
      subst hk
      have hw0 := hW_0 (E := E) (h := h) (w := w) (od := od) (K := kd) (s := s)
      refine j_iload_n d_Wk_start_2 rfl ?_
      refine j_aload_n d_Wk_start_3 rfl ?_
      refine j_get d_Wk_start_4 fl_Wk_37 (by first | assumption | exact hset_s _ _ _ | (rw [hset_n _ _ (by omega)]; first | assumption | exact hset_s _ _ _ | (rw [hset_n _ _ (by omega)]; first | assumption | exact hset_s _ _ _ | (rw [hset_n _ _ (by omega)]; first | assumption | exact hset_s _ _ _ | (rw [hset_n _ _ (by omega)]; first | assumption | exact hset_s _ _ _))))) rfl ?_
      refine j_icmp_ge (tgt := 22) d_Wk_start_7 (by decide) (fun c2 => ?_) (fun c2 => absurd (nI_le (Nat.le_refl _) (by omega)) c2)
      exact j_vret d_Wk_start_22 rfl ⟨rfl, rfl, rfl⟩
    | succ k ih =>
      intro kd s hk hs
      have hw0 := hW_0 (E := E) (h := h) (w := w) (od := od) (K := K) (s := s)
      refine j_iload_n d_Wk_start_2 rfl ?_
      refine j_aload_n d_Wk_start_3 rfl ?_
      refine j_get d_Wk_start_4 fl_Wk_37 (by first | assumption | exact hset_s _ _ _ | (rw [hset_n _ _ (by omega)]; first | assumption | exact hset_s _ _ _ | (rw [hset_n _ _ (by omega)]; first | assumption | exact hset_s _ _ _ | (rw [hset_n _ _ (by omega)]; first | assumption | exact hset_s _ _ _ | (rw [hset_n _ _ (by omega)]; first | assumption | exact hset_s _ _ _))))) rfl ?_
      refine j_icmp_ge (tgt := 22) d_Wk_start_7 (by decide) (fun c2 => absurd c2 (nI_ge (by omega) (by omega))) (fun c2 => ?_)
      refine j_aload_n d_Wk_start_10 rfl ?_
      refine j_iload_n d_Wk_start_11 rfl ?_
      refine j_iconst (v := 0) d_Wk_start_12 (by decide) ?_
      refine j_callV (As := [.int (nI kd), .int (nI 0)]) d_Wk_start_13 cb_Wk_53 vv_Wk_go hw0 rfl rfl rfl rfl (Nat.le_of_ble_eq_true rfl) (by decide) (Nat.zero_le _) (Nat.zero_le _) (c_Wk_go hb hod hvl h1 h2 (by omega) (by omega) hN hs hvf) (fun v' h' n' q _ => ?_)
      obtain ⟨rfl, rfl, rfl⟩ := q
      refine j_iinc (v := nI (kd + 1)) d_Wk_start_16 rfl (nI_succ kd).symm (by decide) ?_
      refine j_goto (tgt := 2) d_Wk_start_19 (by decide) ?_
      rw [List.range'_succ, List.foldl_cons]
      exact ih (kd + 1) _ (by omega) (goF_WB hs (by omega))
  exact loop K 0 s (by omega) hs
theorem dec1 (x : Int32) : x + Int32.ofInt (-1) = x - 1 := by rw [Int32.sub_eq_add_neg]; rfl
theorem c_Wk_next {tk vl N cnt : Nat} {al : Int32} {vf : Nat → Nat} (hb : E.2.2.2.1 ≤ w) (hod : h od = some (oOd (nI N) tk vl (nI cnt) al)) (hvl : h vl = some (arI E 0 96 (nA vf))) (h1 : od < w) (h2 : vl < w) (hK : K ≤ 3) (hN : N ≤ 4) (hs : WB s) (hvf : ∀ j, vf j < 4) :
    Ct E m_Wk_next 2 0 0 [.ref w] (hW E h w od K s) n (Rt none (hW E h w od K (nxF vf N K s)) n) := by
  refine Ct.go rfl rfl rfl ?_
  have hw0 := hW_0 (E := E) (h := h) (w := w) (od := od) (K := K) (s := s)
  refine j_aload_n d_Wk_next_0 rfl ?_
  refine j_get d_Wk_next_1 fl_Wk_37 (by first | assumption | exact hset_s _ _ _ | (rw [hset_n _ _ (by omega)]; first | assumption | exact hset_s _ _ _ | (rw [hset_n _ _ (by omega)]; first | assumption | exact hset_s _ _ _ | (rw [hset_n _ _ (by omega)]; first | assumption | exact hset_s _ _ _ | (rw [hset_n _ _ (by omega)]; first | assumption | exact hset_s _ _ _))))) rfl ?_
  refine j_iconst (v := 1) d_Wk_next_4 (by decide) ?_
  refine j_isub d_Wk_next_5 ?_
  refine j_istore_n d_Wk_next_6 (by decide) ?_
  have loop : ∀ (k : Nat) (s : WS) (x : Int32), x = nI k - 1 → k ≤ K → WB s → J E m_Wk_next 2 0 0 7 [(0, .ref w), (1, .int x)] [] (hW E h w od K s) n (Rt none (hW E h w od K (nxF vf N k s)) n) := by
    intro k
    induction k with
    | zero =>
      intro s x hx hk hs
      subst hx
      refine j_iload_n d_Wk_next_7 rfl ?_
      refine j_if_lt (tgt := 54) d_Wk_next_8 (by decide) (fun c2 => ?_) (fun c2 => absurd (by decide) c2)
      exact j_vret d_Wk_next_54 rfl ⟨rfl, rfl, rfl⟩
    | succ k ih =>
      intro s x hx hk hs
      rw [nI_pred] at hx
      subst hx
      have hw0 := hW_0 (E := E) (h := h) (w := w) (od := od) (K := K) (s := s)
      have hw2 := hW_2 (E := E) (h := h) (w := w) (od := od) (K := K) (s := s)
      have hw3 := hW_3 (E := E) (h := h) (w := w) (od := od) (K := K) (s := s)
      have hin : vp_in (nI k) 3 := vp_in_nI (by omega) (by omega)
      have ha := hs.2.2 k
      have hc := hs.2.1 k
      have e3 : nA s.2.2.1 (nI k).toNatClampNeg + 1 = nI (s.2.2.1 k + 1) := by rw [nI_clamp (by omega)]; exact nI_1 _
      have e2 : nA s.2.1 (nI k).toNatClampNeg = nI (s.2.1 k) := by rw [nI_clamp (by omega)]; rfl
      refine j_iload_n d_Wk_next_7 rfl ?_
      refine j_if_lt (tgt := 54) d_Wk_next_8 (by decide) (fun c2 => absurd c2 (nI_pos (by omega))) (fun c2 => ?_)
      refine j_aload_n d_Wk_next_11 rfl ?_
      refine j_get d_Wk_next_12 fl_Wk_18 (by first | assumption | exact hset_s _ _ _ | (rw [hset_n _ _ (by omega)]; first | assumption | exact hset_s _ _ _ | (rw [hset_n _ _ (by omega)]; first | assumption | exact hset_s _ _ _ | (rw [hset_n _ _ (by omega)]; first | assumption | exact hset_s _ _ _ | (rw [hset_n _ _ (by omega)]; first | assumption | exact hset_s _ _ _))))) rfl ?_
      refine j_iload_n d_Wk_next_15 rfl ?_
      refine j_iald (t := 0) d_Wk_next_16 rfl (by first | assumption | exact hset_s _ _ _ | (rw [hset_n _ _ (by omega)]; first | assumption | exact hset_s _ _ _ | (rw [hset_n _ _ (by omega)]; first | assumption | exact hset_s _ _ _ | (rw [hset_n _ _ (by omega)]; first | assumption | exact hset_s _ _ _ | (rw [hset_n _ _ (by omega)]; first | assumption | exact hset_s _ _ _))))) (by assumption) rfl ?_
      refine j_iconst (v := 1) d_Wk_next_17 (by decide) ?_
      refine j_iadd d_Wk_next_18 ?_
      refine j_aload_n d_Wk_next_19 rfl ?_
      refine j_get d_Wk_next_20 fl_Wk_15 (by first | assumption | exact hset_s _ _ _ | (rw [hset_n _ _ (by omega)]; first | assumption | exact hset_s _ _ _ | (rw [hset_n _ _ (by omega)]; first | assumption | exact hset_s _ _ _ | (rw [hset_n _ _ (by omega)]; first | assumption | exact hset_s _ _ _ | (rw [hset_n _ _ (by omega)]; first | assumption | exact hset_s _ _ _))))) rfl ?_
      refine j_iload_n d_Wk_next_23 rfl ?_
      refine j_iald (t := 0) d_Wk_next_24 rfl (by first | assumption | exact hset_s _ _ _ | (rw [hset_n _ _ (by omega)]; first | assumption | exact hset_s _ _ _ | (rw [hset_n _ _ (by omega)]; first | assumption | exact hset_s _ _ _ | (rw [hset_n _ _ (by omega)]; first | assumption | exact hset_s _ _ _ | (rw [hset_n _ _ (by omega)]; first | assumption | exact hset_s _ _ _))))) (by assumption) rfl ?_
      rw [e3, e2]
      refine j_icmp_ge (tgt := 42) d_Wk_next_25 (by decide) (fun c3 => ?_) (fun c3 => ?_)
      · have hge : s.2.1 k ≤ s.2.2.1 k + 1 := (nI_leI (by omega) (by omega)).mp c3
        refine j_aload_n d_Wk_next_42 rfl ?_
        refine j_iload_n d_Wk_next_43 rfl ?_
        refine j_iconst (v := 0) d_Wk_next_44 (by decide) ?_
        refine j_callV (As := [.int (nI k), .int (nI 0)]) d_Wk_next_45 cb_Wk_53 vv_Wk_go hw0 rfl rfl rfl rfl (Nat.le_of_ble_eq_true rfl) (by decide) (Nat.zero_le _) (Nat.zero_le _) (c_Wk_go hb hod hvl h1 h2 (by omega) (by omega) hN hs hvf) (fun v' h' n' q _ => ?_)
        obtain ⟨rfl, rfl, rfl⟩ := q
        refine j_iinc (v := nI k - 1) d_Wk_next_48 rfl (dec1 _) (by decide) ?_
        refine j_goto (tgt := 7) d_Wk_next_51 (by decide) ?_
        rw [show nxF vf N (k + 1) s = nxF vf N k (goF vf N s k 0) from if_neg (by omega)]
        exact ih _ _ rfl (by omega) (goF_WB hs (by omega))
      · have hlt : s.2.2.1 k + 1 < s.2.1 k := Nat.not_le.mp (fun q => c3 ((nI_leI (by omega) (by omega)).mpr q))
        refine j_aload_n d_Wk_next_28 rfl ?_
        refine j_iload_n d_Wk_next_29 rfl ?_
        refine j_aload_n d_Wk_next_30 rfl ?_
        refine j_get d_Wk_next_31 fl_Wk_18 (by first | assumption | exact hset_s _ _ _ | (rw [hset_n _ _ (by omega)]; first | assumption | exact hset_s _ _ _ | (rw [hset_n _ _ (by omega)]; first | assumption | exact hset_s _ _ _ | (rw [hset_n _ _ (by omega)]; first | assumption | exact hset_s _ _ _ | (rw [hset_n _ _ (by omega)]; first | assumption | exact hset_s _ _ _))))) rfl ?_
        refine j_iload_n d_Wk_next_34 rfl ?_
        refine j_iald (t := 0) d_Wk_next_35 rfl (by first | assumption | exact hset_s _ _ _ | (rw [hset_n _ _ (by omega)]; first | assumption | exact hset_s _ _ _ | (rw [hset_n _ _ (by omega)]; first | assumption | exact hset_s _ _ _ | (rw [hset_n _ _ (by omega)]; first | assumption | exact hset_s _ _ _ | (rw [hset_n _ _ (by omega)]; first | assumption | exact hset_s _ _ _))))) (by assumption) rfl ?_
        refine j_iconst (v := 1) d_Wk_next_36 (by decide) ?_
        refine j_iadd d_Wk_next_37 ?_
        rw [e3]
        refine j_callV (As := [.int (nI k), .int (nI (s.2.2.1 k + 1))]) d_Wk_next_38 cb_Wk_53 vv_Wk_go hw0 rfl rfl rfl rfl (Nat.le_of_ble_eq_true rfl) (by decide) (Nat.zero_le _) (Nat.zero_le _) (c_Wk_go hb hod hvl h1 h2 (by omega) (by omega) hN hs hvf) (fun v' h' n' q _ => ?_)
        obtain ⟨rfl, rfl, rfl⟩ := q
        refine j_vret d_Wk_next_41 rfl ⟨rfl, ?_, rfl⟩
        rw [show nxF vf N (k + 1) s = goF vf N s k (s.2.2.1 k + 1) from if_pos hlt]
  exact loop K s _ rfl (Nat.le_refl _) hs
/-- a new Walk over the puzzle at p -/
theorem c_Wk_init {p cp : Nat} {N M c : Int32} (h0 : E.2.2.2.1 ≤ n) (hp : h p = some (oPz N (nI K) M od cp c)) (hpn : p < n) : Ct E m_Wk_init 1 4 90 [.ref n, .ref p] (hset h n (.inr (10, [.null, .int 0, .null, .null, .null, .null]))) (n + 1) (Rt none (hW E h n od K (fun _ => 0, fun _ => 0, fun _ => 0, fun _ => 0)) (n + 5)) := by
  refine Ct.go rfl rfl rfl ?_
  refine j_aload_n d_Wk_init_0 rfl ?_
  refine j_obj d_Wk_init_1 ob_Wk_3 obi obc (by decide) (by decide) ?_
  refine j_aload_n d_Wk_init_4 rfl ?_
  refine j_bipush (v := 72) d_Wk_init_5 (by decide) ?_
  refine j_newa (t := 0) d_Wk_init_7 rfl aw_int rfl (by decide) rfl (by decide) (by decide) (by decide) ?_
  refine j_put d_Wk_init_9 fl_Wk_9 fp_Wk (Or.inr ⟨rfl, rfl, rfl⟩) (by first | assumption | exact hset_s _ _ _ | (rw [hset_n _ _ (by omega)]; first | assumption | exact hset_s _ _ _ | (rw [hset_n _ _ (by omega)]; first | assumption | exact hset_s _ _ _ | (rw [hset_n _ _ (by omega)]; first | assumption | exact hset_s _ _ _ | (rw [hset_n _ _ (by omega)]; first | assumption | exact hset_s _ _ _))))) (by omega) rfl rfl (Nat.le_of_ble_eq_true rfl) ?_
  refine j_aload_n d_Wk_init_12 rfl ?_
  refine j_iconst (v := 3) d_Wk_init_13 (by decide) ?_
  refine j_newa (t := 0) d_Wk_init_14 rfl aw_int rfl (by decide) rfl (by decide) (by decide) (by decide) ?_
  refine j_put d_Wk_init_16 fl_Wk_15 fp_Wk (Or.inr ⟨rfl, rfl, rfl⟩) (by first | assumption | exact hset_s _ _ _ | (rw [hset_n _ _ (by omega)]; first | assumption | exact hset_s _ _ _ | (rw [hset_n _ _ (by omega)]; first | assumption | exact hset_s _ _ _ | (rw [hset_n _ _ (by omega)]; first | assumption | exact hset_s _ _ _ | (rw [hset_n _ _ (by omega)]; first | assumption | exact hset_s _ _ _))))) (by omega) rfl rfl (Nat.le_of_ble_eq_true rfl) ?_
  refine j_aload_n d_Wk_init_19 rfl ?_
  refine j_iconst (v := 3) d_Wk_init_20 (by decide) ?_
  refine j_newa (t := 0) d_Wk_init_21 rfl aw_int rfl (by decide) rfl (by decide) (by decide) (by decide) ?_
  refine j_put d_Wk_init_23 fl_Wk_18 fp_Wk (Or.inr ⟨rfl, rfl, rfl⟩) (by first | assumption | exact hset_s _ _ _ | (rw [hset_n _ _ (by omega)]; first | assumption | exact hset_s _ _ _ | (rw [hset_n _ _ (by omega)]; first | assumption | exact hset_s _ _ _ | (rw [hset_n _ _ (by omega)]; first | assumption | exact hset_s _ _ _ | (rw [hset_n _ _ (by omega)]; first | assumption | exact hset_s _ _ _))))) (by omega) rfl rfl (Nat.le_of_ble_eq_true rfl) ?_
  refine j_aload_n d_Wk_init_26 rfl ?_
  refine j_bipush (v := 12) d_Wk_init_27 (by decide) ?_
  refine j_newa (t := 0) d_Wk_init_29 rfl aw_int rfl (by decide) rfl (by decide) (by decide) (by decide) ?_
  refine j_put d_Wk_init_31 fl_Wk_21 fp_Wk (Or.inr ⟨rfl, rfl, rfl⟩) (by first | assumption | exact hset_s _ _ _ | (rw [hset_n _ _ (by omega)]; first | assumption | exact hset_s _ _ _ | (rw [hset_n _ _ (by omega)]; first | assumption | exact hset_s _ _ _ | (rw [hset_n _ _ (by omega)]; first | assumption | exact hset_s _ _ _ | (rw [hset_n _ _ (by omega)]; first | assumption | exact hset_s _ _ _))))) (by omega) rfl rfl (Nat.le_of_ble_eq_true rfl) ?_
  refine j_aload_n d_Wk_init_34 rfl ?_
  refine j_aload_n d_Wk_init_35 rfl ?_
  have far : ∀ {x : HP}, (∀ q, q < n → x q = h q) → x p = some (oPz N (nI K) M od cp c) := fun hx => (hx p hpn).trans hp
  refine j_pV (As := []) (ci := 7) d_Wk_init_36 cb_Wk_24 vv_Pz_orders (far (fun q hq => by simp [hset, show q ≠ n by omega, show q ≠ n + 1 by omega, show q ≠ n + 2 by omega, show q ≠ n + 3 by omega, show q ≠ n + 4 by omega])) rfl rfl rfl rfl (Nat.le_of_ble_eq_true rfl) (by decide) (c_Pz_orders (far (fun q hq => by simp [hset, show q ≠ n by omega, show q ≠ n + 1 by omega, show q ≠ n + 2 by omega, show q ≠ n + 3 by omega, show q ≠ n + 4 by omega])) rfl) ?_
  refine j_put d_Wk_init_39 fl_Wk_30 fp_Wk (Or.inr ⟨rfl, rfl, rfl⟩) (by first | assumption | exact hset_s _ _ _ | (rw [hset_n _ _ (by omega)]; first | assumption | exact hset_s _ _ _ | (rw [hset_n _ _ (by omega)]; first | assumption | exact hset_s _ _ _ | (rw [hset_n _ _ (by omega)]; first | assumption | exact hset_s _ _ _ | (rw [hset_n _ _ (by omega)]; first | assumption | exact hset_s _ _ _))))) (by omega) rfl rfl (Nat.le_of_ble_eq_true rfl) ?_
  refine j_aload_n d_Wk_init_42 rfl ?_
  refine j_aload_n d_Wk_init_43 rfl ?_
  refine j_pV (As := []) (ci := 7) d_Wk_init_44 cb_Wk_33 vv_Pz_kinds (far (fun q hq => by simp [hset, show q ≠ n by omega, show q ≠ n + 1 by omega, show q ≠ n + 2 by omega, show q ≠ n + 3 by omega, show q ≠ n + 4 by omega])) rfl rfl rfl rfl (Nat.le_of_ble_eq_true rfl) (by decide) (c_Pz_kinds (far (fun q hq => by simp [hset, show q ≠ n by omega, show q ≠ n + 1 by omega, show q ≠ n + 2 by omega, show q ≠ n + 3 by omega, show q ≠ n + 4 by omega])) rfl) ?_
  refine j_put d_Wk_init_47 fl_Wk_37 fp_Wk (Or.inr ⟨rfl, rfl, rfl⟩) (by first | assumption | exact hset_s _ _ _ | (rw [hset_n _ _ (by omega)]; first | assumption | exact hset_s _ _ _ | (rw [hset_n _ _ (by omega)]; first | assumption | exact hset_s _ _ _ | (rw [hset_n _ _ (by omega)]; first | assumption | exact hset_s _ _ _ | (rw [hset_n _ _ (by omega)]; first | assumption | exact hset_s _ _ _))))) (by omega) rfl rfl (Nat.le_of_ble_eq_true rfl) ?_
  refine j_vret d_Wk_init_50 rfl ⟨rfl, ?_, rfl⟩
  funext q
  unfold hW hset
  by_cases h0 : q = n <;> by_cases h1 : q = n + 1 <;> by_cases h2 : q = n + 2 <;> by_cases h3 : q = n + 3 <;> by_cases h4 : q = n + 4 <;> simp_all [nA_0]
end WLK

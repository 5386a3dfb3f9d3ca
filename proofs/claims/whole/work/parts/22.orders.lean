section ORD
variable {E : EV} {h : HP} {n : Nat}
/-- what an Orders holds: count, ticks, value, allTicks -/
abbrev OS : Type := Nat × (Nat → Int32) × (Nat → Int32) × Int32
/-- the heap with an Orders of N things at o, its rows behind it -/
def hO (E : EV) (h : HP) (o N : Nat) (s : OS) : HP := hset (hset (hset h o (oOd (nI N) (o + 1) (o + 2) (nI s.1) s.2.2.2)) (o + 1) (arI E 0 24 s.2.1)) (o + 2) (arI E 0 96 s.2.2.1)
theorem hO_o {o N : Nat} {s : OS} : hO E h o N s o = some (oOd (nI N) (o + 1) (o + 2) (nI s.1) s.2.2.2) := by simp [hO, hset]
theorem hO_t {o N : Nat} {s : OS} : hO E h o N s (o + 1) = some (arI E 0 24 s.2.1) := by simp [hO, hset]
theorem hO_v {o N : Nat} {s : OS} : hO E h o N s (o + 2) = some (arI E 0 96 s.2.2.1) := by simp [hO, hset]
theorem hO_x {o N q : Nat} {s : OS} (h1 : q ≠ o) (h2 : q ≠ o + 1) (h3 : q ≠ o + 2) : hO E h o N s q = h q := by simp [hO, hset, h1, h2, h3]
theorem hO_so {o N c : Nat} {s : OS} {al : Int32} : hset (hO E h o N s) o (oOd (nI N) (o + 1) (o + 2) (nI c) al) = hO E h o N (c, s.2.1, s.2.2.1, al) := by
  funext q
  unfold hO hset
  by_cases h1 : q = o <;> by_cases h2 : q = o + 1 <;> by_cases h3 : q = o + 2 <;> simp_all
theorem hO_st {o N : Nat} {s : OS} {f : Nat → Int32} : hset (hO E h o N s) (o + 1) (arI E 0 24 f) = hO E h o N (s.1, f, s.2.2.1, s.2.2.2) := by
  funext q
  unfold hO hset
  by_cases h1 : q = o <;> by_cases h2 : q = o + 1 <;> by_cases h3 : q = o + 2 <;> simp_all
theorem hO_sv {o N : Nat} {s : OS} {f : Nat → Int32} : hset (hO E h o N s) (o + 2) (arI E 0 96 f) = hO E h o N (s.1, s.2.1, f, s.2.2.2) := by
  funext q
  unfold hO hset
  by_cases h1 : q = o <;> by_cases h2 : q = o + 1 <;> by_cases h3 : q = o + 2 <;> simp_all
theorem n4 : (4 : Int32) = nI 4 := rfl
theorem nI_4 (a b : Nat) : 4 * nI a + nI b = nI (4 * a + b) := by rw [n4, pk_mul, nI_add]
/-- the value row of one more order -/
def vlA (vl : Nat → Int32) (c : Nat) (t : Int32) : Nat → Nat → Int32
  | 0 => vl
  | k + 1 => upd (vlA vl c t k) (4 * c + k) (bcF (((t >>> ((4 * nI k) &&& 31)) &&& 15) - 1))
def addF (N : Nat) (s : OS) (t : Int32) : OS := if s.1 < 24 then (s.1 + 1, upd s.2.1 s.1 t, vlA s.2.2.1 s.1 t N, s.2.2.2 ||| t) else s
def ofill (N : Nat) : Nat → Nat → Int32 → OS → OS
  | 0, _, _, s => s
  | f + 1, th, tk, s => if N ≤ th then addF N s tk else (List.range' 0 N).foldl (fun s v => if tk &&& (4369 <<< (nI v &&& 31)) = 0 then ofill N f (th + 1) (tk ||| (1 <<< (nI (4 * th + v) &&& 31))) s else s) s
theorem addF_le {N : Nat} {s : OS} {t : Int32} (h : s.1 ≤ 24) : (addF N s t).1 ≤ 24 := by
  unfold addF
  split
  · show s.1 + 1 ≤ 24; omega
  · exact h
theorem foldl_le {β : Type} (P : OS → Prop) (g : OS → β → OS) (hg : ∀ s v, P s → P (g s v)) : ∀ (l : List β) (s : OS), P s → P (l.foldl g s)
  | [], _, h => h
  | v :: l, s, h => foldl_le P g hg l (g s v) (hg s v h)
theorem ofill_le {N : Nat} : ∀ (f th : Nat) (tk : Int32) (s : OS), s.1 ≤ 24 → (ofill N f th tk s).1 ≤ 24
  | 0, _, _, _, h => h
  | f + 1, th, tk, s, h => by
    unfold ofill
    split
    · exact addF_le h
    · refine foldl_le (fun s => s.1 ≤ 24) _ (fun s v hs => ?_) _ s h
      split
      · exact ofill_le f _ _ s hs
      · exact hs
theorem l_Od_add {d cl sl o N c : Nat} {tkf vl : Nat → Int32} {al t w : Int32} {Q : Option Value → HP → Nat → Prop} (hN : N ≤ 4) (hb : E.2.2.2.1 ≤ o) (hc : c < 24) (hd : 1 ≤ d) (hQ : Q none (hO E h o N (c + 1, tkf, vlA vl c t N, al)) n) :
    ∀ k i, i + k = N → ∀ L, (L = [(0, .ref o), (1, .int t), (2, .int (nI i))] ∨ ∃ w, L = [(0, .ref o), (1, .int t), (2, .int (nI i)), (3, .int w)]) → J E m_Od_add d cl sl 32 L [] (hO E h o N (c, tkf, vlA vl c t i, al)) n Q := by
  intro k
  induction k with
  | zero =>
    intro i hi L hL
    have hi : i = N := by omega
    subst hi
    have hoo := hO_o (E := E) (h := h) (o := o) (N := i) (s := (c, tkf, vlA vl c t i, al))
    rcases hL with rfl | ⟨w, rfl⟩
    all_goals
      refine j_iload_n d_Od_add_32 rfl ?_
      refine j_aload_n d_Od_add_33 rfl ?_
      refine j_get d_Od_add_34 fl_Od_18 (by first | assumption | exact hset_s _ _ _ | (rw [hset_n _ _ (by omega)]; first | assumption | exact hset_s _ _ _ | (rw [hset_n _ _ (by omega)]; first | assumption | exact hset_s _ _ _ | (rw [hset_n _ _ (by omega)]; first | assumption | exact hset_s _ _ _ | (rw [hset_n _ _ (by omega)]; first | assumption | exact hset_s _ _ _))))) rfl ?_
      refine j_icmp_ge (tgt := 74) d_Od_add_37 (by decide) (fun c1 => ?_) (fun c1 => absurd (nI_le (Nat.le_refl _) (by omega)) c1)
      refine j_aload_n d_Od_add_74 rfl ?_
      refine j_dup d_Od_add_75 rfl ?_
      refine j_get d_Od_add_76 fl_Od_26 (by first | assumption | exact hset_s _ _ _ | (rw [hset_n _ _ (by omega)]; first | assumption | exact hset_s _ _ _ | (rw [hset_n _ _ (by omega)]; first | assumption | exact hset_s _ _ _ | (rw [hset_n _ _ (by omega)]; first | assumption | exact hset_s _ _ _ | (rw [hset_n _ _ (by omega)]; first | assumption | exact hset_s _ _ _))))) rfl ?_
      refine j_iconst (v := 1) d_Od_add_79 (by decide) ?_
      refine j_iadd d_Od_add_80 ?_
      refine j_put d_Od_add_81 fl_Od_26 fp_Od (Or.inl rfl) hoo hb rfl rfl (Nat.le_of_ble_eq_true rfl) ?_
      refine J.conv (L := _) rfl (show _ = hO E h o i (c + 1, tkf, vlA vl c t i, al) from ?_) ?_
      · show hset _ o (oOd (nI i) (o + 1) (o + 2) (nI c + 1) al) = _
        rw [nI_1, hO_so]
      · exact j_vret d_Od_add_84 rfl hQ
  | succ k ih =>
    intro i hi L hL
    have hoo := hO_o (E := E) (h := h) (o := o) (N := N) (s := (c, tkf, vlA vl c t i, al))
    have hov := hO_v (E := E) (h := h) (o := o) (N := N) (s := (c, tkf, vlA vl c t i, al))
    rcases hL with rfl | ⟨w, rfl⟩
    all_goals
      refine j_iload_n d_Od_add_32 rfl ?_
      refine j_aload_n d_Od_add_33 rfl ?_
      refine j_get d_Od_add_34 fl_Od_18 (by first | assumption | exact hset_s _ _ _ | (rw [hset_n _ _ (by omega)]; first | assumption | exact hset_s _ _ _ | (rw [hset_n _ _ (by omega)]; first | assumption | exact hset_s _ _ _ | (rw [hset_n _ _ (by omega)]; first | assumption | exact hset_s _ _ _ | (rw [hset_n _ _ (by omega)]; first | assumption | exact hset_s _ _ _))))) rfl ?_
      refine j_icmp_ge (tgt := 74) d_Od_add_37 (by decide) (fun c1 => absurd c1 (nI_ge (by omega) (by omega))) (fun c2 => ?_)
      refine j_iload_n d_Od_add_40 rfl ?_
      refine j_iconst (v := 4) d_Od_add_41 (by decide) ?_
      refine j_iload_n d_Od_add_42 rfl ?_
      refine j_imul d_Od_add_43 ?_
      refine j_ishr d_Od_add_44 ?_
      refine j_bipush (v := 15) d_Od_add_45 (by decide) ?_
      refine j_iand d_Od_add_47 ?_
      refine j_istore_n d_Od_add_48 (by decide) ?_
      refine j_aload_n d_Od_add_49 rfl ?_
      refine j_get d_Od_add_50 fl_Od_15 (by first | assumption | exact hset_s _ _ _ | (rw [hset_n _ _ (by omega)]; first | assumption | exact hset_s _ _ _ | (rw [hset_n _ _ (by omega)]; first | assumption | exact hset_s _ _ _ | (rw [hset_n _ _ (by omega)]; first | assumption | exact hset_s _ _ _ | (rw [hset_n _ _ (by omega)]; first | assumption | exact hset_s _ _ _))))) rfl ?_
      refine j_iconst (v := 4) d_Od_add_53 (by decide) ?_
      refine j_aload_n d_Od_add_54 rfl ?_
      refine j_get d_Od_add_55 fl_Od_26 (by first | assumption | exact hset_s _ _ _ | (rw [hset_n _ _ (by omega)]; first | assumption | exact hset_s _ _ _ | (rw [hset_n _ _ (by omega)]; first | assumption | exact hset_s _ _ _ | (rw [hset_n _ _ (by omega)]; first | assumption | exact hset_s _ _ _ | (rw [hset_n _ _ (by omega)]; first | assumption | exact hset_s _ _ _))))) rfl ?_
      refine j_imul d_Od_add_58 ?_
      refine j_iload_n d_Od_add_59 rfl ?_
      refine j_iadd d_Od_add_60 ?_
      refine j_iload_n d_Od_add_61 rfl ?_
      refine j_iconst (v := 1) d_Od_add_62 (by decide) ?_
      refine j_isub d_Od_add_63 ?_
      refine j_pS (As := [.int _]) d_Od_add_64 cb_Od_36 sv_In_bitCount rfl rfl (Nat.le_of_ble_eq_true rfl) hd (c_In_bitCount _) ?_
      refine j_iast (t := 0) d_Od_add_67 rfl hov (by omega) (show vp_in (4 * nI c + nI i) 96 by rw [nI_4]; exact vp_in_nI (by omega) (by omega)) ?_
      refine j_iinc (v := nI (i + 1)) d_Od_add_68 rfl (nI_succ i).symm (by decide) ?_
      refine j_goto (tgt := 32) d_Od_add_71 (by decide) ?_
      refine J.conv (L := _) rfl ?_ (ih (i + 1) (by omega) _ (Or.inr ⟨_, rfl⟩))
      show hset _ (o + 2) (arI E 0 96 (upd (vlA vl c t i) (4 * nI c + nI i).toNatClampNeg _)) = _
      rw [nI_4, nI_clamp (by omega), hO_sv]
      rfl
theorem c_Od_add {o N : Nat} {s : OS} {t : Int32} (hN : N ≤ 4) (hb : E.2.2.2.1 ≤ o) (hs : s.1 ≤ 24) : Ct E m_Od_add 1 0 0 [.ref o, .int t] (hO E h o N s) n (Rt none (hO E h o N (addF N s t)) n) := by
  refine Ct.go rfl rfl rfl ?_
  obtain ⟨c, tkf, vl, al⟩ := s
  have hoo := hO_o (E := E) (h := h) (o := o) (N := N) (s := (c, tkf, vl, al))
  have hot := hO_t (E := E) (h := h) (o := o) (N := N) (s := (c, tkf, vl, al))
  dsimp only at hs
  refine j_aload_n d_Od_add_0 rfl ?_
  refine j_get d_Od_add_1 fl_Od_26 (by first | assumption | exact hset_s _ _ _ | (rw [hset_n _ _ (by omega)]; first | assumption | exact hset_s _ _ _ | (rw [hset_n _ _ (by omega)]; first | assumption | exact hset_s _ _ _ | (rw [hset_n _ _ (by omega)]; first | assumption | exact hset_s _ _ _ | (rw [hset_n _ _ (by omega)]; first | assumption | exact hset_s _ _ _))))) rfl ?_
  refine j_bipush (v := 24) d_Od_add_4 (by decide) ?_
  refine j_icmp_lt (tgt := 10) d_Od_add_6 (by decide) (fun c1 => ?_) (fun c1 => ?_)
  · have hc : c < 24 := (nI_ltI (by omega) (by omega)).mp c1
    refine j_aload_n d_Od_add_10 rfl ?_
    refine j_get d_Od_add_11 fl_Od_9 (by first | assumption | exact hset_s _ _ _ | (rw [hset_n _ _ (by omega)]; first | assumption | exact hset_s _ _ _ | (rw [hset_n _ _ (by omega)]; first | assumption | exact hset_s _ _ _ | (rw [hset_n _ _ (by omega)]; first | assumption | exact hset_s _ _ _ | (rw [hset_n _ _ (by omega)]; first | assumption | exact hset_s _ _ _))))) rfl ?_
    refine j_aload_n d_Od_add_14 rfl ?_
    refine j_get d_Od_add_15 fl_Od_26 (by first | assumption | exact hset_s _ _ _ | (rw [hset_n _ _ (by omega)]; first | assumption | exact hset_s _ _ _ | (rw [hset_n _ _ (by omega)]; first | assumption | exact hset_s _ _ _ | (rw [hset_n _ _ (by omega)]; first | assumption | exact hset_s _ _ _ | (rw [hset_n _ _ (by omega)]; first | assumption | exact hset_s _ _ _))))) rfl ?_
    refine j_iload_n d_Od_add_18 rfl ?_
    refine j_iast (t := 0) d_Od_add_19 rfl hot (by omega) (vp_in_nI hc (by omega)) ?_
    refine J.conv (L := _) rfl (show _ = hO E h o N (c, upd tkf c t, vl, al) by rw [nI_clamp (by omega), hO_st]) ?_
    have hoo2 := hO_o (E := E) (h := h) (o := o) (N := N) (s := (c, upd tkf c t, vl, al))
    refine j_aload_n d_Od_add_20 rfl ?_
    refine j_dup d_Od_add_21 rfl ?_
    refine j_get d_Od_add_22 fl_Od_29 (by first | assumption | exact hset_s _ _ _ | (rw [hset_n _ _ (by omega)]; first | assumption | exact hset_s _ _ _ | (rw [hset_n _ _ (by omega)]; first | assumption | exact hset_s _ _ _ | (rw [hset_n _ _ (by omega)]; first | assumption | exact hset_s _ _ _ | (rw [hset_n _ _ (by omega)]; first | assumption | exact hset_s _ _ _))))) rfl ?_
    refine j_iload_n d_Od_add_25 rfl ?_
    refine j_ior d_Od_add_26 ?_
    refine j_put d_Od_add_27 fl_Od_29 fp_Od (Or.inl rfl) hoo2 hb rfl rfl (Nat.le_of_ble_eq_true rfl) ?_
    refine J.conv (L := _) rfl (show _ = hO E h o N (c, upd tkf c t, vl, al ||| t) from hO_so (s := (c, upd tkf c t, vl, al))) ?_
    refine j_iconst (v := 0) d_Od_add_30 (by decide) ?_
    refine j_istore_n d_Od_add_31 (by decide) ?_
    refine l_Od_add (w := 0) (vl := vl) hN hb hc (by decide) ?_ N 0 (by omega) _ (Or.inl rfl)
    refine ⟨rfl, ?_, rfl⟩
    unfold addF
    rw [if_pos hc]
  · refine j_vret d_Od_add_9 rfl ⟨rfl, ?_, rfl⟩
    unfold addF
    rw [if_neg (fun q => c1 ((nI_ltI (a := c) (b := 24) (by omega) (by omega)).mpr q))]
/-- the loop of fill over the values, and fill itself -/
def ostep (N f th : Nat) (tk : Int32) (s : OS) (v : Nat) : OS := if tk &&& (4369 <<< (nI v &&& 31)) = 0 then ofill N f (th + 1) (tk ||| (1 <<< (nI (4 * th + v) &&& 31))) s else s
theorem ofill_s (N f th : Nat) (tk : Int32) (s : OS) : ofill N (f + 1) th tk s = if N ≤ th then addF N s tk else (List.range' 0 N).foldl (ostep N f th tk) s := rfl
theorem ostep_le {N f th : Nat} {tk : Int32} {s : OS} {v : Nat} (h : s.1 ≤ 24) : (ostep N f th tk s v).1 ≤ 24 := by
  unfold ostep
  split
  · exact ofill_le f _ _ s h
  · exact h
theorem c_Od_fill {o N : Nat} (hN : N ≤ 4) (hb : E.2.2.2.1 ≤ o) : ∀ (f th : Nat) (tk : Int32) (s : OS), th ≤ N → N - th < f → s.1 ≤ 24 → Ct E m_Od_fill (f + 1) 0 0 [.ref o, .int (nI th), .int tk] (hO E h o N s) n (Rt none (hO E h o N (ofill N f th tk s)) n) := by
  intro f
  induction f with
  | zero => intro th tk s h1 h2; omega
  | succ f ihf =>
    intro th tk s h1 h2 hs
    refine Ct.go rfl rfl rfl ?_
    have hoo := hO_o (E := E) (h := h) (o := o) (N := N) (s := s)
    refine j_iload_n d_Od_fill_0 rfl ?_
    refine j_aload_n d_Od_fill_1 rfl ?_
    refine j_get d_Od_fill_2 fl_Od_18 (by first | assumption | exact hset_s _ _ _ | (rw [hset_n _ _ (by omega)]; first | assumption | exact hset_s _ _ _ | (rw [hset_n _ _ (by omega)]; first | assumption | exact hset_s _ _ _ | (rw [hset_n _ _ (by omega)]; first | assumption | exact hset_s _ _ _ | (rw [hset_n _ _ (by omega)]; first | assumption | exact hset_s _ _ _))))) rfl ?_
    refine j_icmp_lt (tgt := 14) d_Od_fill_5 (by decide) (fun c1 => ?_) (fun c1 => ?_)
    · have hth : th < N := (nI_ltI (by omega) (by omega)).mp c1
      refine j_iconst (v := 0) d_Od_fill_14 (by decide) ?_
      refine j_istore_n d_Od_fill_15 (by decide) ?_
      have loop : ∀ (k v : Nat) (s : OS), v + k = N → s.1 ≤ 24 → J E m_Od_fill (f + 1 + 1) 0 0 16 [(0, .ref o), (1, .int (nI th)), (2, .int tk), (3, .int (nI v))] [] (hO E h o N s) n (Rt none (hO E h o N ((List.range' v k).foldl (ostep N f th tk) s)) n) := by
        intro k
        induction k with
        | zero =>
          intro v s hv hs
          have hv : v = N := by omega
          subst hv
          have hoo := hO_o (E := E) (h := h) (o := o) (N := v) (s := s)
          refine j_iload_n d_Od_fill_16 rfl ?_
          refine j_aload_n d_Od_fill_17 rfl ?_
          refine j_get d_Od_fill_18 fl_Od_18 (by first | assumption | exact hset_s _ _ _ | (rw [hset_n _ _ (by omega)]; first | assumption | exact hset_s _ _ _ | (rw [hset_n _ _ (by omega)]; first | assumption | exact hset_s _ _ _ | (rw [hset_n _ _ (by omega)]; first | assumption | exact hset_s _ _ _ | (rw [hset_n _ _ (by omega)]; first | assumption | exact hset_s _ _ _))))) rfl ?_
          refine j_icmp_ge (tgt := 56) d_Od_fill_21 (by decide) (fun c2 => ?_) (fun c2 => absurd (nI_le (Nat.le_refl _) (by omega)) c2)
          exact j_vret d_Od_fill_56 rfl ⟨rfl, rfl, rfl⟩
        | succ k ih =>
          intro v s hv hs
          have hoo := hO_o (E := E) (h := h) (o := o) (N := N) (s := s)
          refine j_iload_n d_Od_fill_16 rfl ?_
          refine j_aload_n d_Od_fill_17 rfl ?_
          refine j_get d_Od_fill_18 fl_Od_18 (by first | assumption | exact hset_s _ _ _ | (rw [hset_n _ _ (by omega)]; first | assumption | exact hset_s _ _ _ | (rw [hset_n _ _ (by omega)]; first | assumption | exact hset_s _ _ _ | (rw [hset_n _ _ (by omega)]; first | assumption | exact hset_s _ _ _ | (rw [hset_n _ _ (by omega)]; first | assumption | exact hset_s _ _ _))))) rfl ?_
          refine j_icmp_ge (tgt := 56) d_Od_fill_21 (by decide) (fun c2 => absurd c2 (nI_ge (by omega) (by omega))) (fun c2 => ?_)
          refine j_iload_n d_Od_fill_24 rfl ?_
          refine j_sipush (v := 4369) d_Od_fill_25 (by decide) ?_
          refine j_iload_n d_Od_fill_28 rfl ?_
          refine j_ishl d_Od_fill_29 ?_
          refine j_iand d_Od_fill_30 ?_
          have hfo : (List.range' v (k + 1)).foldl (ostep N f th tk) s = (List.range' (v + 1) k).foldl (ostep N f th tk) (ostep N f th tk s v) := by rw [List.range'_succ, List.foldl_cons]
          rw [hfo]
          refine j_if_ne (tgt := 50) d_Od_fill_31 (by decide) (fun c3 => ?_) (fun c3 => ?_)
          · refine j_iinc (v := nI (v + 1)) d_Od_fill_50 rfl (nI_succ v).symm (by decide) ?_
            refine j_goto (tgt := 16) d_Od_fill_53 (by decide) ?_
            have e1 : ostep N f th tk s v = s := if_neg c3
            rw [e1]
            exact ih (v + 1) s (by omega) hs
          · refine j_aload_n d_Od_fill_34 rfl ?_
            refine j_iload_n d_Od_fill_35 rfl ?_
            refine j_iconst (v := 1) d_Od_fill_36 (by decide) ?_
            refine j_iadd d_Od_fill_37 ?_
            refine j_iload_n d_Od_fill_38 rfl ?_
            refine j_iconst (v := 1) d_Od_fill_39 (by decide) ?_
            refine j_iconst (v := 4) d_Od_fill_40 (by decide) ?_
            refine j_iload_n d_Od_fill_41 rfl ?_
            refine j_imul d_Od_fill_42 ?_
            refine j_iload_n d_Od_fill_43 rfl ?_
            refine j_iadd d_Od_fill_44 ?_
            refine j_ishl d_Od_fill_45 ?_
            refine j_ior d_Od_fill_46 ?_
            have e1 : ostep N f th tk s v = ofill N f (th + 1) (tk ||| (1 <<< (nI (4 * th + v) &&& 31))) s := if_pos c3
            rw [e1]
            refine j_callV (As := [.int (nI th + 1), .int (tk ||| (1 <<< ((4 * nI th + nI v) &&& 31)))]) d_Od_fill_47 cb_Od_22 vv_Od_fill hoo rfl rfl rfl rfl (Nat.le_of_ble_eq_true rfl) (Nat.le_refl _) (Nat.zero_le _) (Nat.zero_le _) (by rw [nI_1, nI_4]; exact ihf (th + 1) _ s (by omega) (by omega) hs) (fun v' h' n' q _ => ?_)
            obtain ⟨rfl, rfl, rfl⟩ := q
            refine j_iinc (v := nI (v + 1)) d_Od_fill_50 rfl (nI_succ v).symm (by decide) ?_
            refine j_goto (tgt := 16) d_Od_fill_53 (by decide) ?_
            exact ih (v + 1) _ (by omega) (ofill_le f _ _ s hs)
      rw [ofill_s, if_neg (by omega)]
      exact loop N 0 s (by omega) hs
    · have hth : N ≤ th := Nat.not_lt.mp (fun q => c1 ((nI_ltI (by omega) (by omega)).mpr q))
      refine j_aload_n d_Od_fill_8 rfl ?_
      refine j_iload_n d_Od_fill_9 rfl ?_
      refine j_callV (As := [.int tk]) d_Od_fill_10 cb_Od_32 vv_Od_add hoo rfl rfl rfl rfl (Nat.le_of_ble_eq_true rfl) (by omega) (Nat.zero_le _) (Nat.zero_le _) (c_Od_add hN hb hs) (fun v' h' n' q _ => ?_)
      obtain ⟨rfl, rfl, rfl⟩ := q
      exact j_vret d_Od_fill_13 rfl ⟨rfl, by rw [ofill_s, if_pos hth], rfl⟩
/-- what a new Orders of N things holds -/
def ord (N : Nat) : OS := ofill N 5 0 0 (0, fun _ => 0, fun _ => 0, 0)
/-- a new object, and two rows behind it -/
theorem c_Od_init {N : Nat} (hN : N ≤ 4) (h0 : E.2.2.2.1 ≤ n) : Ct E m_Od_init 7 2 120 [.ref n, .int (nI N)] (hset h n (.inr (6, [.int 0, .null, .null, .int 0, .int 0]))) (n + 1) (Rt none (hO E h n N (ord N)) (n + 3)) := by
  refine Ct.go rfl rfl rfl ?_
  refine j_aload_n d_Od_init_0 rfl ?_
  refine j_obj d_Od_init_1 ob_Od_3 obi obc (by decide) (by decide) ?_
  refine j_aload_n d_Od_init_4 rfl ?_
  refine j_bipush (v := 24) d_Od_init_5 (by decide) ?_
  refine j_newa (t := 0) d_Od_init_7 rfl aw_int rfl (by decide) rfl (by decide) (by decide) (by decide) ?_
  refine j_put d_Od_init_9 fl_Od_9 fp_Od (Or.inr ⟨rfl, rfl, rfl⟩) (by first | assumption | exact hset_s _ _ _ | (rw [hset_n _ _ (by omega)]; first | assumption | exact hset_s _ _ _ | (rw [hset_n _ _ (by omega)]; first | assumption | exact hset_s _ _ _ | (rw [hset_n _ _ (by omega)]; first | assumption | exact hset_s _ _ _ | (rw [hset_n _ _ (by omega)]; first | assumption | exact hset_s _ _ _))))) (by omega) rfl rfl (Nat.le_of_ble_eq_true rfl) ?_
  refine j_aload_n d_Od_init_12 rfl ?_
  refine j_bipush (v := 96) d_Od_init_13 (by decide) ?_
  refine j_newa (t := 0) d_Od_init_15 rfl aw_int rfl (by decide) rfl (by decide) (by decide) (by decide) ?_
  refine j_put d_Od_init_17 fl_Od_15 fp_Od (Or.inr ⟨rfl, rfl, rfl⟩) (by first | assumption | exact hset_s _ _ _ | (rw [hset_n _ _ (by omega)]; first | assumption | exact hset_s _ _ _ | (rw [hset_n _ _ (by omega)]; first | assumption | exact hset_s _ _ _ | (rw [hset_n _ _ (by omega)]; first | assumption | exact hset_s _ _ _ | (rw [hset_n _ _ (by omega)]; first | assumption | exact hset_s _ _ _))))) (by omega) rfl rfl (Nat.le_of_ble_eq_true rfl) ?_
  refine j_aload_n d_Od_init_20 rfl ?_
  refine j_iload_n d_Od_init_21 rfl ?_
  refine j_put d_Od_init_22 fl_Od_18 fp_Od (Or.inr ⟨rfl, rfl, rfl⟩) (by first | assumption | exact hset_s _ _ _ | (rw [hset_n _ _ (by omega)]; first | assumption | exact hset_s _ _ _ | (rw [hset_n _ _ (by omega)]; first | assumption | exact hset_s _ _ _ | (rw [hset_n _ _ (by omega)]; first | assumption | exact hset_s _ _ _ | (rw [hset_n _ _ (by omega)]; first | assumption | exact hset_s _ _ _))))) (by omega) rfl rfl (Nat.le_of_ble_eq_true rfl) ?_
  refine j_aload_n d_Od_init_25 rfl ?_
  refine j_iconst (v := 0) d_Od_init_26 (by decide) ?_
  refine j_iconst (v := 0) d_Od_init_27 (by decide) ?_
  have e : ∀ x : HP, x = hO E h n N (0, fun _ => 0, fun _ => 0, 0) → J E m_Od_init 7 0 0 28 [(0, .ref n), (1, .int (nI N))] [.int 0, .int 0, .ref n] x (n + 3) (Rt none (hO E h n N (ord N)) (n + 3)) := by
    rintro x rfl
    have hoo := hO_o (E := E) (h := h) (o := n) (N := N) (s := (0, fun _ => 0, fun _ => 0, 0))
    refine j_callV (As := [.int (nI 0), .int 0]) d_Od_init_28 cb_Od_22 vv_Od_fill hoo rfl rfl rfl rfl (Nat.le_of_ble_eq_true rfl) (d' := 6) (by decide) (Nat.zero_le _) (Nat.zero_le _) (c_Od_fill hN h0 5 0 0 _ (by omega) (by omega) (by decide)) (fun v' h' n' q _ => ?_)
    obtain ⟨rfl, rfl, rfl⟩ := q
    exact j_vret d_Od_init_31 rfl ⟨rfl, rfl, rfl⟩
  refine e _ ?_
  funext q
  unfold hO hset
  by_cases h1 : q = n <;> by_cases h2 : q = n + 1 <;> by_cases h3 : q = n + 2 <;> simp_all [nI_0]
end ORD

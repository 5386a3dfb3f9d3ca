section MR2
variable {E : EV} {h : HP} {n mo ln : Nat} {v : Nat → Int32} {f : Nat → Nat → Int32} {txf : Nat → Nat}
set_option maxRecDepth 10000 in
theorem rdF_f (q : (hdF txf ln).1 = 0) : rdF txf ln = (false, (hdF txf ln).2.2.2.2, 0, 0, 0, 0, fun _ _ => 0) := if_pos q
set_option maxRecDepth 10000 in
theorem rdF_t {N K M pl : Nat} (q : hdF txf ln = (1, nI N, nI K, nI M, pl)) (h1 : N ≤ 4) (h2 : K ≤ 3) (h3 : M ≤ 3) : rdF txf ln = ((pzL txf ln (nI K) (nI N) (nI M) 21 0 pl (fun _ _ => 0)).1, (pzL txf ln (nI K) (nI N) (nI M) 21 0 pl (fun _ _ => 0)).2.2.1, N, K, M, (pzL txf ln (nI K) (nI N) (nI M) 21 0 pl (fun _ _ => 0)).2.1, (pzL txf ln (nI K) (nI N) (nI M) 21 0 pl (fun _ _ => 0)).2.2.2) := by
  unfold rdF
  rw [q]
  dsimp only
  rw [if_neg (by decide), nI_clamp (by omega), nI_clamp (by omega), nI_clamp (by omega)]
def RmQ (E : EV) (h : HP) (n mo : Nat) (v : Nat → Int32) (f : Nat → Nat → Int32) (x : Bool × Nat × Nat × Nat × Nat × Nat × (Nat → PhiT)) : Option Value → HP → Nat → Prop := fun r h' n' => n' = n ∧ ∃ u F, h' = hM E h mo u F ∧ (∀ j, j < 11 ∨ 15 < j → u j = v j) ∧ (∀ j, j < 6 ∨ 9 < j → F j = f j) ∧ u 15 = nI x.2.1 ∧ ((x.1 = false ∧ r = some (.int 0)) ∨ (x.1 = true ∧ r = some (.int 1) ∧ u 11 = nI x.2.2.1 ∧ u 12 = nI x.2.2.2.1 ∧ u 13 = nI x.2.2.2.2.1 ∧ u 14 = nI x.2.2.2.2.2.1 ∧ (1 ≤ x.2.2.1 ∧ x.2.2.1 ≤ 4 ∧ x.2.2.2.1 ≤ 3 ∧ x.2.2.2.2.1 ≤ 3 ∧ x.2.2.2.2.2.1 ≤ 20) ∧ ∃ B, F 6 x.2.2.2.2.2.1 = nI B ∧ B ≤ 600 ∧ TkL F x.2.2.1 x.2.2.2.1 x.2.2.2.2.1 x.2.2.2.2.2.1 B x.2.2.2.2.2.2))
set_option maxRecDepth 10000 in
theorem c_Md_readAll (hb : E.2.2.2.1 ≤ mo) (v1 : v 1 = nI ln) (f1 : f 1 = nA txf) (hl : ln ≤ 300) (ht : ∀ j, txf j < 256) : Ct E m_Md_readAll 4 0 0 [.ref mo] (hM E h mo v f) n (RmQ E h n mo v f (rdF txf ln)) := by
  refine Ct.go rfl rfl rfl ?_
  have g6 : ∀ j, j < 6 ∨ 9 < j → upG f 6 (upd (f 6) 0 0) j = f j := fun j hj => upG_n _ _ (by omega)
  have bad : ∀ (L : List (Nat × Value)) (u : Nat → Int32) (pc pl : Nat), (pc = 34 ∨ pc = 53 ∨ pc = 85) → (∀ j, j < 11 ∨ 15 < j → u j = v j) → u 15 = nI pl → (hdF txf ln).1 = 0 → (hdF txf ln).2.2.2.2 = pl → J E m_Md_readAll 4 0 0 pc L [] (hM E h mo u (upG f 6 (upd (f 6) 0 0))) n (RmQ E h n mo v f (rdF txf ln)) := by
    intro L u pc pl hpc hu h15 q1 q2
    have q : RmQ E h n mo v f (rdF txf ln) (some (.int 0)) (hM E h mo u (upG f 6 (upd (f 6) 0 0))) n := by
      rw [rdF_f q1, q2]
      exact ⟨rfl, u, _, rfl, hu, g6, h15, Or.inl ⟨rfl, rfl⟩⟩
    rcases hpc with rfl | rfl | rfl
    · refine j_iconst (v := 0) d_Md_readAll_34 (by decide) ?_
      exact j_zret d_Md_readAll_35 rfl (Or.inl rfl) q
    · refine j_iconst (v := 0) d_Md_readAll_53 (by decide) ?_
      exact j_zret d_Md_readAll_54 rfl (Or.inl rfl) q
    · refine j_iconst (v := 0) d_Md_readAll_85 (by decide) ?_
      exact j_zret d_Md_readAll_86 rfl (Or.inl rfl) q
  refine j_aload_n d_Md_readAll_0 rfl ?_
  refine j_iconst (v := 0) d_Md_readAll_1 (by decide) ?_
  refine m_put d_Md_readAll_2 fl_Md_101 rfl rfl hb rfl rfl ?_
  refine j_aload_n d_Md_readAll_5 rfl ?_
  refine j_iconst (v := 0) d_Md_readAll_6 (by decide) ?_
  refine m_put d_Md_readAll_7 fl_Md_118 rfl rfl hb rfl rfl ?_
  refine j_aload_n d_Md_readAll_10 rfl ?_
  refine m_get d_Md_readAll_11 fl_Md_29 rfl ?_
  refine j_iconst (v := nI 0) d_Md_readAll_14 (by decide) ?_
  refine j_iconst (v := 0) d_Md_readAll_15 (by decide) ?_
  refine m_ast (k := 6) (N := 22) d_Md_readAll_16 (by decide) rfl hb (by omega) (by decide) ?_
  refine j_aload_n d_Md_readAll_17 rfl ?_
  refine j_aload_n d_Md_readAll_18 rfl ?_
  refine j_iconst (v := 1) d_Md_readAll_19 (by decide) ?_
  refine j_iconst (v := 4) d_Md_readAll_20 (by decide) ?_
  have T0 : MTx (upd (upd v 15 0) 14 0) (upG f 6 (upd (f 6) 0 0)) ln 0 txf := ⟨v1, rfl, f1, hl, Nat.zero_le _, ht⟩
  refine m_callV (As := [.int 1, .int 4]) d_Md_readAll_21 cb_Md_114 vv_Md_digit rfl rfl rfl (Nat.le_of_ble_eq_true rfl) (d' := 1) (by decide) (c_Md_digit hb T0) (fun w h' n' q _ => ?_)
  obtain ⟨rfl, rfl, q3⟩ := q; have q3 := q3.symm; subst q3
  have la := takeF_ln (txf := txf) (zero := 48) (low := 1) (high := 4) (Nat.zero_le ln)
  have oa := takeF_lh (txf := txf) (ln := ln) (low := 1) (high := 4) (l := 1) (u := 4) (p := 0) rfl rfl (by decide) (by decide)
  have ea : hdF txf ln = hd1 txf ln (takeF txf ln 48 1 4 0) := rfl
  generalize takeF txf ln 48 1 4 0 = a at la oa ea
  refine m_put d_Md_readAll_24 fl_Md_111 rfl rfl hb rfl rfl ?_
  refine j_aload_n d_Md_readAll_27 rfl ?_
  refine m_get d_Md_readAll_28 fl_Md_111 rfl ?_
  rw [show upd (upd (upd (upd v 15 0) 14 0) 15 (nI a.2)) 11 a.1 11 = a.1 from rfl]
  refine j_if_ge (tgt := 36) d_Md_readAll_31 (by decide) (fun qa => ?_) (fun qa => ?_)
  rotate_left
  · have za : a.1 = -1 := Decidable.byContradiction (fun y => by obtain ⟨j, _, _, e⟩ := oa y; exact qa (by rw [e]; exact nI_pos' (by omega)))
    have eh : hdF txf ln = (0, a.1, 0, 0, a.2) := ea.trans (if_pos za)
    exact bad _ _ _ a.2 (Or.inl rfl) (fun j hj => by rw [upd_nn _ _ (by omega), upd_nn _ _ (by omega), upd_nn _ _ (by omega), upd_nn _ _ (by omega)]) rfl (by rw [eh]) (by rw [eh])
  have za : ¬ a.1 = -1 := fun y => absurd qa (by rw [y]; decide)
  obtain ⟨N, N1, N4, eN⟩ := oa za
  have ea2 : hdF txf ln = hd2 txf ln a (takeF txf ln 48 0 3 a.2) := ea.trans (if_neg za)
  have T1 : MTx (upd (upd (upd (upd v 15 0) 14 0) 15 (nI a.2)) 11 a.1) (upG f 6 (upd (f 6) 0 0)) ln a.2 txf := ⟨v1, rfl, f1, hl, la, ht⟩
  refine j_aload_n d_Md_readAll_36 rfl ?_
  refine j_aload_n d_Md_readAll_37 rfl ?_
  refine j_iconst (v := 0) d_Md_readAll_38 (by decide) ?_
  refine j_iconst (v := 3) d_Md_readAll_39 (by decide) ?_
  refine m_callV (As := [.int 0, .int 3]) d_Md_readAll_40 cb_Md_114 vv_Md_digit rfl rfl rfl (Nat.le_of_ble_eq_true rfl) (d' := 1) (by decide) (c_Md_digit hb T1) (fun w h' n' q _ => ?_)
  obtain ⟨rfl, rfl, q3⟩ := q; have q3 := q3.symm; subst q3
  have lb := takeF_ln (txf := txf) (zero := 48) (low := 0) (high := 3) la
  have ob := takeF_lh (txf := txf) (ln := ln) (low := 0) (high := 3) (l := 0) (u := 3) (p := a.2) rfl rfl (by decide) (by decide)
  generalize takeF txf ln 48 0 3 a.2 = b at lb ob ea2
  refine m_put d_Md_readAll_43 fl_Md_108 rfl rfl hb rfl rfl ?_
  refine j_aload_n d_Md_readAll_46 rfl ?_
  refine m_get d_Md_readAll_47 fl_Md_108 rfl ?_
  rw [show upd (upd (upd (upd (upd (upd v 15 0) 14 0) 15 (nI a.2)) 11 a.1) 15 (nI b.2)) 12 b.1 12 = b.1 from rfl]
  refine j_if_ge (tgt := 55) d_Md_readAll_50 (by decide) (fun qb => ?_) (fun qb => ?_)
  rotate_left
  · have zb : b.1 = -1 := Decidable.byContradiction (fun y => by obtain ⟨j, _, _, e⟩ := ob y; exact qb (by rw [e]; exact nI_pos' (by omega)))
    have eh : hdF txf ln = (0, a.1, b.1, 0, b.2) := ea2.trans (if_pos zb)
    exact bad _ _ _ b.2 (Or.inr (Or.inl rfl)) (fun j hj => by rw [upd_nn _ _ (by omega), upd_nn _ _ (by omega), upd_nn _ _ (by omega), upd_nn _ _ (by omega), upd_nn _ _ (by omega), upd_nn _ _ (by omega)]) rfl (by rw [eh]) (by rw [eh])
  have zb : ¬ b.1 = -1 := fun y => absurd qb (by rw [y]; decide)
  obtain ⟨K, _, K3, eK⟩ := ob zb
  have ea3 : hdF txf ln = hd3 txf ln a b (takeF txf ln 48 0 3 b.2) := ea2.trans (if_neg zb)
  have T2 : MTx (upd (upd (upd (upd (upd (upd v 15 0) 14 0) 15 (nI a.2)) 11 a.1) 15 (nI b.2)) 12 b.1) (upG f 6 (upd (f 6) 0 0)) ln b.2 txf := ⟨v1, rfl, f1, hl, lb, ht⟩
  refine j_aload_n d_Md_readAll_55 rfl ?_
  refine j_aload_n d_Md_readAll_56 rfl ?_
  refine j_iconst (v := 0) d_Md_readAll_57 (by decide) ?_
  refine j_iconst (v := 3) d_Md_readAll_58 (by decide) ?_
  refine m_callV (As := [.int 0, .int 3]) d_Md_readAll_59 cb_Md_114 vv_Md_digit rfl rfl rfl (Nat.le_of_ble_eq_true rfl) (d' := 1) (by decide) (c_Md_digit hb T2) (fun w h' n' q _ => ?_)
  obtain ⟨rfl, rfl, q3⟩ := q; have q3 := q3.symm; subst q3
  have lc := takeF_ln (txf := txf) (zero := 48) (low := 0) (high := 3) lb
  have oc := takeF_lh (txf := txf) (ln := ln) (low := 0) (high := 3) (l := 0) (u := 3) (p := b.2) rfl rfl (by decide) (by decide)
  generalize takeF txf ln 48 0 3 b.2 = c at lc oc ea3
  refine m_put d_Md_readAll_62 fl_Md_128 rfl rfl hb rfl rfl ?_
  refine j_aload_n d_Md_readAll_65 rfl ?_
  refine m_get d_Md_readAll_66 fl_Md_128 rfl ?_
  generalize hu : upd (upd (upd (upd (upd (upd (upd (upd v 15 0) 14 0) 15 (nI a.2)) 11 a.1) 15 (nI b.2)) 12 b.1) 15 (nI c.2)) 13 c.1 = u
  have uo : ∀ j, j < 11 ∨ 15 < j → u j = v j := fun j hj => by rw [← hu, upd_nn _ _ (by omega), upd_nn _ _ (by omega), upd_nn _ _ (by omega), upd_nn _ _ (by omega), upd_nn _ _ (by omega), upd_nn _ _ (by omega), upd_nn _ _ (by omega), upd_nn _ _ (by omega)]
  have u1 : u 1 = nI ln := (uo 1 (by omega)).trans v1
  have u11 : u 11 = nI N := by rw [← hu]; exact eN
  have u12 : u 12 = nI K := by rw [← hu]; exact eK
  have u13 : u 13 = c.1 := by rw [← hu]; rfl
  have u14 : u 14 = nI 0 := by rw [← hu]; rfl
  have u15 : u 15 = nI c.2 := by rw [← hu]; rfl
  clear hu
  rw [u13]
  refine j_if_lt (tgt := 85) d_Md_readAll_69 (by decide) (fun qc => ?_) (fun qc => ?_)
  · have zc : c.1 = -1 := Decidable.byContradiction (fun y => by obtain ⟨j, _, _, e⟩ := oc y; rw [e] at qc; exact nI_pos (n := j) (by omega) qc)
    have eh : hdF txf ln = (0, a.1, b.1, c.1, c.2) := ea3.trans (if_pos zc)
    exact bad _ _ _ c.2 (Or.inr (Or.inr rfl)) uo u15 (by rw [eh]) (by rw [eh])
  have zc : ¬ c.1 = -1 := fun y => qc (by rw [y]; decide)
  obtain ⟨M, _, M3, eM⟩ := oc zc
  have ea4 : hdF txf ln = hd4 a b c (semF txf ln c.2) := ea3.trans (if_neg zc)
  have T3 : MTx u (upG f 6 (upd (f 6) 0 0)) ln c.2 txf := ⟨u1, u15, f1, hl, lc, ht⟩
  refine j_aload_n d_Md_readAll_72 rfl ?_
  refine j_aload_n d_Md_readAll_73 rfl ?_
  refine m_get d_Md_readAll_74 fl_Md_101 rfl ?_
  rw [u15]
  refine m_pV (As := [.int (nI c.2)]) d_Md_readAll_77 cb_Md_104 vv_Md_byteAt rfl rfl rfl (Nat.le_of_ble_eq_true rfl) (d' := 0) (by decide) (c_Md_byte T3) ?_
  refine j_bipush (v := 59) d_Md_readAll_80 (by decide) ?_
  refine j_icmp_eq (tgt := 87) d_Md_readAll_82 (by decide) (fun z => ?_) (fun z => ?_)
  · have es := sem_y z ht
    have eh : hdF txf ln = (1, nI N, nI K, nI M, c.2 + 1) := by rw [ea4, es.1, ← eN, ← eK, ← eM]; rfl
    have er := rdF_t eh N4 K3 M3
    refine j_aload_n d_Md_readAll_87 rfl ?_
    refine j_dup d_Md_readAll_88 rfl ?_
    refine m_get d_Md_readAll_89 fl_Md_101 rfl ?_
    refine j_iconst (v := 1) d_Md_readAll_92 (by decide) ?_
    refine j_iadd d_Md_readAll_93 ?_
    rw [u15, nI_1]
    refine m_put d_Md_readAll_94 fl_Md_101 rfl rfl hb rfl rfl ?_
    have := ra_loop (E := E) (h := h) (n := n) (mo := mo) (N := N) (K := K) (M := M) (f := f) (v := v) hb u1 u11 u12 (u13.trans eM) uo f1 ⟨hl, ht, N4, K3, M3⟩ 21 0 (c.2 + 1) 0 (fun _ _ => 0) (upG f 6 (upd (f 6) 0 0)) rfl (by omega) (by omega) (by omega) rfl g6 (fun i hi => absurd hi (by omega))
    rw [upd_eq u14] at this
    refine J.mono (fun r h' n' q => ?_) this
    rw [er]
    obtain ⟨q1, u', F, q2, q3, q4, q5, q6⟩ := q
    refine ⟨q1, u', F, q2, q3, q4, q5, ?_⟩
    rcases q6 with q6 | ⟨d1, d2, d3, d4, d5, d6, d7, d8⟩
    · exact Or.inl q6
    · exact Or.inr ⟨d1, d2, d3, d4, d5, d6, ⟨N1, N4, K3, M3, d7⟩, d8⟩
  · have es := sem_n z ht
    have eh : hdF txf ln = (0, a.1, b.1, c.1, c.2) := by rw [ea4, es]; rfl
    exact bad _ _ _ c.2 (Or.inr (Or.inr rfl)) uo u15 (by rw [eh]) (by rw [eh])
/-- what read leaves in the reference -/
def ReQ (E : EV) (h : HP) (n mo : Nat) (v : Nat → Int32) (f : Nat → Nat → Int32) (x : Bool × Nat × Nat × Nat × Nat × Nat × (Nat → PhiT)) : Option Value → HP → Nat → Prop := fun r h' n' => n' = n ∧ ∃ u F, h' = hM E h mo u F ∧ u 0 = 0 ∧ u 1 = 0 ∧ F 1 = f 1 ∧ ((x.1 = false ∧ r = some (.int (-1 - nI x.2.1)) ∧ (∀ j, 1 < j → j < 11 ∨ 15 < j → u j = v j) ∧ (∀ j, j < 6 ∨ 9 < j → F j = f j)) ∨
  (x.1 = true ∧ r = some (.int (nI x.2.2.2.2.2.1)) ∧ MP u x.2.2.1 x.2.2.2.1 x.2.2.2.2.1 x.2.2.2.2.2.1 ∧ MCl F x.2.2.1 x.2.2.2.1 x.2.2.2.2.1 x.2.2.2.2.2.1 x.2.2.2.2.2.2 ∧ u 23 = 0 ∧ u 24 = 0 ∧ u 27 = 0 ∧ u 33 = 0 ∧ (∀ j, j < 12 → F 15 j = 1 <<< (nI x.2.2.1 &&& 31) - 1) ∧ ∀ j, j < 3 → F 16 j = 3))
set_option maxRecDepth 10000 in
theorem c_Md_read (hb : E.2.2.2.1 ≤ mo) (v1 : v 1 = nI ln) (f1 : f 1 = nA txf) (hl : ln ≤ 300) (ht : ∀ j, txf j < 256) : Ct E m_Md_read 5 0 0 [.ref mo] (hM E h mo v f) n (ReQ E h n mo v f (rdF txf ln)) := by
  refine Ct.go rfl rfl rfl ?_
  refine j_aload_n d_Md_read_0 rfl ?_
  refine j_iconst (v := 0) d_Md_read_1 (by decide) ?_
  refine m_put d_Md_read_2 fl_Md_79 rfl rfl hb rfl rfl ?_
  refine j_aload_n d_Md_read_5 rfl ?_
  refine m_callV (As := []) d_Md_read_6 cb_Md_135 vv_Md_readAll rfl rfl rfl (Nat.le_of_ble_eq_true rfl) (d' := 4) (by decide) (c_Md_readAll (v := upd v 0 0) hb v1 f1 hl ht) (fun w h' n' q _ => ?_)
  generalize rdF txf ln = x at q ⊢
  obtain ⟨rfl, u, F, rfl, hu, hF, h15, q⟩ := q
  rcases q with ⟨hx, rfl⟩ | ⟨hx, rfl, x11, x12, x13, x14, ⟨x1, x2, x3, x4, x5⟩, B, hB, hB6, hT⟩
  · refine j_istore_n d_Md_read_9 (by decide) ?_
    refine j_aload_n d_Md_read_10 rfl ?_
    refine j_iconst (v := 0) d_Md_read_11 (by decide) ?_
    refine m_put d_Md_read_12 fl_Md_98 rfl rfl hb rfl rfl ?_
    refine j_iload_n d_Md_read_15 rfl ?_
    refine j_if_ne (tgt := 26) d_Md_read_16 (by decide) (fun z => absurd (by decide) z) (fun _ => ?_)
    refine j_iconst (v := (-1)) d_Md_read_19 (by decide) ?_
    refine j_aload_n d_Md_read_20 rfl ?_
    refine m_get d_Md_read_21 fl_Md_101 rfl ?_
    refine j_isub d_Md_read_24 ?_
    rw [show upd u 1 0 15 = nI x.2.1 from h15]
    exact j_iret d_Md_read_25 rfl ⟨rfl, _, F, rfl, hu 0 (by omega), rfl, hF 1 (by omega), Or.inl ⟨hx, rfl, fun j h1 hj => by rw [upd_nn _ _ (by omega), hu j hj, upd_nn _ _ (by omega)], hF⟩⟩
  refine j_istore_n d_Md_read_9 (by decide) ?_
  refine j_aload_n d_Md_read_10 rfl ?_
  refine j_iconst (v := 0) d_Md_read_11 (by decide) ?_
  refine m_put d_Md_read_12 fl_Md_98 rfl rfl hb rfl rfl ?_
  refine j_iload_n d_Md_read_15 rfl ?_
  refine j_if_ne (tgt := 26) d_Md_read_16 (by decide) (fun _ => ?_) (fun z => absurd z (by decide))
  refine j_aload_n d_Md_read_26 rfl ?_
  refine j_aload_n d_Md_read_27 rfl ?_
  refine m_get d_Md_read_28 fl_Md_111 rfl ?_
  refine m_put d_Md_read_31 fl_Md_13 rfl rfl hb rfl rfl ?_
  refine j_aload_n d_Md_read_34 rfl ?_
  refine j_aload_n d_Md_read_35 rfl ?_
  refine m_get d_Md_read_36 fl_Md_108 rfl ?_
  refine m_put d_Md_read_39 fl_Md_138 rfl rfl hb rfl rfl ?_
  refine j_aload_n d_Md_read_42 rfl ?_
  refine j_aload_n d_Md_read_43 rfl ?_
  refine m_get d_Md_read_44 fl_Md_128 rfl ?_
  refine m_put d_Md_read_47 fl_Md_141 rfl rfl hb rfl rfl ?_
  refine j_aload_n d_Md_read_50 rfl ?_
  refine j_aload_n d_Md_read_51 rfl ?_
  refine m_get d_Md_read_52 fl_Md_118 rfl ?_
  refine m_put d_Md_read_55 fl_Md_144 rfl rfl hb rfl rfl ?_
  refine j_iconst (v := 0) d_Md_read_58 (by decide) ?_
  refine j_istore_n d_Md_read_59 (by decide) ?_
  generalize hz : upd (upd (upd (upd (upd u 1 0) 3 (upd u 1 0 11)) 4 (upd (upd u 1 0) 3 (upd u 1 0 11) 12)) 5 (upd (upd (upd u 1 0) 3 (upd u 1 0 11)) 4 (upd (upd u 1 0) 3 (upd u 1 0 11) 12) 13)) 6 (upd (upd (upd (upd u 1 0) 3 (upd u 1 0 11)) 4 (upd (upd u 1 0) 3 (upd u 1 0 11) 12)) 5 (upd (upd (upd u 1 0) 3 (upd u 1 0 11)) 4 (upd (upd u 1 0) 3 (upd u 1 0 11) 12) 13) 14) = z
  have z0 : z 0 = 0 := by rw [← hz]; exact hu 0 (by omega)
  have z1 : z 1 = 0 := by rw [← hz]; rfl
  have z3 : z 3 = nI x.2.2.1 := by rw [← hz]; exact x11
  have z4 : z 4 = nI x.2.2.2.1 := by rw [← hz]; exact x12
  have z5 : z 5 = nI x.2.2.2.2.1 := by rw [← hz]; exact x13
  have z6 : z 6 = nI x.2.2.2.2.2.1 := by rw [← hz]; exact x14
  clear hz
  have P : MP z x.2.2.1 x.2.2.2.1 x.2.2.2.2.1 x.2.2.2.2.2.1 := ⟨z3, z4, z5, z6, ⟨x1, x2⟩, x3, x4, x5⟩
  -- the signs over
  have loop2 : ∀ (k i : Nat) (G : Nat → Nat → Int32), i + k = B → (∀ j, j = 1 ∨ j = 2 ∨ (6 ≤ j ∧ j ≤ 9) → G j = F j ∨ j = 2) → (∀ j, j ≤ x.2.2.2.2.2.1 → G 2 j = F 6 j) → (∀ j, j < i → G 3 j = F 7 j ∧ G 4 j = F 8 j ∧ G 5 j = F 9 j) → J E m_Md_read 5 0 0 88 [(0, .ref mo), (1, .int 1), (2, .int (nI i))] [] (hM E h mo z G) n' (ReQ E h n' mo v f x) := by
    intro k
    induction k with
    | zero =>
      intro i G hi hG h2 h3
      have hi : i = B := by omega
      subst hi
      have e2 : G 2 x.2.2.2.2.2.1 = nI i := (h2 _ (Nat.le_refl _)).trans hB
      refine j_iload_n d_Md_read_88 rfl ?_
      refine j_aload_n d_Md_read_89 rfl ?_
      refine m_get d_Md_read_90 fl_Md_17 rfl ?_
      refine j_aload_n d_Md_read_93 rfl ?_
      refine m_get d_Md_read_94 fl_Md_144 rfl ?_
      rw [z6]
      refine m_ald (k := 2) (N := 21) d_Md_read_97 (by decide) rfl (by omega) (by decide) ?_
      rw [e2]
      refine j_icmp_ge (tgt := 143) d_Md_read_98 (by decide) (fun _ => ?_) (fun y => absurd (nI_le (Nat.le_refl _) (by omega)) y)
      refine j_aload_n d_Md_read_143 rfl ?_
      refine m_callV (As := []) d_Md_read_144 cb_Md_76 vv_Md_fresh rfl rfl rfl (Nat.le_of_ble_eq_true rfl) (d' := 1) (by decide) (c_Md_fresh hb) (fun w h' n'' q _ => ?_)
      obtain ⟨rfl, rfl, q3⟩ := q; have q3 := q3.symm; subst q3
      refine j_aload_n d_Md_read_147 rfl ?_
      refine m_get d_Md_read_148 fl_Md_144 rfl ?_
      rw [show upd (upd (upd (upd z 23 0) 24 0) 27 0) 33 0 6 = nI x.2.2.2.2.2.1 from z6]
      refine j_iret d_Md_read_151 rfl ⟨rfl, _, _, rfl, z0, z1, ?_, Or.inr ⟨hx, rfl, (((P.up (by decide)).up (by decide)).up (by decide)).up (by decide), fun c hc => ?_, rfl, rfl, rfl, rfl, fun j hj => ?_, fun j hj => ?_⟩⟩
      · have := (hG 1 (Or.inl rfl)).resolve_right (by decide)
        exact this.trans (hF 1 (by omega))
      · obtain ⟨b, e, D, t1, t2, t3, t4, t5⟩ := hT c hc
        exact ⟨b, e, D, (h2 c (by omega)).trans t1, (h2 (c + 1) (by omega)).trans t2, by omega, t4, PX_eq (fun j _ hj => h3 j (by omega)) t5⟩
      · show fillF (G 15) 12 (1 <<< (z 3 &&& 31) - 1) j = _
        unfold fillF
        rw [if_pos hj, z3]
      · show fillF (G 16) 3 3 j = _
        unfold fillF
        rw [if_pos hj]
    | succ k ih =>
      intro i G hi hG h2 h3
      have e2 : G 2 x.2.2.2.2.2.1 = nI B := (h2 _ (Nat.le_refl _)).trans hB
      have e7 : G 7 = F 7 := (hG 7 (by omega)).resolve_right (by decide)
      have e8 : G 8 = F 8 := (hG 8 (by omega)).resolve_right (by decide)
      have e9 : G 9 = F 9 := (hG 9 (by omega)).resolve_right (by decide)
      refine j_iload_n d_Md_read_88 rfl ?_
      refine j_aload_n d_Md_read_89 rfl ?_
      refine m_get d_Md_read_90 fl_Md_17 rfl ?_
      refine j_aload_n d_Md_read_93 rfl ?_
      refine m_get d_Md_read_94 fl_Md_144 rfl ?_
      rw [z6]
      refine m_ald (k := 2) (N := 21) d_Md_read_97 (by decide) rfl (by omega) (by decide) ?_
      rw [e2]
      refine j_icmp_ge (tgt := 143) d_Md_read_98 (by decide) (fun y => absurd y (nI_ge (by omega) (by omega))) (fun _ => ?_)
      refine j_aload_n d_Md_read_101 rfl ?_
      refine m_get d_Md_read_102 fl_Md_20 rfl ?_
      refine j_iload_n d_Md_read_105 rfl ?_
      refine j_aload_n d_Md_read_106 rfl ?_
      refine m_get d_Md_read_107 fl_Md_32 rfl ?_
      refine j_iload_n d_Md_read_110 rfl ?_
      refine m_ald (k := 7) (N := 640) d_Md_read_111 (by decide) rfl (by omega) (by decide) ?_
      refine m_ast (k := 3) (N := 600) d_Md_read_112 (by decide) rfl hb (by omega) (by decide) ?_
      refine j_aload_n d_Md_read_113 rfl ?_
      refine m_get d_Md_read_114 fl_Md_23 rfl ?_
      refine j_iload_n d_Md_read_117 rfl ?_
      refine j_aload_n d_Md_read_118 rfl ?_
      refine m_get d_Md_read_119 fl_Md_35 rfl ?_
      refine j_iload_n d_Md_read_122 rfl ?_
      refine m_ald (k := 8) (N := 640) d_Md_read_123 (by decide) rfl (by omega) (by decide) ?_
      refine m_ast (k := 4) (N := 600) d_Md_read_124 (by decide) rfl hb (by omega) (by decide) ?_
      refine j_aload_n d_Md_read_125 rfl ?_
      refine m_get d_Md_read_126 fl_Md_26 rfl ?_
      refine j_iload_n d_Md_read_129 rfl ?_
      refine j_aload_n d_Md_read_130 rfl ?_
      refine m_get d_Md_read_131 fl_Md_38 rfl ?_
      refine j_iload_n d_Md_read_134 rfl ?_
      refine m_ald (k := 9) (N := 640) d_Md_read_135 (by decide) rfl (by omega) (by decide) ?_
      refine m_ast (k := 5) (N := 600) d_Md_read_136 (by decide) rfl hb (by omega) (by decide) ?_
      refine j_iinc (v := nI (i + 1)) d_Md_read_137 rfl (nI_succ i).symm (by decide) ?_
      refine j_goto (tgt := 88) d_Md_read_140 (by decide) ?_
      refine ih (i + 1) (upG (upG (upG G 3 (upd (G 3) i (G 7 i))) 4 (upd (G 4) i (G 8 i))) 5 (upd (G 5) i (G 9 i))) (by omega) (fun j hj => ?_) h2 (fun j hj => ?_)
      · rw [upG_n _ _ (by omega), upG_n _ _ (by omega), upG_n _ _ (by omega)]; exact hG j hj
      · show upd (G 3) i (G 7 i) j = _ ∧ upd (G 4) i (G 8 i) j = _ ∧ upd (G 5) i (G 9 i) j = _
        by_cases e : j = i
        · subst e
          rw [upd_ss, upd_ss, upd_ss, e7, e8, e9]
          exact ⟨rfl, rfl, rfl⟩
        · rw [upd_nn _ _ e, upd_nn _ _ e, upd_nn _ _ e]
          exact h3 j (by omega)
  -- the begins over
  have loop1 : ∀ (k i : Nat) (G : Nat → Nat → Int32), i + k = x.2.2.2.2.2.1 + 1 → (∀ j, j ≠ 2 → G j = F j) → (∀ j, j < i → G 2 j = F 6 j) → J E m_Md_read 5 0 0 60 [(0, .ref mo), (1, .int 1), (2, .int (nI i))] [] (hM E h mo z G) n' (ReQ E h n' mo v f x) := by
    intro k
    induction k with
    | zero =>
      intro i G hi hG h2
      refine j_iload_n d_Md_read_60 rfl ?_
      refine j_aload_n d_Md_read_61 rfl ?_
      refine m_get d_Md_read_62 fl_Md_144 rfl ?_
      rw [z6]
      refine j_icmp_gt (tgt := 86) d_Md_read_65 (by decide) (fun _ => ?_) (fun y => absurd (nI_lt (by omega) (by omega)) y)
      refine j_iconst (v := 0) d_Md_read_86 (by decide) ?_
      refine j_istore_n d_Md_read_87 (by decide) ?_
      exact loop2 B 0 G (by omega) (fun j hj => (Decidable.em (j = 2)).elim Or.inr (fun e => Or.inl (hG j e))) (fun j hj => h2 j (by omega)) (fun j hj => absurd hj (by omega))
    | succ k ih =>
      intro i G hi hG h2
      refine j_iload_n d_Md_read_60 rfl ?_
      refine j_aload_n d_Md_read_61 rfl ?_
      refine m_get d_Md_read_62 fl_Md_144 rfl ?_
      rw [z6]
      refine j_icmp_gt (tgt := 86) d_Md_read_65 (by decide) (fun y => absurd y (nI_nlt (by omega) (by omega))) (fun _ => ?_)
      refine j_aload_n d_Md_read_68 rfl ?_
      refine m_get d_Md_read_69 fl_Md_17 rfl ?_
      refine j_iload_n d_Md_read_72 rfl ?_
      refine j_aload_n d_Md_read_73 rfl ?_
      refine m_get d_Md_read_74 fl_Md_29 rfl ?_
      refine j_iload_n d_Md_read_77 rfl ?_
      refine m_ald (k := 6) (N := 22) d_Md_read_78 (by decide) rfl (by omega) (by decide) ?_
      refine m_ast (k := 2) (N := 21) d_Md_read_79 (by decide) rfl hb (by omega) (by decide) ?_
      refine j_iinc (v := nI (i + 1)) d_Md_read_80 rfl (nI_succ i).symm (by decide) ?_
      refine j_goto (tgt := 60) d_Md_read_83 (by decide) ?_
      refine ih (i + 1) (upG G 2 (upd (G 2) i (G 6 i))) (by omega) (fun j hj => by rw [upG_n _ _ hj]; exact hG j hj) (fun j hj => ?_)
      show upd (G 2) i (G 6 i) j = _
      by_cases e : j = i
      · subst e; rw [upd_ss, hG 6 (by decide)]
      · rw [upd_nn _ _ e]; exact h2 j (by omega)
  exact loop1 (x.2.2.2.2.2.1 + 1) 0 F (by omega) (fun _ _ => rfl) (fun j hj => absurd hj (by omega))
end MR2

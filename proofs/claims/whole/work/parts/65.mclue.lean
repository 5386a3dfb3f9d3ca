section MCL
variable {E : EV} {h : HP} {n mo N K M c B ln pl sg w : Nat} {v : Nat → Int32} {f F : Nat → Nat → Int32} {txf : Nat → Nat} {Q : Option Value → HP → Nat → Prop}
set_option maxRecDepth 10000 in
theorem PX_eq {sg on tw sg' on' tw' : Nat → Int32} : ∀ {D b e : Nat} {φ : PhiT}, (∀ j, b ≤ j → j < e → sg' j = sg j ∧ on' j = on j ∧ tw' j = tw j) → PX N K M sg on tw D b e φ → PX N K M sg' on' tw' D b e φ
  | 0, _, _, _, _, q => absurd q (by simp [PX])
  | D + 1, b, e, φ, h1, q => by
    have lt := PX_lt q
    unfold PX at q ⊢
    obtain ⟨e1, e2, e3⟩ := h1 b (Nat.le_refl _) lt
    rw [e1, e2, e3]
    rcases q with q | q | ⟨p, ψ, q1, q2, q3, q4, q5⟩ | ⟨ψ, q1, q2, q3⟩ | ⟨b1, mid, ψ, χ, q1, q2, q3, q4, q5⟩
    · exact Or.inl q
    · exact Or.inr (Or.inl q)
    · exact Or.inr (Or.inr (Or.inl ⟨p, ψ, q1, q2, q3, PX_eq (fun j a b => h1 j (by omega) b) q4, q5⟩))
    · exact Or.inr (Or.inr (Or.inr (Or.inl ⟨ψ, q1, PX_eq (fun j a b => h1 j (by omega) b) q2, q3⟩)))
    · have l1 := PX_lt q3
      have l2 := PX_lt q4
      exact Or.inr (Or.inr (Or.inr (Or.inr ⟨b1, mid, ψ, χ, q1, q2, PX_eq (fun j a b => h1 j (by omega) (by omega)) q3, PX_eq (fun j a b => h1 j (by omega) b) q4, q5⟩)))
/-- what the reading of a clue stands on -/
def RcF (E : EV) (mo : Nat) (v : Nat → Int32) (f : Nat → Nat → Int32) (N K M c B ln : Nat) (txf : Nat → Nat) : Prop := v 1 = nI ln ∧ v 11 = nI N ∧ v 12 = nI K ∧ v 13 = nI M ∧ v 14 = nI c ∧ f 1 = nA txf ∧ f 6 c = nI B ∧ (ln ≤ 300 ∧ (∀ j, txf j < 256) ∧ c ≤ 20 ∧ B ≤ 600 ∧ N ≤ 4 ∧ K ≤ 3 ∧ M ≤ 3) ∧ E.2.2.2.1 ≤ mo
def Sm (F f : Nat → Nat → Int32) : Prop := ∀ j, j ≠ 7 → j ≠ 8 → j ≠ 9 → F j = f j
set_option maxRecDepth 10000 in
theorem Sm.up {k : Nat} {g : Nat → Int32} (s : Sm F f) (hk : k = 7 ∨ k = 8 ∨ k = 9) : Sm (upG F k g) f := fun j h1 h2 h3 => by rw [upG_n _ _ (by omega)]; exact s j h1 h2 h3
set_option maxRecDepth 10000 in
theorem RcF.tx (R : RcF E mo v f N K M c B ln txf) (s : Sm F f) (hpl : pl ≤ ln) : MTx (upd v 15 (nI pl)) F ln pl txf := ⟨R.1, rfl, (s 1 (by decide) (by decide) (by decide)).trans R.2.2.2.2.2.1, R.2.2.2.2.2.2.2.1.1, hpl, R.2.2.2.2.2.2.2.1.2.1⟩
set_option maxRecDepth 10000 in
theorem sgO_is {b : Nat} (hb : b < 256) : (isSg b = false ↔ sgO (nI b) < 0) ∧ (isSg b = true → b = 116 ∨ b = 112 ∨ b = 126 ∨ b = 38 ∨ b = 124 ∨ isRl b) := by
  have : ∀ b : Fin 256, (isSg b.1 = false ↔ sgO (nI b.1) < 0) ∧ (isSg b.1 = true → b.1 = 116 ∨ b.1 = 112 ∨ b.1 = 126 ∨ b.1 = 38 ∨ b.1 = 124 ∨ (b.1 = 61 ∨ b.1 = 33 ∨ b.1 = 60 ∨ b.1 = 43)) := by decide +kernel
  exact this ⟨b, hb⟩
set_option maxRecDepth 10000 in
theorem rc_stop (R : RcF E mo v f N K M c B ln txf) (s : Sm F f) (hpl : pl ≤ ln) (hsg : sg ≤ 30) (hw : w ≤ 30) (st : ¬ pl < ln ∨ ¬ sg < 30 ∨ isSg (txf pl) = false) (hq : Q (some (.int 0)) (hM E h mo (upd v 15 (nI pl)) F) n) : ∀ L, L.take 3 = [(0, .ref mo), (1, .int (nI (w + 1))), (2, .int (nI (B + sg)))] → J E m_Md_readClue 3 0 0 12 L [] (hM E h mo (upd v 15 (nI pl)) F) n Q := by
  intro L hL
  have T := R.tx s hpl
  obtain ⟨r1, r2, r3, r4, r5, r6, r7, ⟨r8, r9, r10, r11, r12, r13, r14⟩, hb⟩ := R
  have s6 : F 6 c = nI B := by rw [s 6 (by decide) (by decide) (by decide)]; exact r7
  refine J.tk 3 ?_
  rw [hL]
  refine j_iload_n d_Md_readClue_12 rfl ?_
  refine j_if_le (tgt := 183) d_Md_readClue_13 (by decide) (fun q => absurd q (nI_nle (by omega) (by omega))) (fun _ => ?_)
  refine j_aload_n d_Md_readClue_16 rfl ?_
  refine j_aload_n d_Md_readClue_17 rfl ?_
  refine m_get d_Md_readClue_18 fl_Md_101 rfl ?_
  rw [show upd v 15 (nI pl) 15 = nI pl from rfl]
  refine m_pV (As := [.int (nI pl)]) d_Md_readClue_21 cb_Md_104 vv_Md_byteAt rfl rfl rfl (Nat.le_of_ble_eq_true rfl) (d' := 0) (by decide) (c_Md_byte T) ?_
  refine j_pS (As := [.int (byF txf ln pl)]) d_Md_readClue_24 cb_Md_121 sv_Md_signOf rfl rfl (Nat.le_of_ble_eq_true rfl) (d' := 0) (by decide) c_Md_signOf ?_
  have out : ∀ L, J E m_Md_readClue 3 0 0 48 L [] (hM E h mo (upd v 15 (nI pl)) F) n Q := by
    intro L
    refine j_iconst (v := 0) d_Md_readClue_48 (by decide) ?_
    exact j_zret d_Md_readClue_49 rfl (Or.inl rfl) hq
  refine j_istore_n d_Md_readClue_27 (by decide) ?_
  refine j_iload_n d_Md_readClue_28 rfl ?_
  refine j_if_lt (tgt := 48) d_Md_readClue_29 (by decide) (fun _ => out _) (fun q => ?_)
  refine j_iload_n d_Md_readClue_32 rfl ?_
  refine j_aload_n d_Md_readClue_33 rfl ?_
  refine m_get d_Md_readClue_34 fl_Md_29 rfl ?_
  refine j_aload_n d_Md_readClue_37 rfl ?_
  refine m_get d_Md_readClue_38 fl_Md_118 rfl ?_
  rw [show upd v 15 (nI pl) 14 = nI c from r5]
  refine m_ald (k := 6) (N := 22) d_Md_readClue_41 (by decide) rfl (by omega) (by decide) ?_
  refine j_bipush (v := 30) d_Md_readClue_42 (by decide) ?_
  refine j_iadd d_Md_readClue_44 ?_
  rw [s6, show nI B + 30 = nI (B + 30) from nI_add B 30]
  refine j_icmp_ne (tgt := 50) d_Md_readClue_45 (by decide) (fun q2 => ?_) (fun _ => out _)
  exfalso
  rcases st with st | st | st
  · rw [show byF txf ln pl = -1 from if_neg st] at q
    exact q (by decide)
  · exact q2 (by rw [show sg = 30 by omega])
  · by_cases e : pl < ln
    · rw [show byF txf ln pl = nI (txf pl) from if_pos e] at q
      exact q ((sgO_is (r9 pl)).1.mp st)
    · rw [show byF txf ln pl = -1 from if_neg e] at q
      exact q (by decide)
set_option maxRecDepth 10000 in
theorem rc_head (R : RcF E mo v f N K M c B ln txf) (s : Sm F f) (hpl : pl < ln) (hsg : sg < 30) (hw : w ≤ 30) (is : isSg (txf pl) = true)
    (kk : J E m_Md_readClue 3 0 0 67 [(0, .ref mo), (1, .int (nI (w + 1))), (2, .int (nI (B + sg))), (3, .int (sgO (nI (txf pl))))] [] (hM E h mo (upd v 15 (nI (pl + 1))) (upG F 7 (upd (F 7) (B + sg) (sgO (nI (txf pl)))))) n Q) :
    ∀ L, L.take 3 = [(0, .ref mo), (1, .int (nI (w + 1))), (2, .int (nI (B + sg)))] → J E m_Md_readClue 3 0 0 12 L [] (hM E h mo (upd v 15 (nI pl)) F) n Q := by
  intro L hL
  have T := R.tx s (Nat.le_of_lt hpl)
  obtain ⟨r1, r2, r3, r4, r5, r6, r7, ⟨r8, r9, r10, r11, r12, r13, r14⟩, hb⟩ := R
  have s6 : F 6 c = nI B := by rw [s 6 (by decide) (by decide) (by decide)]; exact r7
  refine J.tk 3 ?_
  rw [hL]
  refine j_iload_n d_Md_readClue_12 rfl ?_
  refine j_if_le (tgt := 183) d_Md_readClue_13 (by decide) (fun q => absurd q (nI_nle (by omega) (by omega))) (fun _ => ?_)
  refine j_aload_n d_Md_readClue_16 rfl ?_
  refine j_aload_n d_Md_readClue_17 rfl ?_
  refine m_get d_Md_readClue_18 fl_Md_101 rfl ?_
  rw [show upd v 15 (nI pl) 15 = nI pl from rfl]
  refine m_pV (As := [.int (nI pl)]) d_Md_readClue_21 cb_Md_104 vv_Md_byteAt rfl rfl rfl (Nat.le_of_ble_eq_true rfl) (d' := 0) (by decide) (c_Md_byte T) ?_
  refine j_pS (As := [.int (byF txf ln pl)]) d_Md_readClue_24 cb_Md_121 sv_Md_signOf rfl rfl (Nat.le_of_ble_eq_true rfl) (d' := 0) (by decide) c_Md_signOf ?_
  rw [show byF txf ln pl = nI (txf pl) from if_pos hpl]
  refine j_istore_n d_Md_readClue_27 (by decide) ?_
  refine j_iload_n d_Md_readClue_28 rfl ?_
  refine j_if_lt (tgt := 48) d_Md_readClue_29 (by decide) (fun q => ?_) (fun q => ?_)
  · have := (sgO_is (r9 pl)).1.mpr q
    rw [is] at this
    exact absurd this (by decide)
  refine j_iload_n d_Md_readClue_32 rfl ?_
  refine j_aload_n d_Md_readClue_33 rfl ?_
  refine m_get d_Md_readClue_34 fl_Md_29 rfl ?_
  refine j_aload_n d_Md_readClue_37 rfl ?_
  refine m_get d_Md_readClue_38 fl_Md_118 rfl ?_
  rw [show upd v 15 (nI pl) 14 = nI c from r5]
  refine m_ald (k := 6) (N := 22) d_Md_readClue_41 (by decide) rfl (by omega) (by decide) ?_
  refine j_bipush (v := 30) d_Md_readClue_42 (by decide) ?_
  refine j_iadd d_Md_readClue_44 ?_
  rw [s6, show nI B + 30 = nI (B + 30) from nI_add B 30]
  refine j_icmp_ne (tgt := 50) d_Md_readClue_45 (by decide) (fun _ => ?_) (fun q2 => ?_)
  · refine j_aload_n d_Md_readClue_50 rfl ?_
    refine j_dup d_Md_readClue_51 rfl ?_
    refine m_get d_Md_readClue_52 fl_Md_101 rfl ?_
    refine j_iconst (v := 1) d_Md_readClue_55 (by decide) ?_
    refine j_iadd d_Md_readClue_56 ?_
    rw [show upd v 15 (nI pl) 15 = nI pl from rfl, nI_1]
    refine m_put d_Md_readClue_57 fl_Md_101 rfl rfl hb rfl rfl ?_
    refine j_aload_n d_Md_readClue_60 rfl ?_
    refine m_get d_Md_readClue_61 fl_Md_32 rfl ?_
    refine j_iload_n d_Md_readClue_64 rfl ?_
    refine j_iload_n d_Md_readClue_65 rfl ?_
    refine m_ast (k := 7) (N := 640) d_Md_readClue_66 (by decide) rfl hb (by omega) (by decide) ?_
    rw [upd_upd]
    exact kk
  · have := (nI_eq (by omega) (by omega)).mp q2
    omega
set_option maxRecDepth 10000 in
theorem rc_bad {k : Nat} {s : Int32} {u : Nat → Int32} {G : Nat → Nat → Int32} {w0 : Value} (hk : k < 640) (h89 : G 8 k < 0 ∨ G 9 k < 0) (hq : Q (some (.int 0)) (hM E h mo u G) n) : J E m_Md_readClue 3 0 0 134 [(0, .ref mo), (1, w0), (2, .int (nI k)), (3, .int s)] [] (hM E h mo u G) n Q := by
  have out : ∀ L, J E m_Md_readClue 3 0 0 152 L [] (hM E h mo u G) n Q := by
    intro L
    refine j_iconst (v := 0) d_Md_readClue_152 (by decide) ?_
    exact j_zret d_Md_readClue_153 rfl (Or.inl rfl) hq
  refine j_aload_n d_Md_readClue_134 rfl ?_
  refine m_get d_Md_readClue_135 fl_Md_35 rfl ?_
  refine j_iload_n d_Md_readClue_138 rfl ?_
  refine m_ald (k := 8) (N := 640) d_Md_readClue_139 (by decide) rfl (by omega) (by decide) ?_
  refine j_if_lt (tgt := 152) d_Md_readClue_140 (by decide) (fun _ => out _) (fun q => ?_)
  refine j_aload_n d_Md_readClue_143 rfl ?_
  refine m_get d_Md_readClue_144 fl_Md_38 rfl ?_
  refine j_iload_n d_Md_readClue_147 rfl ?_
  refine m_ald (k := 9) (N := 640) d_Md_readClue_148 (by decide) rfl (by omega) (by decide) ?_
  refine j_if_ge (tgt := 154) d_Md_readClue_149 (by decide) (fun q2 => ?_) (fun _ => out _)
  exact absurd (h89.resolve_left q) (Int32.not_lt.mpr q2)
set_option maxRecDepth 10000 in
theorem rc_good {k w' : Nat} {s w0 : Int32} {u : Nat → Int32} {G : Nat → Nat → Int32} (hk : k < 640) (h8 : ¬ G 8 k < 0) (h9 : ¬ G 9 k < 0) (hw : w0 + (if s < 5 then -1 else if s < 7 then 0 else 1) = nI w')
    (kk : ∀ L', L'.take 3 = [(0, .ref mo), (1, .int (nI w')), (2, .int (nI (k + 1)))] → J E m_Md_readClue 3 0 0 12 L' [] (hM E h mo u G) n Q) : J E m_Md_readClue 3 0 0 134 [(0, .ref mo), (1, .int w0), (2, .int (nI k)), (3, .int s)] [] (hM E h mo u G) n Q := by
  refine j_aload_n d_Md_readClue_134 rfl ?_
  refine m_get d_Md_readClue_135 fl_Md_35 rfl ?_
  refine j_iload_n d_Md_readClue_138 rfl ?_
  refine m_ald (k := 8) (N := 640) d_Md_readClue_139 (by decide) rfl (by omega) (by decide) ?_
  refine j_if_lt (tgt := 152) d_Md_readClue_140 (by decide) (fun q => absurd q h8) (fun _ => ?_)
  refine j_aload_n d_Md_readClue_143 rfl ?_
  refine m_get d_Md_readClue_144 fl_Md_38 rfl ?_
  refine j_iload_n d_Md_readClue_147 rfl ?_
  refine m_ald (k := 9) (N := 640) d_Md_readClue_148 (by decide) rfl (by omega) (by decide) ?_
  refine j_if_ge (tgt := 154) d_Md_readClue_149 (by decide) (fun _ => ?_) (fun q => absurd (Int32.not_lt.mp h9) q)
  have fin : ∀ x : Int32, w0 + x = nI w' → J E m_Md_readClue 3 0 0 175 [(0, .ref mo), (1, .int w0), (2, .int (nI k)), (3, .int s)] [.int x, .int w0] (hM E h mo u G) n Q := by
    intro x hx
    refine j_iadd d_Md_readClue_175 ?_
    rw [hx]
    refine j_istore_n d_Md_readClue_176 (by decide) ?_
    refine j_iinc (v := nI (k + 1)) d_Md_readClue_177 rfl (nI_succ k).symm (by decide) ?_
    refine j_goto (tgt := 12) d_Md_readClue_180 (by decide) ?_
    exact kk _ rfl
  refine j_iload_n d_Md_readClue_154 rfl ?_
  refine j_iload_n d_Md_readClue_155 rfl ?_
  refine j_iconst (v := 5) d_Md_readClue_156 (by decide) ?_
  refine j_icmp_ge (tgt := 164) d_Md_readClue_157 (by decide) (fun q => ?_) (fun q => ?_)
  · rw [if_neg (Int32.not_lt.mpr q)] at hw
    refine j_iload_n d_Md_readClue_164 rfl ?_
    refine j_bipush (v := 7) d_Md_readClue_165 (by decide) ?_
    refine j_icmp_ge (tgt := 174) d_Md_readClue_167 (by decide) (fun q2 => ?_) (fun q2 => ?_)
    · rw [if_neg (Int32.not_lt.mpr q2)] at hw
      refine j_iconst (v := 1) d_Md_readClue_174 (by decide) ?_
      exact fin _ hw
    · rw [if_pos (Int32.not_le.mp q2)] at hw
      refine j_iconst (v := 0) d_Md_readClue_170 (by decide) ?_
      refine j_goto (tgt := 175) d_Md_readClue_171 (by decide) ?_
      exact fin _ hw
  · rw [if_pos (Int32.not_le.mp q)] at hw
    refine j_iconst (v := (-1)) d_Md_readClue_160 (by decide) ?_
    refine j_goto (tgt := 175) d_Md_readClue_161 (by decide) ?_
    exact fin _ hw
end MCL

section MC2
variable {E : EV} {h : HP} {n mo N K M c B ln pl sg w k : Nat} {v : Nat → Int32} {f F : Nat → Nat → Int32} {txf : Nat → Nat} {Q : Option Value → HP → Nat → Prop} {s w0 : Int32}
set_option maxRecDepth 10000 in
theorem takeF_j {z : Int32} {m : Nat} (hm : m < 2 ^ 31) (q : ¬ (takeF txf ln z 0 (nI m - 1) pl).1 = -1) : ∃ j, j < m ∧ (takeF txf ln z 0 (nI m - 1) pl).1 = nI j := by
  unfold takeF at q ⊢
  split at q
  · exact absurd rfl q
  · rename_i c1
    rw [if_neg c1]
    split at q
    · exact absurd rfl q
    · rename_i c2
      rw [if_neg c2]
      obtain ⟨j, hj, e⟩ := nI_of (x := nI (txf pl) - z) (fun y => c2 (Or.inl y))
      refine ⟨j, ?_, e⟩
      have c3 : ¬ nI m - 1 < nI (txf pl) - z := fun y => c2 (Or.inr y)
      rw [e] at c3
      rcases m with _ | m
      · exact absurd (Int32.lt_of_lt_of_le (show (nI 0 - 1 : Int32) < 0 by decide) (nI_pos' hj)) c3
      · rw [nI_pred] at c3
        have : ¬ m < j := fun y => c3 ((nI_ltI (by omega) hj).mpr y)
        omega
set_option maxRecDepth 10000 in
theorem tvF_j (hK : K ≤ 3) (hN : N ≤ 4) (q : ¬ (tvF txf ln (nI K) (nI N) pl).1 = -1) : ∃ a b, a < K ∧ b < N ∧ (tvF txf ln (nI K) (nI N) pl).1 = nI (4 * a + b) := by
  unfold tvF at q ⊢
  split at q
  · exact absurd rfl q
  · rename_i c1
    rw [if_neg c1]
    split at q
    · exact absurd rfl q
    · rename_i c2
      rw [if_neg c2]
      obtain ⟨a, ha, ea⟩ := takeF_j (by omega) c1
      obtain ⟨b, hb, eb⟩ := takeF_j (by omega) c2
      exact ⟨a, b, ha, hb, by rw [← nI_4, ← ea, ← eb]⟩
set_option maxRecDepth 10000 in
theorem rc_two0 {u : Nat → Int32} {G : Nat → Nat → Int32} (hb : E.2.2.2.1 ≤ mo) (hk : k < 640) (hs : 4 ≤ s ∨ G 8 k < 0) (kk : J E m_Md_readClue 3 0 0 134 [(0, .ref mo), (1, .int w0), (2, .int (nI k)), (3, .int s)] [] (hM E h mo u (upG G 9 (upd (G 9) k 0))) n Q) : J E m_Md_readClue 3 0 0 106 [(0, .ref mo), (1, .int w0), (2, .int (nI k)), (3, .int s)] [] (hM E h mo u G) n Q := by
  have fin : J E m_Md_readClue 3 0 0 132 [(0, .ref mo), (1, .int w0), (2, .int (nI k)), (3, .int s)] [.int (nI k), .ref (mo + 9)] (hM E h mo u G) n Q := by
    refine j_iconst (v := 0) d_Md_readClue_132 (by decide) ?_
    refine m_ast (k := 9) (N := 640) d_Md_readClue_133 (by decide) rfl hb (by omega) (by decide) ?_
    exact kk
  refine j_aload_n d_Md_readClue_106 rfl ?_
  refine m_get d_Md_readClue_107 fl_Md_38 rfl ?_
  refine j_iload_n d_Md_readClue_110 rfl ?_
  refine j_iload_n d_Md_readClue_111 rfl ?_
  refine j_iconst (v := 4) d_Md_readClue_112 (by decide) ?_
  refine j_icmp_ge (tgt := 132) d_Md_readClue_113 (by decide) (fun _ => fin) (fun q => ?_)
  refine j_aload_n d_Md_readClue_116 rfl ?_
  refine m_get d_Md_readClue_117 fl_Md_35 rfl ?_
  refine j_iload_n d_Md_readClue_120 rfl ?_
  refine m_ald (k := 8) (N := 640) d_Md_readClue_121 (by decide) rfl (by omega) (by decide) ?_
  refine j_if_lt (tgt := 132) d_Md_readClue_122 (by decide) (fun _ => fin) (fun q2 => ?_)
  exact absurd (hs.resolve_left q) q2
set_option maxRecDepth 10000 in
theorem rc_non {u : Nat → Int32} {G : Nat → Nat → Int32} (hb : E.2.2.2.1 ≤ mo) (hk : k < 640) (hs : 6 ≤ s) (kk : J E m_Md_readClue 3 0 0 134 [(0, .ref mo), (1, .int w0), (2, .int (nI k)), (3, .int s)] [] (hM E h mo u (upG (upG G 8 (upd (G 8) k 0)) 9 (upd (G 9) k 0))) n Q) : J E m_Md_readClue 3 0 0 67 [(0, .ref mo), (1, .int w0), (2, .int (nI k)), (3, .int s)] [] (hM E h mo u G) n Q := by
  have h4 : 4 ≤ s := Int32.le_trans (by decide) hs
  refine j_aload_n d_Md_readClue_67 rfl ?_
  refine m_get d_Md_readClue_68 fl_Md_35 rfl ?_
  refine j_iload_n d_Md_readClue_71 rfl ?_
  refine j_iload_n d_Md_readClue_72 rfl ?_
  refine j_iconst (v := 4) d_Md_readClue_73 (by decide) ?_
  refine j_icmp_ge (tgt := 84) d_Md_readClue_74 (by decide) (fun _ => ?_) (fun q => absurd h4 q)
  refine j_iload_n d_Md_readClue_84 rfl ?_
  refine j_bipush (v := 6) d_Md_readClue_85 (by decide) ?_
  refine j_icmp_ge (tgt := 104) d_Md_readClue_87 (by decide) (fun _ => ?_) (fun q => absurd hs q)
  refine j_iconst (v := 0) d_Md_readClue_104 (by decide) ?_
  refine m_ast (k := 8) (N := 640) d_Md_readClue_105 (by decide) rfl hb (by omega) (by decide) ?_
  exact rc_two0 hb hk (Or.inl h4) kk
set_option maxRecDepth 10000 in
theorem rc_per {G : Nat → Nat → Int32} (R : RcF E mo v f N K M c B ln txf) (sm : Sm G f) (hpl : pl ≤ ln) (hk : k < 640) (h4 : 4 ≤ s) (h6 : s < 6) (kk : J E m_Md_readClue 3 0 0 134 [(0, .ref mo), (1, .int w0), (2, .int (nI k)), (3, .int s)] [] (hM E h mo (upd v 15 (nI (takeF txf ln 48 0 (nI M - 1) pl).2)) (upG (upG G 8 (upd (G 8) k (takeF txf ln 48 0 (nI M - 1) pl).1)) 9 (upd (G 9) k 0))) n Q) : J E m_Md_readClue 3 0 0 67 [(0, .ref mo), (1, .int w0), (2, .int (nI k)), (3, .int s)] [] (hM E h mo (upd v 15 (nI pl)) G) n Q := by
  have T := R.tx sm hpl
  obtain ⟨r1, r2, r3, r4, r5, r6, r7, ⟨r8, r9, r10, r11, r12, r13, r14⟩, hb⟩ := R
  refine j_aload_n d_Md_readClue_67 rfl ?_
  refine m_get d_Md_readClue_68 fl_Md_35 rfl ?_
  refine j_iload_n d_Md_readClue_71 rfl ?_
  refine j_iload_n d_Md_readClue_72 rfl ?_
  refine j_iconst (v := 4) d_Md_readClue_73 (by decide) ?_
  refine j_icmp_ge (tgt := 84) d_Md_readClue_74 (by decide) (fun _ => ?_) (fun q => absurd h4 q)
  refine j_iload_n d_Md_readClue_84 rfl ?_
  refine j_bipush (v := 6) d_Md_readClue_85 (by decide) ?_
  refine j_icmp_ge (tgt := 104) d_Md_readClue_87 (by decide) (fun q => absurd h6 (Int32.not_lt.mpr q)) (fun _ => ?_)
  refine j_aload_n d_Md_readClue_90 rfl ?_
  refine j_iconst (v := 0) d_Md_readClue_91 (by decide) ?_
  refine j_aload_n d_Md_readClue_92 rfl ?_
  refine m_get d_Md_readClue_93 fl_Md_128 rfl ?_
  refine j_iconst (v := 1) d_Md_readClue_96 (by decide) ?_
  refine j_isub d_Md_readClue_97 ?_
  rw [show upd v 15 (nI pl) 13 = nI M from r4]
  refine m_callV (As := [.int 0, .int (nI M - 1)]) d_Md_readClue_98 cb_Md_114 vv_Md_digit rfl rfl rfl (Nat.le_of_ble_eq_true rfl) (d' := 1) (by decide) (c_Md_digit hb T) (fun w h' n' q _ => ?_)
  obtain ⟨rfl, rfl, q3⟩ := q; have q3 := q3.symm; subst q3
  rw [upd_upd]
  refine j_goto (tgt := 105) d_Md_readClue_101 (by decide) ?_
  refine m_ast (k := 8) (N := 640) d_Md_readClue_105 (by decide) rfl hb (by omega) (by decide) ?_
  exact rc_two0 hb hk (Or.inl h4) kk
set_option maxRecDepth 10000 in
theorem rc_val {G : Nat → Nat → Int32} (R : RcF E mo v f N K M c B ln txf) (sm : Sm G f) (hpl : pl ≤ ln) (hk : k < 640) (h4 : s < 4)
    (k1 : (tvF txf ln (nI K) (nI N) pl).1 = -1 → J E m_Md_readClue 3 0 0 134 [(0, .ref mo), (1, .int w0), (2, .int (nI k)), (3, .int s)] [] (hM E h mo (upd v 15 (nI (tvF txf ln (nI K) (nI N) pl).2)) (upG (upG G 8 (upd (G 8) k (-1))) 9 (upd (G 9) k 0))) n Q)
    (k2 : ¬ (tvF txf ln (nI K) (nI N) pl).1 = -1 → J E m_Md_readClue 3 0 0 134 [(0, .ref mo), (1, .int w0), (2, .int (nI k)), (3, .int s)] [] (hM E h mo (upd v 15 (nI (tvF txf ln (nI K) (nI N) (tvF txf ln (nI K) (nI N) pl).2).2)) (upG (upG G 8 (upd (G 8) k (tvF txf ln (nI K) (nI N) pl).1)) 9 (upd (G 9) k (tvF txf ln (nI K) (nI N) (tvF txf ln (nI K) (nI N) pl).2).1))) n Q) :
    J E m_Md_readClue 3 0 0 67 [(0, .ref mo), (1, .int w0), (2, .int (nI k)), (3, .int s)] [] (hM E h mo (upd v 15 (nI pl)) G) n Q := by
  have T := R.tx sm hpl
  have R0 := R
  obtain ⟨r1, r2, r3, r4, r5, r6, r7, ⟨r8, r9, r10, r11, r12, r13, r14⟩, hb⟩ := R
  refine j_aload_n d_Md_readClue_67 rfl ?_
  refine m_get d_Md_readClue_68 fl_Md_35 rfl ?_
  refine j_iload_n d_Md_readClue_71 rfl ?_
  refine j_iload_n d_Md_readClue_72 rfl ?_
  refine j_iconst (v := 4) d_Md_readClue_73 (by decide) ?_
  refine j_icmp_ge (tgt := 84) d_Md_readClue_74 (by decide) (fun q => absurd h4 (Int32.not_lt.mpr q)) (fun _ => ?_)
  refine j_aload_n d_Md_readClue_77 rfl ?_
  refine m_callV (As := []) d_Md_readClue_78 cb_Md_124 vv_Md_value rfl rfl rfl (Nat.le_of_ble_eq_true rfl) (d' := 2) (by decide) (c_Md_value (k := K) (nn := N) hb T r3 r2 r13 r12) (fun w h' n' q _ => ?_)
  obtain ⟨rfl, rfl, q3⟩ := q; have q3 := q3.symm; subst q3
  rw [upd_upd]
  refine j_goto (tgt := 105) d_Md_readClue_81 (by decide) ?_
  refine m_ast (k := 8) (N := 640) d_Md_readClue_105 (by decide) rfl hb (by omega) (by decide) ?_
  by_cases e : (tvF txf ln (nI K) (nI N) pl).1 = -1
  · have k1 := k1 e
    rw [e]
    exact rc_two0 hb hk (Or.inr (by show upd (G 8) k (-1) k < 0; rw [upd_ss]; decide)) k1
  · have k2 := k2 e
    obtain ⟨a, b, ha, hb2, eab⟩ := tvF_j r13 r12 e
    have T2 := R0.tx (F := upG G 8 (upd (G 8) k (tvF txf ln (nI K) (nI N) pl).1)) (sm.up (by omega)) (tvF_ln (K := nI K) (N := nI N) (txf := txf) hpl)
    refine j_aload_n d_Md_readClue_106 rfl ?_
    refine m_get d_Md_readClue_107 fl_Md_38 rfl ?_
    refine j_iload_n d_Md_readClue_110 rfl ?_
    refine j_iload_n d_Md_readClue_111 rfl ?_
    refine j_iconst (v := 4) d_Md_readClue_112 (by decide) ?_
    refine j_icmp_ge (tgt := 132) d_Md_readClue_113 (by decide) (fun q => absurd h4 (Int32.not_lt.mpr q)) (fun _ => ?_)
    refine j_aload_n d_Md_readClue_116 rfl ?_
    refine m_get d_Md_readClue_117 fl_Md_35 rfl ?_
    refine j_iload_n d_Md_readClue_120 rfl ?_
    refine m_ald (k := 8) (N := 640) d_Md_readClue_121 (by decide) rfl (by omega) (by decide) ?_
    rw [show upG G 8 (upd (G 8) k (tvF txf ln (nI K) (nI N) pl).1) 8 k = (tvF txf ln (nI K) (nI N) pl).1 from upd_ss _ _ _]
    refine j_if_lt (tgt := 132) d_Md_readClue_122 (by decide) (fun q => absurd q (by rw [eab]; exact nI_pos (by omega))) (fun _ => ?_)
    refine j_aload_n d_Md_readClue_125 rfl ?_
    refine m_callV (As := []) d_Md_readClue_126 cb_Md_124 vv_Md_value rfl rfl rfl (Nat.le_of_ble_eq_true rfl) (d' := 2) (by decide) (c_Md_value (k := K) (nn := N) hb T2 r3 r2 r13 r12) (fun w h' n' q _ => ?_)
    obtain ⟨rfl, rfl, q3⟩ := q; have q3 := q3.symm; subst q3
    rw [upd_upd]
    refine j_goto (tgt := 133) d_Md_readClue_129 (by decide) ?_
    refine m_ast (k := 9) (N := 640) d_Md_readClue_133 (by decide) rfl hb (by omega) (by decide) ?_
    exact k2
set_option maxRecDepth 10000 in
/-- the reading of a clue, beside the class's -/
theorem rc_all (R : RcF E mo v f N K M c B ln txf) : ∀ (fu pl sg w : Nat) (F : Nat → Nat → Int32), pl ≤ ln → sg ≤ 30 → 31 ≤ fu + sg → w ≤ sg → Sm F f →
    ((pcl txf ln (nI K) (nI N) (nI M) fu pl sg).1 = none → ∀ F', Sm F' f → Q (some (.int 0)) (hM E h mo (upd v 15 (nI (pcl txf ln (nI K) (nI N) (nI M) fu pl sg).2.1)) F') n) →
    (∀ φ, (pcl txf ln (nI K) (nI N) (nI M) fu pl sg).1 = some φ → ∀ F' L', Sm F' f → (∀ j, j < B + sg → F' 7 j = F 7 j ∧ F' 8 j = F 8 j ∧ F' 9 j = F 9 j) → PX N K M (F' 7) (F' 8) (F' 9) fu (B + sg) (B + (pcl txf ln (nI K) (nI N) (nI M) fu pl sg).2.2) φ → L'.take 3 = [(0, .ref mo), (1, .int (nI w)), (2, .int (nI (B + (pcl txf ln (nI K) (nI N) (nI M) fu pl sg).2.2)))] → J E m_Md_readClue 3 0 0 12 L' [] (hM E h mo (upd v 15 (nI (pcl txf ln (nI K) (nI N) (nI M) fu pl sg).2.1)) F') n Q) →
    ∀ L, L.take 3 = [(0, .ref mo), (1, .int (nI (w + 1))), (2, .int (nI (B + sg)))] → J E m_Md_readClue 3 0 0 12 L [] (hM E h mo (upd v 15 (nI pl)) F) n Q
  | 0, _, _, _, _, _, h1, h2, _, _ => absurd h2 (by omega)
  | fu + 1, pl, sg, w, F, hpl, hsg, hf, hw, sm => by
    have ih := rc_all R fu
    obtain ⟨r1, r2, r3, r4, r5, r6, r7, ⟨r8, r9, r10, r11, r12, r13, r14⟩, hb⟩ := id R
    by_cases c0 : ¬ pl < ln ∨ ¬ sg < 30 ∨ isSg (txf pl) = false
    · intro no _
      have e : pcl txf ln (nI K) (nI N) (nI M) (fu + 1) pl sg = (none, pl, sg) := by rw [pcl, if_pos c0]
      rw [e] at no
      exact rc_stop R sm hpl hsg (by omega) c0 (no rfl F sm)
    have h1 : pl < ln := Decidable.byContradiction (fun q => c0 (Or.inl q))
    have h2 : sg < 30 := Decidable.byContradiction (fun q => c0 (Or.inr (Or.inl q)))
    have h3 : isSg (txf pl) = true := by
      cases e : isSg (txf pl)
      · exact absurd (Or.inr (Or.inr e)) c0
      · rfl
    have hk : B + sg < 640 := by omega
    have hkb : B + (sg + 1) = B + sg + 1 := rfl
    have sm7 : Sm (upG F 7 (upd (F 7) (B + sg) (sgO (nI (txf pl))))) f := sm.up (by omega)
    have lows : ∀ (x y z : Int32) (j : Nat), j < B + sg → upG (upG (upG F 7 (upd (F 7) (B + sg) x)) 8 (upd (F 8) (B + sg) y)) 9 (upd (F 9) (B + sg) z) 7 j = F 7 j ∧ upG (upG (upG F 7 (upd (F 7) (B + sg) x)) 8 (upd (F 8) (B + sg) y)) 9 (upd (F 9) (B + sg) z) 8 j = F 8 j ∧ upG (upG (upG F 7 (upd (F 7) (B + sg) x)) 8 (upd (F 8) (B + sg) y)) 9 (upd (F 9) (B + sg) z) 9 j = F 9 j := fun x y z j hj => ⟨upd_nn _ _ (by omega), upd_nn _ _ (by omega), upd_nn _ _ (by omega)⟩
    have m5 : nI (w + 1) + (-1) = nI w := by rw [← Int32.sub_eq_add_neg]; exact nI_pred w
    have m0 : nI (w + 1) + 0 = nI (w + 1) := Int32.add_zero _
    have join : ∀ b1 : Int32, (b1 = 0 ∨ b1 = 1) → sgO (nI (txf pl)) = 8 - b1 → pcl txf ln (nI K) (nI N) (nI M) (fu + 1) pl sg = pJo (pcl txf ln (nI K) (nI N) (nI M) fu) b1 (pl + 1) (sg + 1) →
        ((pcl txf ln (nI K) (nI N) (nI M) (fu + 1) pl sg).1 = none → ∀ F', Sm F' f → Q (some (.int 0)) (hM E h mo (upd v 15 (nI (pcl txf ln (nI K) (nI N) (nI M) (fu + 1) pl sg).2.1)) F') n) →
        (∀ φ, (pcl txf ln (nI K) (nI N) (nI M) (fu + 1) pl sg).1 = some φ → ∀ F' L', Sm F' f → (∀ j, j < B + sg → F' 7 j = F 7 j ∧ F' 8 j = F 8 j ∧ F' 9 j = F 9 j) → PX N K M (F' 7) (F' 8) (F' 9) (fu + 1) (B + sg) (B + (pcl txf ln (nI K) (nI N) (nI M) (fu + 1) pl sg).2.2) φ → L'.take 3 = [(0, .ref mo), (1, .int (nI w)), (2, .int (nI (B + (pcl txf ln (nI K) (nI N) (nI M) (fu + 1) pl sg).2.2)))] → J E m_Md_readClue 3 0 0 12 L' [] (hM E h mo (upd v 15 (nI (pcl txf ln (nI K) (nI N) (nI M) (fu + 1) pl sg).2.1)) F') n Q) →
        ∀ L, L.take 3 = [(0, .ref mo), (1, .int (nI (w + 1))), (2, .int (nI (B + sg)))] → J E m_Md_readClue 3 0 0 12 L [] (hM E h mo (upd v 15 (nI pl)) F) n Q := by
      intro b1 hb1 es e
      rw [e]
      intro no yes
      refine rc_head R sm h1 h2 (by omega) h3 ?_
      rw [es] at sm7 ⊢
      have h6 : (6 : Int32) ≤ 8 - b1 := by rcases hb1 with rfl | rfl <;> decide
      have m7 : nI (w + 1) + (if 8 - b1 < 5 then -1 else if 8 - b1 < 7 then 0 else 1) = nI (w + 2) := by
        have : (if 8 - b1 < 5 then -1 else if 8 - b1 < 7 then 0 else 1 : Int32) = 1 := by rcases hb1 with rfl | rfl <;> decide
        rw [this]
        exact nI_1 (w + 1)
      refine rc_non hb hk h6 ?_
      refine rc_good hk (by show ¬ upd (F 8) (B + sg) _ (B + sg) < 0; rw [upd_ss]; decide) (by show ¬ upd (F 9) (B + sg) _ (B + sg) < 0; rw [upd_ss]; decide) m7 (fun L' hL' => ?_)
      have q1 := pcl_ln (txf := txf) (k := K) (nn := N) (m := M) fu (pl + 1) (sg + 1) h1
      have q2 := pcl_sg (txf := txf) (ln := ln) (k := K) (nn := N) (m := M) fu (pl + 1) (sg + 1) (by omega)
      refine ih (pl + 1) (sg + 1) (w + 1) _ (by omega) (by omega) (by omega) (by omega) ((sm7.up (by omega)).up (by omega)) (fun a F' s' => ?_) (fun ψ a F' L2 s' lo X hL2 => ?_) L' hL'
      · have e2 : pJo (pcl txf ln (nI K) (nI N) (nI M) fu) b1 (pl + 1) (sg + 1) = (none, (pcl txf ln (nI K) (nI N) (nI M) fu (pl + 1) (sg + 1)).2) := by unfold pJo; rw [a]
        rw [e2] at no
        exact no rfl F' s'
      · have e2 : pJo (pcl txf ln (nI K) (nI N) (nI M) fu) b1 (pl + 1) (sg + 1) = pJo2 b1 ψ (pcl txf ln (nI K) (nI N) (nI M) fu (pcl txf ln (nI K) (nI N) (nI M) fu (pl + 1) (sg + 1)).2.1 (pcl txf ln (nI K) (nI N) (nI M) fu (pl + 1) (sg + 1)).2.2) := by unfold pJo; rw [a]
        rw [e2] at no yes
        generalize pcl txf ln (nI K) (nI N) (nI M) fu (pl + 1) (sg + 1) = R1 at q1 q2 no yes X hL2 ⊢
        refine ih R1.2.1 R1.2.2 w F' q1 q2.1 (by omega) (by omega) s' (fun a2 F2 s2 => no (by show Option.map _ _ = _; rw [a2]; rfl) F2 s2) (fun χ a2 F2 L3 s2 lo2 X2 hL3 => ?_) L2 hL2
        refine yes (fun th => if b1 = 0 then ψ th ||| χ th else ψ th &&& χ th) (by show Option.map _ _ = _; rw [a2]; rfl) F2 L3 s2 (fun j hj => ?_) ?_ hL3
        · obtain ⟨a1, a2, a3⟩ := lo j (by omega)
          obtain ⟨b1, b2, b3⟩ := lows _ _ _ j hj
          obtain ⟨d1, d2, d3⟩ := lo2 j (by omega)
          exact ⟨d1.trans (a1.trans b1), d2.trans (a2.trans b2), d3.trans (a3.trans b3)⟩
        · obtain ⟨a1, a2, a3⟩ := lo (B + sg) (by omega)
          obtain ⟨d1, d2, d3⟩ := lo2 (B + sg) (by omega)
          unfold PX
          exact Or.inr (Or.inr (Or.inr (Or.inr ⟨b1, B + R1.2.2, ψ, χ, hb1, d1.trans (a1.trans (upd_ss _ _ _)), PX_eq (fun j _ hj => lo2 j hj) X, X2, rfl⟩)))
    rcases (sgO_is (r9 pl)).2 h3 with c1 | c1 | c1 | c1 | c1 | c1
    · -- t
      have e : pcl txf ln (nI K) (nI N) (nI M) (fu + 1) pl sg = pOp txf ln (nI M) (pl + 1) (sg + 1) := by rw [pcl, if_neg c0, if_pos c1]
      rw [e]
      intro no yes
      refine rc_head R sm h1 h2 (by omega) h3 ?_
      rw [c1] at sm7 ⊢
      refine rc_per R sm7 (by omega) hk (by decide) (by decide) ?_
      by_cases z : (takeF txf ln 48 0 (nI M - 1) (pl + 1)).1 = -1
      · have e2 : pOp txf ln (nI M) (pl + 1) (sg + 1) = (none, (takeF txf ln 48 0 (nI M - 1) (pl + 1)).2, sg + 1) := if_pos z
        rw [e2] at no
        exact rc_bad hk (Or.inl (by show upd (F 8) (B + sg) _ (B + sg) < 0; rw [upd_ss, z]; decide)) (no rfl _ ((sm7.up (by omega)).up (by omega)))
      · obtain ⟨p, hp, ep⟩ := takeF_j (by omega) z
        have e2 : pOp txf ln (nI M) (pl + 1) (sg + 1) = (some (fun _ => truthF (takeF txf ln 48 0 (nI M - 1) (pl + 1)).1.toNatClampNeg), (takeF txf ln 48 0 (nI M - 1) (pl + 1)).2, sg + 1) := if_neg z
        rw [e2] at yes
        refine rc_good hk (by show ¬ upd (F 8) (B + sg) _ (B + sg) < 0; rw [upd_ss, ep]; exact nI_pos (by omega)) (by show ¬ upd (F 9) (B + sg) _ (B + sg) < 0; rw [upd_ss]; decide) m5 (fun L' hL' => ?_)
        refine yes _ rfl _ L' ((sm7.up (by omega)).up (by omega)) (lows _ _ _) ?_ hL'
        unfold PX
        refine Or.inr (Or.inl ⟨p, rfl, upd_ss _ _ _, (upd_ss _ _ _).trans ep, hp, ?_⟩)
        rw [ep, nI_clamp (by omega)]
    · -- p
      have e : pcl txf ln (nI K) (nI N) (nI M) (fu + 1) pl sg = pSay txf ln (nI M) (pcl txf ln (nI K) (nI N) (nI M) fu) (pl + 1) (sg + 1) := by rw [pcl, if_neg c0, if_neg (by omega), if_pos c1]
      rw [e]
      intro no yes
      refine rc_head R sm h1 h2 (by omega) h3 ?_
      rw [c1] at sm7 ⊢
      refine rc_per R sm7 (by omega) hk (by decide) (by decide) ?_
      by_cases z : (takeF txf ln 48 0 (nI M - 1) (pl + 1)).1 = -1
      · have e2 : pSay txf ln (nI M) (pcl txf ln (nI K) (nI N) (nI M) fu) (pl + 1) (sg + 1) = (none, (takeF txf ln 48 0 (nI M - 1) (pl + 1)).2, sg + 1) := if_pos z
        rw [e2] at no
        exact rc_bad hk (Or.inl (by show upd (F 8) (B + sg) _ (B + sg) < 0; rw [upd_ss, z]; decide)) (no rfl _ ((sm7.up (by omega)).up (by omega)))
      · obtain ⟨p, hp, ep⟩ := takeF_j (by omega) z
        have e2 : pSay txf ln (nI M) (pcl txf ln (nI K) (nI N) (nI M) fu) (pl + 1) (sg + 1) = pTu (pcl txf ln (nI K) (nI N) (nI M) fu (takeF txf ln 48 0 (nI M - 1) (pl + 1)).2 (sg + 1)) (truthF (takeF txf ln 48 0 (nI M - 1) (pl + 1)).1.toNatClampNeg ^^^ (-1)) := if_neg z
        rw [e2] at no yes
        refine rc_good hk (by show ¬ upd (F 8) (B + sg) _ (B + sg) < 0; rw [upd_ss, ep]; exact nI_pos (by omega)) (by show ¬ upd (F 9) (B + sg) _ (B + sg) < 0; rw [upd_ss]; decide) m0 (fun L' hL' => ?_)
        refine ih _ (sg + 1) w _ (takeF_ln (by omega)) (by omega) (by omega) (by omega) ((sm7.up (by omega)).up (by omega)) (fun a F' s' => no (by show Option.map _ _ = _; rw [a]; rfl) F' s') (fun ψ a F' L2 s' lo X hL2 => ?_) L' hL'
        refine yes (fun th => (truthF (takeF txf ln 48 0 (nI M - 1) (pl + 1)).1.toNatClampNeg ^^^ (-1)) ^^^ ψ th) (by show Option.map _ _ = _; rw [a]; rfl) F' L2 s' (fun j hj => ?_) ?_ hL2
        · obtain ⟨a1, a2, a3⟩ := lo j (by omega)
          obtain ⟨b1, b2, b3⟩ := lows _ _ _ j hj
          exact ⟨a1.trans b1, a2.trans b2, a3.trans b3⟩
        · obtain ⟨a1, a2, a3⟩ := lo (B + sg) (by omega)
          rw [ep, nI_clamp (by omega)]
          unfold PX
          exact Or.inr (Or.inr (Or.inl ⟨p, ψ, a1.trans (upd_ss _ _ _), a2.trans ((upd_ss _ _ _).trans ep), hp, X, rfl⟩))
    · -- ~
      have e : pcl txf ln (nI K) (nI N) (nI M) (fu + 1) pl sg = pTu (pcl txf ln (nI K) (nI N) (nI M) fu (pl + 1) (sg + 1)) (-1) := by rw [pcl, if_neg c0, if_neg (by omega), if_neg (by omega), if_pos c1]
      rw [e]
      intro no yes
      refine rc_head R sm h1 h2 (by omega) h3 ?_
      rw [c1] at sm7 ⊢
      refine rc_non hb hk (by decide) ?_
      refine rc_good hk (by show ¬ upd (F 8) (B + sg) _ (B + sg) < 0; rw [upd_ss]; decide) (by show ¬ upd (F 9) (B + sg) _ (B + sg) < 0; rw [upd_ss]; decide) m0 (fun L' hL' => ?_)
      refine ih _ (sg + 1) w _ (by omega) (by omega) (by omega) (by omega) ((sm7.up (by omega)).up (by omega)) (fun a F' s' => no (by show Option.map _ _ = _; rw [a]; rfl) F' s') (fun ψ a F' L2 s' lo X hL2 => ?_) L' hL'
      refine yes (fun th => (-1) ^^^ ψ th) (by show Option.map _ _ = _; rw [a]; rfl) F' L2 s' (fun j hj => ?_) ?_ hL2
      · obtain ⟨a1, a2, a3⟩ := lo j (by omega)
        obtain ⟨b1, b2, b3⟩ := lows _ _ _ j hj
        exact ⟨a1.trans b1, a2.trans b2, a3.trans b3⟩
      · obtain ⟨a1, a2, a3⟩ := lo (B + sg) (by omega)
        unfold PX
        exact Or.inr (Or.inr (Or.inr (Or.inl ⟨ψ, a1.trans (upd_ss _ _ _), X, rfl⟩)))
    · -- &
      exact join 1 (Or.inr rfl) (by rw [c1]; rfl) (by rw [pcl, if_neg c0, if_neg (by omega), if_neg (by omega), if_neg (by omega), if_pos c1])
    · -- |
      exact join 0 (Or.inl rfl) (by rw [c1]; rfl) (by rw [pcl, if_neg c0, if_neg (by omega), if_neg (by omega), if_neg (by omega), if_neg (by omega), if_pos c1])
    · -- two values
      have c2 := c1
      have hsl : sgO (nI (txf pl)) < 4 := by rcases c1 with c1 | c1 | c1 | c1 <;> rw [c1] <;> decide
      have hs5 : nI (w + 1) + (if sgO (nI (txf pl)) < 5 then -1 else if sgO (nI (txf pl)) < 7 then 0 else 1) = nI w := by
        rw [if_pos (Int32.lt_trans hsl (by decide))]
        exact m5
      unfold isRl at c1
      have e : pcl txf ln (nI K) (nI N) (nI M) (fu + 1) pl sg = pOv txf ln (nI K) (nI N) (nI (txf pl)) (pl + 1) (sg + 1) := by rw [pcl, if_neg c0, if_neg (by omega), if_neg (by omega), if_neg (by omega), if_neg (by omega), if_neg (by omega)]
      rw [e]
      intro no yes
      refine rc_head R sm h1 h2 (by omega) h3 ?_
      refine rc_val R sm7 (by omega) hk hsl (fun z => ?_) (fun z => ?_)
      · have e2 : pOv txf ln (nI K) (nI N) (nI (txf pl)) (pl + 1) (sg + 1) = (none, (tvF txf ln (nI K) (nI N) (pl + 1)).2, sg + 1) := if_pos z
        rw [e2] at no
        exact rc_bad hk (Or.inl (by show upd (F 8) (B + sg) _ (B + sg) < 0; rw [upd_ss]; decide)) (no rfl _ ((sm7.up (by omega)).up (by omega)))
      · obtain ⟨a1, w1, l1, l2, ea⟩ := tvF_j r13 r12 z
        by_cases z2 : (tvF txf ln (nI K) (nI N) (tvF txf ln (nI K) (nI N) (pl + 1)).2).1 = -1
        · have e2 : pOv txf ln (nI K) (nI N) (nI (txf pl)) (pl + 1) (sg + 1) = (none, (tvF txf ln (nI K) (nI N) (tvF txf ln (nI K) (nI N) (pl + 1)).2).2, sg + 1) := by unfold pOv; rw [if_neg z, if_pos z2]
          rw [e2] at no
          exact rc_bad hk (Or.inr (by show upd (F 9) (B + sg) _ (B + sg) < 0; rw [upd_ss, z2]; decide)) (no rfl _ ((sm7.up (by omega)).up (by omega)))
        · obtain ⟨a2, w2, l3, l4, eb⟩ := tvF_j r13 r12 z2
          have e2 : pOv txf ln (nI K) (nI N) (nI (txf pl)) (pl + 1) (sg + 1) = (some (fun th => relM (nI (txf pl)) (th (tvF txf ln (nI K) (nI N) (pl + 1)).1.toNatClampNeg) (th (tvF txf ln (nI K) (nI N) (tvF txf ln (nI K) (nI N) (pl + 1)).2).1.toNatClampNeg)), (tvF txf ln (nI K) (nI N) (tvF txf ln (nI K) (nI N) (pl + 1)).2).2, sg + 1) := by unfold pOv; rw [if_neg z, if_neg z2]
          rw [e2] at yes
          refine rc_good hk (by show ¬ upd (F 8) (B + sg) _ (B + sg) < 0; rw [upd_ss, ea]; exact nI_pos (by omega)) (by show ¬ upd (F 9) (B + sg) _ (B + sg) < 0; rw [upd_ss, eb]; exact nI_pos (by omega)) hs5 (fun L' hL' => ?_)
          refine yes _ rfl _ L' ((sm7.up (by omega)).up (by omega)) (lows _ _ _) ?_ hL'
          unfold PX
          refine Or.inl ⟨txf pl, a1, w1, a2, w2, rfl, c2, upd_ss _ _ _, (upd_ss _ _ _).trans ea, (upd_ss _ _ _).trans eb, l1, l2, l3, l4, ?_⟩
          rw [ea, eb, nI_clamp (by omega), nI_clamp (by omega)]
end MC2

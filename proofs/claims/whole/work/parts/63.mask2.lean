section MA2
variable {E : EV} {h : HP} {n mo N K M cc : Nat} {v : Nat → Int32} {f : Nat → Nat → Int32} {φ : Nat → PhiT}
def ofP (N K M cc : Nat) (φ : Nat → PhiT) (t kd w : Nat) : Nat → Bool := fun st => okS N K M cc φ st && (vS N K M st t kd == w)
set_option maxRecDepth 10000 in
theorem KnD.th (q : KnD v f N K M cc φ) : KnD (upd v 0 0) f N K M cc φ := q.imp id (fun z => ⟨z.1, z.2.cg rfl rfl rfl rfl⟩)
set_option maxRecDepth 10000 in
theorem MP.o {u : Nat → Int32} (P : MP v N K M cc) (uo : ∀ j, j ≠ 20 → j ≠ 23 → u j = upd v 0 0 j) : MP u N K M cc := ⟨(uo 3 (by decide) (by decide)).trans P.1, (uo 4 (by decide) (by decide)).trans P.2.1, (uo 5 (by decide) (by decide)).trans P.2.2.1, (uo 6 (by decide) (by decide)).trans P.2.2.2.1, P.2.2.2.2⟩
set_option maxRecDepth 10000 in
theorem c_Md_often {t kd w : Int32} (hb : E.2.2.2.1 ≤ mo) (P : MP v N K M cc) (C : MCl f N K M cc φ) (hk : KnD v f N K M cc φ) :
    Ct E m_Md_often 4 0 0 [.ref mo, .int t, .int kd, .int w] (hM E h mo v f) n (AskQ E h n mo v f N K M cc φ (fun r => r = some (.int (if ((0 ≤ t ∧ t < nI N) ∧ (0 ≤ kd ∧ kd < nI K)) ∧ (0 ≤ w ∧ w < nI N) then nI (cnF (ofP N K M cc φ t.toNatClampNeg kd.toNatClampNeg w.toNatClampNeg) (stN N K M)) else -1)))) := by
  have hsz := stN_le (N := N) P.2.2.2.2.2.1 P.2.2.2.2.2.2.1
  have P1 : MP (upd v 0 0) N K M cc := P.up (by decide)
  have h5 := P.2.2.2.2.1
  have h6 := P.2.2.2.2.2.1
  refine Ct.go rfl rfl rfl ?_
  have no : ¬ (((0 ≤ t ∧ t < nI N) ∧ (0 ≤ kd ∧ kd < nI K)) ∧ (0 ≤ w ∧ w < nI N)) → J E m_Md_often 4 0 0 26 [(0, .ref mo), (1, .int t), (2, .int kd), (3, .int w)] [] (hM E h mo (upd v 0 0) f) n (AskQ E h n mo v f N K M cc φ (fun r => r = some (.int (if ((0 ≤ t ∧ t < nI N) ∧ (0 ≤ kd ∧ kd < nI K)) ∧ (0 ≤ w ∧ w < nI N) then nI (cnF (ofP N K M cc φ t.toNatClampNeg kd.toNatClampNeg w.toNatClampNeg) (stN N K M)) else -1)))) := by
    intro q
    refine j_iconst (v := (-1)) d_Md_often_26 (by decide) ?_
    exact j_iret d_Md_often_27 rfl ⟨rfl, by rw [if_neg q], _, f, rfl, hk.th, fun z => z, rfl, fun j h1 _ _ => upd_nn _ _ h1, fun _ _ => rfl⟩
  refine j_aload_n d_Md_often_0 rfl ?_
  refine j_iconst (v := 0) d_Md_often_1 (by decide) ?_
  refine m_put d_Md_often_2 fl_Md_79 rfl rfl hb rfl rfl ?_
  refine j_aload_n d_Md_often_5 rfl ?_
  refine j_iload_n d_Md_often_6 rfl ?_
  refine j_iload_n d_Md_often_7 rfl ?_
  refine m_pV (As := [.int t, .int kd]) d_Md_often_8 cb_Md_179 vv_Md_isOf rfl rfl rfl (Nat.le_of_ble_eq_true rfl) (d' := 0) (by decide) c_Md_isOf ?_
  rw [show upd v 0 0 3 = nI N from P.1, show upd v 0 0 4 = nI K from P.2.1]
  refine j_if_eq (tgt := 26) d_Md_often_11 (by decide) (fun q => no (fun z => bI_eq q z.1)) (fun q => ?_)
  refine j_iload_n d_Md_often_14 rfl ?_
  refine j_if_lt (tgt := 26) d_Md_often_15 (by decide) (fun q2 => no (fun z => absurd z.2.1 (Int32.not_le.mpr q2))) (fun q2 => ?_)
  refine j_iload_n d_Md_often_18 rfl ?_
  refine j_aload_n d_Md_often_19 rfl ?_
  refine m_get d_Md_often_20 fl_Md_13 rfl ?_
  rw [show upd v 0 0 3 = nI N from P.1]
  refine j_icmp_lt (tgt := 28) d_Md_often_23 (by decide) (fun q3 => ?_) (fun q3 => no (fun z => q3 z.2.2))
  have c1 := bI_ne q
  have c2 : 0 ≤ w ∧ w < nI N := ⟨Int32.not_lt.mp q2, q3⟩
  obtain ⟨jt, hjt, rfl⟩ := in_nI (by omega) c1.1
  obtain ⟨jd, hjd, rfl⟩ := in_nI (by omega) c1.2
  obtain ⟨jw, hjw, rfl⟩ := in_nI (by omega) c2
  rw [if_pos ⟨c1, c2⟩, nI_clamp (by omega), nI_clamp (by omega), nI_clamp (by omega)]
  clear no q q2 q3 c1 c2
  refine j_aload_n d_Md_often_28 rfl ?_
  refine m_callV (As := []) d_Md_often_29 cb_Md_169 vv_Md_know rfl rfl rfl (Nat.le_of_ble_eq_true rfl) (d' := 3) (by decide) (c_Md_know (φ := φ) hb P1 C hk.th) (fun w h' n' q _ => ?_)
  obtain ⟨rfl, rfl, u, F, rfl, kn, u23, uo, hF⟩ := q
  have P2 : MP u N K M cc := P.o uo
  refine j_iconst (v := 0) d_Md_often_32 (by decide) ?_
  refine j_istore d_Md_often_33 (by decide) ?_
  refine j_iconst (v := 0) d_Md_often_35 (by decide) ?_
  refine j_istore d_Md_often_36 (by decide) ?_
  have loop : ∀ (k i : Nat), i + k = stN N K M → J E m_Md_often 4 0 0 38 [(0, .ref mo), (1, .int (nI jt)), (2, .int (nI jd)), (3, .int (nI jw)), (4, .int (nI (cnF (ofP N K M cc φ jt jd jw) i))), (5, .int (nI i))] [] (hM E h mo u F) n' (AskQ E h n' mo v f N K M cc φ (fun r => r = some (.int (nI (cnF (ofP N K M cc φ jt jd jw) (stN N K M)))))) := by
    intro k
    induction k with
    | zero =>
      intro i hi
      have hi : i = stN N K M := by omega
      refine j_iload d_Md_often_38 rfl ?_
      refine j_aload_n d_Md_often_40 rfl ?_
      refine m_pV (As := []) d_Md_often_41 cb_Md_163 vv_Md_states rfl rfl rfl (Nat.le_of_ble_eq_true rfl) (d' := 0) (by decide) (c_Md_states P2 kn.1) ?_
      refine j_icmp_ge (tgt := 84) d_Md_often_44 (by decide) (fun _ => ?_) (fun q => absurd (nI_le (by omega) (by omega)) q)
      refine j_iload d_Md_often_84 rfl ?_
      exact j_iret d_Md_often_86 rfl ⟨rfl, by rw [hi], u, F, rfl, Or.inr ⟨u23, kn⟩, fun _ => u23, uo 0 (by decide) (by decide), fun j h1 h2 h3 => by rw [uo j h2 h3, upd_nn _ _ h1], hF⟩
    | succ k ih =>
      intro i hi
      refine j_iload d_Md_often_38 rfl ?_
      refine j_aload_n d_Md_often_40 rfl ?_
      refine m_pV (As := []) d_Md_often_41 cb_Md_163 vv_Md_states rfl rfl rfl (Nat.le_of_ble_eq_true rfl) (d' := 0) (by decide) (c_Md_states P2 kn.1) ?_
      refine j_icmp_ge (tgt := 84) d_Md_often_44 (by decide) (fun q => absurd q (nI_ge (by omega) (by omega))) (fun _ => ?_)
      refine j_iload d_Md_often_47 rfl ?_
      refine j_aload_n d_Md_often_49 rfl ?_
      refine j_iload d_Md_often_50 rfl ?_
      refine m_pV (As := [.int (nI i)]) d_Md_often_52 cb_Md_172 vv_Md_isAnswer rfl rfl rfl (Nat.le_of_ble_eq_true rfl) (d' := 0) (by decide) (c_Md_isA P2 kn (by omega)) ?_
      have fin : ∀ x : Nat, x = (if ofP N K M cc φ jt jd jw i = true then 1 else 0) → J E m_Md_often 4 0 0 75 [(0, .ref mo), (1, .int (nI jt)), (2, .int (nI jd)), (3, .int (nI jw)), (4, .int (nI (cnF (ofP N K M cc φ jt jd jw) i))), (5, .int (nI i))] [.int (nI x), .int (nI (cnF (ofP N K M cc φ jt jd jw) i))] (hM E h mo u F) n' (AskQ E h n' mo v f N K M cc φ (fun r => r = some (.int (nI (cnF (ofP N K M cc φ jt jd jw) (stN N K M)))))) := by
        intro x hx
        refine j_iadd d_Md_often_75 ?_
        rw [nI_add, hx, show cnF (ofP N K M cc φ jt jd jw) i + (if ofP N K M cc φ jt jd jw i = true then 1 else 0) = cnF (ofP N K M cc φ jt jd jw) (i + 1) from rfl]
        refine j_istore d_Md_often_76 (by decide) ?_
        refine j_iinc (v := nI (i + 1)) d_Md_often_78 rfl (nI_succ i).symm (by decide) ?_
        refine j_goto (tgt := 38) d_Md_often_81 (by decide) ?_
        exact ih (i + 1) (by omega)
      refine j_if_eq (tgt := 74) d_Md_often_55 (by decide) (fun q => ?_) (fun q => ?_)
      · refine j_iconst (v := 0) d_Md_often_74 (by decide) ?_
        refine fin 0 (if_neg (fun z => ?_)).symm
        unfold ofP at z
        rw [Bool.and_eq_true] at z
        exact bI_eq q z.1
      · refine j_aload_n d_Md_often_58 rfl ?_
        refine j_iload d_Md_often_59 rfl ?_
        refine j_iload_n d_Md_often_61 rfl ?_
        refine j_iload_n d_Md_often_62 rfl ?_
        refine m_pV (As := [.int (nI i), .int (nI jt), .int (nI jd)]) d_Md_often_63 cb_Md_182 vv_Md_valueOf rfl rfl rfl (Nat.le_of_ble_eq_true rfl) (d' := 1) (by decide) (c_Md_vO P2 kn.1 kn.2.1 hjd hjt (by omega)) ?_
        have hv := vS_lt (M := M) (st := i) h5 hjd hjt
        refine j_iload_n d_Md_often_66 rfl ?_
        refine j_icmp_ne (tgt := 74) d_Md_often_67 (by decide) (fun q2 => ?_) (fun q2 => ?_)
        · refine j_iconst (v := 0) d_Md_often_74 (by decide) ?_
          refine fin 0 (if_neg (fun z => ?_)).symm
          unfold ofP at z
          rw [Bool.and_eq_true] at z
          exact q2 (by rw [beq_iff_eq.mp z.2])
        · refine j_iconst (v := 1) d_Md_often_70 (by decide) ?_
          refine j_goto (tgt := 75) d_Md_often_71 (by decide) ?_
          refine fin 1 (if_pos ?_).symm
          unfold ofP
          rw [Bool.and_eq_true]
          exact ⟨bI_ne q, beq_iff_eq.mpr ((nI_eq (by omega) (by omega)).mp q2)⟩
  exact loop (stN N K M) 0 (by omega)
set_option maxRecDepth 10000 in
theorem c_Md_spare {c : Int32} (hb : E.2.2.2.1 ≤ mo) (P : MP v N K M cc) (C : MCl f N K M cc φ) (hk : KnD v f N K M cc φ) :
    Ct E m_Md_spare 4 0 0 [.ref mo, .int c] (hM E h mo v f) n (AskQ E h n mo v f N K M cc φ (fun r => r = some (.int (bI ((0 ≤ c ∧ c < nI cc) ∧ cnF (olS N K M cc φ c.toNatClampNeg) (stN N K M) = 0))))) := by
  have hsz := stN_le (N := N) P.2.2.2.2.2.1 P.2.2.2.2.2.2.1
  have P1 : MP (upd v 0 0) N K M cc := P.up (by decide)
  have h8 := P.2.2.2.2.2.2.2
  refine Ct.go rfl rfl rfl ?_
  have no : ¬ (0 ≤ c ∧ c < nI cc) → J E m_Md_spare 4 0 0 17 [(0, .ref mo), (1, .int c)] [] (hM E h mo (upd v 0 0) f) n (AskQ E h n mo v f N K M cc φ (fun r => r = some (.int (bI ((0 ≤ c ∧ c < nI cc) ∧ cnF (olS N K M cc φ c.toNatClampNeg) (stN N K M) = 0))))) := by
    intro q
    refine j_iconst (v := 0) d_Md_spare_17 (by decide) ?_
    exact j_zret d_Md_spare_18 rfl (Or.inl rfl) ⟨rfl, by rw [bI_f (fun z => q z.1)], _, f, rfl, hk.th, fun z => z, rfl, fun j h1 _ _ => upd_nn _ _ h1, fun _ _ => rfl⟩
  refine j_aload_n d_Md_spare_0 rfl ?_
  refine j_iconst (v := 0) d_Md_spare_1 (by decide) ?_
  refine m_put d_Md_spare_2 fl_Md_79 rfl rfl hb rfl rfl ?_
  refine j_iload_n d_Md_spare_5 rfl ?_
  refine j_if_lt (tgt := 17) d_Md_spare_6 (by decide) (fun q => no (fun z => absurd z.1 (Int32.not_le.mpr q))) (fun q => ?_)
  refine j_iload_n d_Md_spare_9 rfl ?_
  refine j_aload_n d_Md_spare_10 rfl ?_
  refine m_get d_Md_spare_11 fl_Md_144 rfl ?_
  rw [show upd v 0 0 6 = nI cc from P.2.2.2.1]
  refine j_icmp_lt (tgt := 19) d_Md_spare_14 (by decide) (fun q2 => ?_) (fun q2 => no (fun z => q2 z.2))
  have c1 : 0 ≤ c ∧ c < nI cc := ⟨Int32.not_lt.mp q, q2⟩
  obtain ⟨jc, hjc, rfl⟩ := in_nI (by omega) c1
  rw [nI_clamp (by omega)]
  refine j_aload_n d_Md_spare_19 rfl ?_
  refine m_callV (As := []) d_Md_spare_20 cb_Md_169 vv_Md_know rfl rfl rfl (Nat.le_of_ble_eq_true rfl) (d' := 3) (by decide) (c_Md_know (φ := φ) hb P1 C hk.th) (fun w h' n' q _ => ?_)
  obtain ⟨rfl, rfl, u, F, rfl, kn, u23, uo, hF⟩ := q
  have P2 : MP u N K M cc := P.o uo
  refine j_iconst (v := 1) d_Md_spare_23 (by decide) ?_
  refine j_aload_n d_Md_spare_24 rfl ?_
  refine m_get d_Md_spare_25 fl_Md_144 rfl ?_
  refine j_ishl d_Md_spare_28 ?_
  refine j_iconst (v := 1) d_Md_spare_29 (by decide) ?_
  refine j_isub d_Md_spare_30 ?_
  refine j_iconst (v := 1) d_Md_spare_31 (by decide) ?_
  refine j_iload_n d_Md_spare_32 rfl ?_
  refine j_ishl d_Md_spare_33 ?_
  refine j_iconst (v := (-1)) d_Md_spare_34 (by decide) ?_
  refine j_ixor d_Md_spare_35 ?_
  refine j_iand d_Md_spare_36 ?_
  refine j_istore_n d_Md_spare_37 (by decide) ?_
  rw [P2.2.2.2.1]
  refine j_iconst (v := 0) d_Md_spare_38 (by decide) ?_
  refine j_istore_n d_Md_spare_39 (by decide) ?_
  have qq : ∀ x : Int32, x = bI ((0 ≤ nI jc ∧ nI jc < nI cc) ∧ cnF (olS N K M cc φ jc) (stN N K M) = 0) → AskQ E h n' mo v f N K M cc φ (fun r => r = some (.int (bI ((0 ≤ nI jc ∧ nI jc < nI cc) ∧ cnF (olS N K M cc φ jc) (stN N K M) = 0)))) (some (.int x)) (hM E h mo u F) n' := by
    intro x hx
    subst hx
    exact ⟨rfl, rfl, u, F, rfl, Or.inr ⟨u23, kn⟩, fun _ => u23, uo 0 (by decide) (by decide), fun j h1 h2 h3 => by rw [uo j h2 h3, upd_nn _ _ h1], hF⟩
  have loop : ∀ (k i : Nat), i + k = stN N K M → cnF (olS N K M cc φ jc) i = 0 → J E m_Md_spare 4 0 0 40 [(0, .ref mo), (1, .int (nI jc)), (2, .int (((1 : Int32) <<< (nI cc &&& 31) - 1) &&& (((1 : Int32) <<< (nI jc &&& 31)) ^^^ (-1)))), (3, .int (nI i))] [] (hM E h mo u F) n' (AskQ E h n' mo v f N K M cc φ (fun r => r = some (.int (bI ((0 ≤ nI jc ∧ nI jc < nI cc) ∧ cnF (olS N K M cc φ jc) (stN N K M) = 0))))) := by
    intro k
    induction k with
    | zero =>
      intro i hi hz
      have hi : i = stN N K M := by omega
      refine j_iload_n d_Md_spare_40 rfl ?_
      refine j_aload_n d_Md_spare_41 rfl ?_
      refine m_pV (As := []) d_Md_spare_42 cb_Md_163 vv_Md_states rfl rfl rfl (Nat.le_of_ble_eq_true rfl) (d' := 0) (by decide) (c_Md_states P2 kn.1) ?_
      refine j_icmp_ge (tgt := 66) d_Md_spare_45 (by decide) (fun _ => ?_) (fun q => absurd (nI_le (by omega) (by omega)) q)
      refine j_iconst (v := 1) d_Md_spare_66 (by decide) ?_
      exact j_zret d_Md_spare_67 rfl (Or.inr rfl) (qq 1 (bI_t ⟨c1, by rw [← hi]; exact hz⟩).symm)
    | succ k ih =>
      intro i hi hz
      refine j_iload_n d_Md_spare_40 rfl ?_
      refine j_aload_n d_Md_spare_41 rfl ?_
      refine m_pV (As := []) d_Md_spare_42 cb_Md_163 vv_Md_states rfl rfl rfl (Nat.le_of_ble_eq_true rfl) (d' := 0) (by decide) (c_Md_states P2 kn.1) ?_
      refine j_icmp_ge (tgt := 66) d_Md_spare_45 (by decide) (fun q => absurd q (nI_ge (by omega) (by omega))) (fun _ => ?_)
      refine j_aload_n d_Md_spare_48 rfl ?_
      refine m_get d_Md_spare_49 fl_Md_48 rfl ?_
      refine j_iload_n d_Md_spare_52 rfl ?_
      refine m_ald (k := 12) (N := 110592) d_Md_spare_53 (by decide) rfl (by omega) (by decide) ?_
      refine j_iload_n d_Md_spare_54 rfl ?_
      refine j_icmp_ne (tgt := 60) d_Md_spare_55 (by decide) (fun q => ?_) (fun q => ?_)
      · refine j_iinc (v := nI (i + 1)) d_Md_spare_60 rfl (nI_succ i).symm (by decide) ?_
        refine j_goto (tgt := 40) d_Md_spare_63 (by decide) ?_
        refine ih (i + 1) (by omega) ?_
        rw [cnF, hz, if_neg (fun z => q ((kn.onl h8 (by omega) hjc).mpr z))]
      · have z := (kn.onl h8 (by omega) hjc).mp q
        refine j_iconst (v := 0) d_Md_spare_58 (by decide) ?_
        refine j_zret d_Md_spare_59 rfl (Or.inl rfl) (qq 0 (bI_f (fun y => ?_)).symm)
        have h1 : cnF (olS N K M cc φ jc) (i + 1) = 1 := by rw [cnF, hz, if_pos z]
        have h2 := cnF_mono (olS N K M cc φ jc) (show i + 1 ≤ stN N K M by omega)
        have := y.2
        omega
  exact loop (stN N K M) 0 (by omega) rfl
end MA2

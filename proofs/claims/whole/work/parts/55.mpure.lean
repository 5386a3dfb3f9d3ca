section MPU
variable {E : EV} {h : HP} {n mo N K M cc : Nat} {v : Nat → Int32} {f : Nat → Nat → Int32}
/-- the puzzle's numbers in the reference -/
def MP (v : Nat → Int32) (N K M cc : Nat) : Prop := v 3 = nI N ∧ v 4 = nI K ∧ v 5 = nI M ∧ v 6 = nI cc ∧ (1 ≤ N ∧ N ≤ 4) ∧ K ≤ 3 ∧ M ≤ 3 ∧ cc ≤ 20
def isP (k : Nat) : Bool := k == 3 || k == 4 || k == 5 || k == 6
theorem MP.up {k : Nat} {x : Int32} (hk : isP k = false) (P : MP v N K M cc) : MP (upd v k x) N K M cc := by
  have q : k ≠ 3 ∧ k ≠ 4 ∧ k ≠ 5 ∧ k ≠ 6 := by simp [isP] at hk; omega
  exact ⟨by rw [upd_nn _ _ (by omega)]; exact P.1, by rw [upd_nn _ _ (by omega)]; exact P.2.1, by rw [upd_nn _ _ (by omega)]; exact P.2.2.1, by rw [upd_nn _ _ (by omega)]; exact P.2.2.2.1, P.2.2.2.2⟩
abbrev ofS (N K M st kd : Nat) : Nat := dg (fun _ => cT N) K (st / 2 ^ M) kd
theorem ofS_lt {N K M st kd : Nat} (hk : kd < K) : ofS N K M st kd < cT N := dg_lt hk (fun _ _ => (cT_le N).1)
abbrev stN (N K M : Nat) : Nat := 2 ^ M * cT N ^ K
theorem stN_le (hK : K ≤ 3) (hM : M ≤ 3) : stN N K M ≤ 110592 := by
  have h1 : 2 ^ M ≤ 2 ^ 3 := Nat.pow_le_pow_right (by decide) hM
  have h2 : cT N ^ K ≤ 24 ^ 3 := Nat.le_trans (Nat.pow_le_pow_left (cT_le N).2 K) (Nat.pow_le_pow_right (by decide) hK)
  exact Nat.mul_le_mul h1 h2
theorem c_Md_states (P : MP v N K M cc) (hC : v 20 = nI (cT N)) : Ct E m_Md_states 0 0 0 [.ref mo] (hM E h mo v f) n (Rt (some (.int (nI (stN N K M)))) (hM E h mo v f) n) := by
  obtain ⟨p1, p2, p3, p4, p5, p6, p7, p8⟩ := P
  refine Ct.go rfl rfl rfl ?_
  have loop : ∀ (k i : Nat), i + k = K → J E m_Md_states 0 0 0 9 [(0, .ref mo), (1, .int (nI (2 ^ M * cT N ^ i))), (2, .int (nI i))] [] (hM E h mo v f) n (Rt (some (.int (nI (stN N K M)))) (hM E h mo v f) n) := by
    intro k
    induction k with
    | zero =>
      intro i hi
      have hi : i = K := by omega
      subst hi
      refine j_iload_n d_Md_states_9 rfl ?_
      refine j_aload_n d_Md_states_10 rfl ?_
      refine m_get d_Md_states_11 fl_Md_138 rfl ?_
      rw [p2]
      refine j_icmp_ge (tgt := 30) d_Md_states_14 (by decide) (fun c => ?_) (fun c => absurd (nI_le (Nat.le_refl _) (by omega)) c)
      refine j_iload_n d_Md_states_30 rfl ?_
      exact j_iret d_Md_states_31 rfl ⟨rfl, rfl, rfl⟩
    | succ k ih =>
      intro i hi
      refine j_iload_n d_Md_states_9 rfl ?_
      refine j_aload_n d_Md_states_10 rfl ?_
      refine m_get d_Md_states_11 fl_Md_138 rfl ?_
      rw [p2]
      refine j_icmp_ge (tgt := 30) d_Md_states_14 (by decide) (fun c => absurd c (nI_ge (by omega) (by omega))) (fun c => ?_)
      refine j_iload_n d_Md_states_17 rfl ?_
      refine j_aload_n d_Md_states_18 rfl ?_
      refine m_get d_Md_states_19 fl_Md_147 rfl ?_
      refine j_imul d_Md_states_22 ?_
      rw [hC, pk_mul, Nat.mul_assoc, ← Nat.pow_succ]
      refine j_istore_n d_Md_states_23 (by decide) ?_
      refine j_iinc (v := nI (i + 1)) d_Md_states_24 rfl (nI_succ i).symm (by decide) ?_
      refine j_goto (tgt := 9) d_Md_states_27 (by decide) ?_
      exact ih (i + 1) (by omega)
  refine j_iconst (v := 1) d_Md_states_0 (by decide) ?_
  refine j_aload_n d_Md_states_1 rfl ?_
  refine m_get d_Md_states_2 fl_Md_141 rfl ?_
  rw [p3]
  refine j_ishl d_Md_states_5 ?_
  rw [one_shl (by omega)]
  refine j_istore_n d_Md_states_6 (by decide) ?_
  refine j_iconst (v := 0) d_Md_states_7 (by decide) ?_
  refine j_istore_n d_Md_states_8 (by decide) ?_
  have := loop K 0 (by omega)
  rw [Nat.pow_zero, Nat.mul_one] at this
  exact this
theorem c_Md_orderOf {st kd : Nat} (P : MP v N K M cc) (hC : v 20 = nI (cT N)) (hk : kd < K) (hs : st < 2 ^ 31) : Ct E m_Md_orderOf 0 0 0 [.ref mo, .int (nI st), .int (nI kd)] (hM E h mo v f) n (Rt (some (.int (nI (ofS N K M st kd)))) (hM E h mo v f) n) := by
  obtain ⟨p1, p2, p3, p4, p5, p6, p7, p8⟩ := P
  refine Ct.go rfl rfl rfl ?_
  have hc := cT_le N
  have hne : ¬ nI (cT N) = 0 := nI_ne0 (by omega) (by omega)
  have loop : ∀ (j x K' : Nat), K' = kd + 1 + j → K' ≤ 3 → x < 2 ^ 31 → dg (fun _ => cT N) K' x kd = ofS N K M st kd → J E m_Md_orderOf 0 0 0 15 [(0, .ref mo), (1, .int (nI st)), (2, .int (nI kd)), (3, .int (nI x)), (4, .int (nI (kd + j)))] [] (hM E h mo v f) n (Rt (some (.int (nI (ofS N K M st kd)))) (hM E h mo v f) n) := by
    intro j
    induction j with
    | zero =>
      intro x K' hK' h3 hx e
      subst hK'
      rw [Nat.add_zero] at e ⊢
      refine j_iload d_Md_orderOf_15 rfl ?_
      refine j_iload_n d_Md_orderOf_17 rfl ?_
      refine j_icmp_le (tgt := 34) d_Md_orderOf_18 (by decide) (fun c => ?_) (fun c => absurd (nI_le (Nat.le_refl _) (by omega)) c)
      refine j_iload_n d_Md_orderOf_34 rfl ?_
      refine j_aload_n d_Md_orderOf_35 rfl ?_
      refine m_get d_Md_orderOf_36 fl_Md_147 rfl ?_
      rw [hC]
      refine j_irem d_Md_orderOf_39 hne ?_
      rw [nI_rem hx (by omega), ← e]
      have e2 : dg (fun _ => cT N) (kd + 1) x kd = x % cT N := by rw [dg, if_pos rfl]
      rw [e2]
      exact j_iret d_Md_orderOf_40 rfl ⟨rfl, rfl, rfl⟩
    | succ j ih =>
      intro x K' hK' h3 hx e
      subst hK'
      refine j_iload d_Md_orderOf_15 rfl ?_
      refine j_iload_n d_Md_orderOf_17 rfl ?_
      refine j_icmp_le (tgt := 34) d_Md_orderOf_18 (by decide) (fun c => absurd c (nI_ge (by omega) (by omega))) (fun c => ?_)
      refine j_iload_n d_Md_orderOf_21 rfl ?_
      refine j_aload_n d_Md_orderOf_22 rfl ?_
      refine m_get d_Md_orderOf_23 fl_Md_147 rfl ?_
      rw [hC]
      refine j_idiv d_Md_orderOf_26 hne ?_
      rw [nI_div hx (by omega)]
      refine j_istore_n d_Md_orderOf_27 (by decide) ?_
      refine j_iinc (v := nI (kd + j)) d_Md_orderOf_28 rfl ((dec1 _).trans (nI_pred (kd + j))) (by decide) ?_
      refine j_goto (tgt := 15) d_Md_orderOf_31 (by decide) ?_
      refine ih (x / cT N) (kd + 1 + j) rfl (by omega) (Nat.lt_of_le_of_lt (Nat.div_le_self _ _) hx) ?_
      rw [← e, show kd + 1 + (j + 1) = (kd + 1 + j) + 1 from rfl, dg, if_neg (by omega)]
  refine j_iload_n d_Md_orderOf_0 rfl ?_
  refine j_aload_n d_Md_orderOf_1 rfl ?_
  refine m_get d_Md_orderOf_2 fl_Md_141 rfl ?_
  rw [p3]
  refine j_ishr d_Md_orderOf_5 ?_
  rw [nI_shr hs (by omega)]
  refine j_istore_n d_Md_orderOf_6 (by decide) ?_
  refine j_aload_n d_Md_orderOf_7 rfl ?_
  refine m_get d_Md_orderOf_8 fl_Md_138 rfl ?_
  refine j_iconst (v := 1) d_Md_orderOf_11 (by decide) ?_
  rw [p2]
  refine j_isub d_Md_orderOf_12 ?_
  rw [show nI K - 1 = nI (K - 1) from nI_sub (b := 1) (by omega)]
  refine j_istore d_Md_orderOf_13 (by decide) ?_
  have := loop (K - 1 - kd) (st / 2 ^ M) K (by omega) p6 (Nat.lt_of_le_of_lt (Nat.div_le_self _ _) hs) rfl
  rw [show kd + (K - 1 - kd) = K - 1 by omega] at this
  exact this
/-- person p tells the truth in state st -/
abbrev trS (M st p : Nat) : Prop := st.testBit (M - 1 - p) = true
theorem c_Md_isTruthful {st p : Nat} (P : MP v N K M cc) (hp : p < M) : Ct E m_Md_isTruthful 0 0 0 [.ref mo, .int (nI st), .int (nI p)] (hM E h mo v f) n (Rt (some (.int (bI (trS M st p)))) (hM E h mo v f) n) := by
  obtain ⟨p1, p2, p3, p4, p5, p6, p7, p8⟩ := P
  refine Ct.go rfl rfl rfl ?_
  refine j_iload_n d_Md_isTruthful_0 rfl ?_
  refine j_aload_n d_Md_isTruthful_1 rfl ?_
  refine m_get d_Md_isTruthful_2 fl_Md_141 rfl ?_
  refine j_iconst (v := 1) d_Md_isTruthful_5 (by decide) ?_
  refine j_isub d_Md_isTruthful_6 ?_
  refine j_iload_n d_Md_isTruthful_7 rfl ?_
  refine j_isub d_Md_isTruthful_8 ?_
  rw [p3, show nI M - 1 = nI (M - 1) from nI_sub (b := 1) (by omega), nI_sub (by omega)]
  refine j_ishr d_Md_isTruthful_9 ?_
  refine j_iconst (v := 1) d_Md_isTruthful_10 (by decide) ?_
  refine j_iand d_Md_isTruthful_11 ?_
  rw [tb_low (by omega), tb_nI (by omega)]
  refine j_iconst (v := 1) d_Md_isTruthful_12 (by decide) ?_
  refine j_icmp_ne (tgt := 20) d_Md_isTruthful_13 (by decide) (fun c => ?_) (fun c => ?_)
  · have e : bI (trS M st p) = 0 := (bI_01 _).resolve_right c
    rw [e]
    refine j_iconst (v := 0) d_Md_isTruthful_20 (by decide) ?_
    exact j_zret d_Md_isTruthful_21 rfl (Or.inl rfl) ⟨rfl, rfl, rfl⟩
  · rw [c]
    refine j_iconst (v := 1) d_Md_isTruthful_16 (by decide) ?_
    refine j_goto (tgt := 21) d_Md_isTruthful_17 (by decide) ?_
    exact j_zret d_Md_isTruthful_21 rfl (Or.inr rfl) ⟨rfl, rfl, rfl⟩
theorem c_Md_valueOf {st t kd : Nat} (P : MP v N K M cc) (hC : v 20 = nI (cT N)) (hk : kd < K) (ht : t < 4) (hs : st < 2 ^ 31) : Ct E m_Md_valueOf 1 0 0 [.ref mo, .int (nI st), .int (nI t), .int (nI kd)] (hM E h mo v f) n (Rt (some (.int (f 10 (4 * ofS N K M st kd + t)))) (hM E h mo v f) n) := by
  have hc := cT_le N
  have ho := ofS_lt (N := N) (M := M) (st := st) hk
  refine Ct.go rfl rfl rfl ?_
  refine j_aload_n d_Md_valueOf_0 rfl ?_
  refine m_get d_Md_valueOf_1 fl_Md_41 rfl ?_
  refine j_iconst (v := 4) d_Md_valueOf_4 (by decide) ?_
  refine j_aload_n d_Md_valueOf_5 rfl ?_
  refine j_iload_n d_Md_valueOf_6 rfl ?_
  refine j_iload_n d_Md_valueOf_7 rfl ?_
  refine m_pV (As := [.int (nI st), .int (nI kd)]) d_Md_valueOf_8 cb_Md_150 vv_Md_orderOf rfl rfl rfl (Nat.le_of_ble_eq_true rfl) (by decide) (c_Md_orderOf P hC hk hs) ?_
  refine j_imul d_Md_valueOf_11 ?_
  refine j_iload_n d_Md_valueOf_12 rfl ?_
  refine j_iadd d_Md_valueOf_13 ?_
  refine m_ald4 (k := 10) (N := 96) d_Md_valueOf_14 (by decide) rfl (by omega) (by decide) ?_
  exact j_iret d_Md_valueOf_15 rfl ⟨rfl, rfl, rfl⟩
theorem c_Md_seat {st w kd : Nat} (P : MP v N K M cc) (hC : v 20 = nI (cT N)) (hk : kd < K) (hw : w < 4) (hs : st < 2 ^ 31) : Ct E m_Md_seat 1 0 0 [.ref mo, .int (nI st), .int (nI (4 * kd + w))] (hM E h mo v f) n (Rt (some (.int (f 11 (4 * ofS N K M st kd + w)))) (hM E h mo v f) n) := by
  have hc := cT_le N
  have h3 := P.2.2.2.2.2.1
  have ho := ofS_lt (N := N) (M := M) (st := st) hk
  refine Ct.go rfl rfl rfl ?_
  refine j_aload_n d_Md_seat_0 rfl ?_
  refine m_get d_Md_seat_1 fl_Md_44 rfl ?_
  refine j_iconst (v := 4) d_Md_seat_4 (by decide) ?_
  refine j_aload_n d_Md_seat_5 rfl ?_
  refine j_iload_n d_Md_seat_6 rfl ?_
  refine j_iload_n d_Md_seat_7 rfl ?_
  refine j_iconst (v := 4) d_Md_seat_8 (by decide) ?_
  refine j_idiv d_Md_seat_9 (by decide) ?_
  rw [n4, nI_div (by omega) (by decide), show (4 * kd + w) / 4 = kd by omega]
  refine m_pV (As := [.int (nI st), .int (nI kd)]) d_Md_seat_10 cb_Md_150 vv_Md_orderOf rfl rfl rfl (Nat.le_of_ble_eq_true rfl) (by decide) (c_Md_orderOf P hC hk hs) ?_
  refine j_imul d_Md_seat_13 ?_
  refine j_iload_n d_Md_seat_14 rfl ?_
  refine j_iconst (v := 4) d_Md_seat_15 (by decide) ?_
  refine j_irem d_Md_seat_16 (by decide) ?_
  rw [n4, nI_rem (by omega) (by decide), show (4 * kd + w) % 4 = w by omega, ← n4]
  refine j_iadd d_Md_seat_17 ?_
  refine m_ald4 (k := 11) (N := 96) d_Md_seat_18 (by decide) rfl (by omega) (by decide) ?_
  exact j_iret d_Md_seat_19 rfl ⟨rfl, rfl, rfl⟩
theorem c_Md_isAnswer {st : Nat} (P : MP v N K M cc) (hs : st < 110592) : Ct E m_Md_isAnswer 0 0 0 [.ref mo, .int (nI st)] (hM E h mo v f) n (Rt (some (.int (bI (f 12 st = 1 <<< (nI cc &&& 31) - 1)))) (hM E h mo v f) n) := by
  obtain ⟨p1, p2, p3, p4, p5, p6, p7, p8⟩ := P
  refine Ct.go rfl rfl rfl ?_
  refine j_aload_n d_Md_isAnswer_0 rfl ?_
  refine m_get d_Md_isAnswer_1 fl_Md_48 rfl ?_
  refine j_iload_n d_Md_isAnswer_4 rfl ?_
  refine m_ald (k := 12) (N := 110592) d_Md_isAnswer_5 (by decide) rfl (by omega) (by decide) ?_
  refine j_iconst (v := 1) d_Md_isAnswer_6 (by decide) ?_
  refine j_aload_n d_Md_isAnswer_7 rfl ?_
  refine m_get d_Md_isAnswer_8 fl_Md_144 rfl ?_
  refine j_ishl d_Md_isAnswer_11 ?_
  refine j_iconst (v := 1) d_Md_isAnswer_12 (by decide) ?_
  refine j_isub d_Md_isAnswer_13 ?_
  rw [p4]
  refine j_icmp_ne (tgt := 21) d_Md_isAnswer_14 (by decide) (fun c => ?_) (fun c => ?_)
  · rw [bI_f c]
    refine j_iconst (v := 0) d_Md_isAnswer_21 (by decide) ?_
    exact j_zret d_Md_isAnswer_22 rfl (Or.inl rfl) ⟨rfl, rfl, rfl⟩
  · rw [bI_t c]
    refine j_iconst (v := 1) d_Md_isAnswer_17 (by decide) ?_
    refine j_goto (tgt := 22) d_Md_isAnswer_18 (by decide) ?_
    exact j_zret d_Md_isAnswer_22 rfl (Or.inr rfl) ⟨rfl, rfl, rfl⟩
def cof (x : Int32) : Int32 := bI (tb x 0 = true) + bI (tb x 1 = true) + bI (tb x 2 = true) + bI (tb x 3 = true)
theorem c_Md_countOf {x : Int32} : Ct E m_Md_countOf 0 0 0 [.int x] h n (Rt (some (.int (cof x))) h n) := by
  refine Ct.go rfl rfl rfl ?_
  have e : ∀ k : Nat, k < 4 → (x >>> (nI k &&& 31)) &&& 1 = bI (tb x k = true) := fun k hk => tb_low (by omega)
  have row : ∀ (k : Nat) (y : Int32), k < 4 → J E m_Md_countOf 0 0 0 4 [(0, .int x), (1, .int (y + bI (tb x k = true))), (2, .int (nI (k + 1)))] [] h n (Rt (some (.int (cof x))) h n) → J E m_Md_countOf 0 0 0 4 [(0, .int x), (1, .int y), (2, .int (nI k))] [] h n (Rt (some (.int (cof x))) h n) := by
    intro k y hk kk
    refine j_iload_n d_Md_countOf_4 rfl ?_
    refine j_iconst (v := 4) d_Md_countOf_5 (by decide) ?_
    refine j_icmp_ge (tgt := 23) d_Md_countOf_6 (by decide) (fun c => absurd c (nI_ge (a := k) (b := 4) hk (by decide))) (fun c => ?_)
    refine j_iload_n d_Md_countOf_9 rfl ?_
    refine j_iload_n d_Md_countOf_10 rfl ?_
    refine j_iload_n d_Md_countOf_11 rfl ?_
    refine j_ishr d_Md_countOf_12 ?_
    refine j_iconst (v := 1) d_Md_countOf_13 (by decide) ?_
    refine j_iand d_Md_countOf_14 ?_
    rw [e k hk]
    refine j_iadd d_Md_countOf_15 ?_
    refine j_istore_n d_Md_countOf_16 (by decide) ?_
    refine j_iinc (v := nI (k + 1)) d_Md_countOf_17 rfl (nI_succ k).symm (by decide) ?_
    exact j_goto (tgt := 4) d_Md_countOf_20 (by decide) kk
  refine j_iconst (v := 0) d_Md_countOf_0 (by decide) ?_
  refine j_istore_n d_Md_countOf_1 (by decide) ?_
  refine j_iconst (v := 0) d_Md_countOf_2 (by decide) ?_
  refine j_istore_n d_Md_countOf_3 (by decide) ?_
  refine row 0 0 (by decide) ?_
  refine row 1 _ (by decide) ?_
  refine row 2 _ (by decide) ?_
  refine row 3 _ (by decide) ?_
  refine j_iload_n d_Md_countOf_4 rfl ?_
  refine j_iconst (v := 4) d_Md_countOf_5 (by decide) ?_
  refine j_icmp_ge (tgt := 23) d_Md_countOf_6 (by decide) (fun c => ?_) (fun c => absurd (by decide) c)
  refine j_iload_n d_Md_countOf_23 rfl ?_
  refine j_iret d_Md_countOf_24 rfl ⟨?_, rfl, rfl⟩
  rw [Int32.zero_add]
  rfl
end MPU

section MS2
variable {E : EV} {h : HP} {n mo : Nat} {v : Nat → Int32} {f : Nat → Nat → Int32}
/-! signOf -/
def sgO (b : Int32) : Int32 := if b = 61 then 0 else if b = 33 then 1 else if b = 60 then 2 else if b = 43 then 3 else if b = 116 then 4 else if b = 112 then 5 else if b = 126 then 6 else if b = 38 then 7 else if b = 124 then 8 else -1
theorem c_Md_signOf {b : Int32} : Ct E m_Md_signOf 0 0 0 [.int b] h n (Rt (some (.int (sgO b))) h n) := by
  refine Ct.go rfl rfl rfl ?_
  refine j_iload_n d_Md_signOf_0 rfl ?_
  by_cases b0 : b = 61
  · subst b0
    refine j_lookup (tgt := 84) d_Md_signOf_1 (by decide) (off := 83) (by decide) (by decide) ?_
    refine j_iconst (v := 0) d_Md_signOf_84 (by decide) ?_
    exact j_iret d_Md_signOf_85 rfl ⟨rfl, rfl, rfl⟩
  by_cases b1 : b = 33
  · subst b1
    refine j_lookup (tgt := 86) d_Md_signOf_1 (by decide) (off := 85) (by decide) (by decide) ?_
    refine j_iconst (v := 1) d_Md_signOf_86 (by decide) ?_
    exact j_iret d_Md_signOf_87 rfl ⟨rfl, rfl, rfl⟩
  by_cases b2 : b = 60
  · subst b2
    refine j_lookup (tgt := 88) d_Md_signOf_1 (by decide) (off := 87) (by decide) (by decide) ?_
    refine j_iconst (v := 2) d_Md_signOf_88 (by decide) ?_
    exact j_iret d_Md_signOf_89 rfl ⟨rfl, rfl, rfl⟩
  by_cases b3 : b = 43
  · subst b3
    refine j_lookup (tgt := 90) d_Md_signOf_1 (by decide) (off := 89) (by decide) (by decide) ?_
    refine j_iconst (v := 3) d_Md_signOf_90 (by decide) ?_
    exact j_iret d_Md_signOf_91 rfl ⟨rfl, rfl, rfl⟩
  by_cases b4 : b = 116
  · subst b4
    refine j_lookup (tgt := 92) d_Md_signOf_1 (by decide) (off := 91) (by decide) (by decide) ?_
    refine j_iconst (v := 4) d_Md_signOf_92 (by decide) ?_
    exact j_iret d_Md_signOf_93 rfl ⟨rfl, rfl, rfl⟩
  by_cases b5 : b = 112
  · subst b5
    refine j_lookup (tgt := 94) d_Md_signOf_1 (by decide) (off := 93) (by decide) (by decide) ?_
    refine j_iconst (v := 5) d_Md_signOf_94 (by decide) ?_
    exact j_iret d_Md_signOf_95 rfl ⟨rfl, rfl, rfl⟩
  by_cases b6 : b = 126
  · subst b6
    refine j_lookup (tgt := 96) d_Md_signOf_1 (by decide) (off := 95) (by decide) (by decide) ?_
    refine j_bipush (v := 6) d_Md_signOf_96 (by decide) ?_
    exact j_iret d_Md_signOf_98 rfl ⟨rfl, rfl, rfl⟩
  by_cases b7 : b = 38
  · subst b7
    refine j_lookup (tgt := 99) d_Md_signOf_1 (by decide) (off := 98) (by decide) (by decide) ?_
    refine j_bipush (v := 7) d_Md_signOf_99 (by decide) ?_
    exact j_iret d_Md_signOf_101 rfl ⟨rfl, rfl, rfl⟩
  by_cases b8 : b = 124
  · subst b8
    refine j_lookup (tgt := 102) d_Md_signOf_1 (by decide) (off := 101) (by decide) (by decide) ?_
    refine j_bipush (v := 8) d_Md_signOf_102 (by decide) ?_
    exact j_iret d_Md_signOf_104 rfl ⟨rfl, rfl, rfl⟩
  · refine j_lookup (tgt := 105) d_Md_signOf_1 (by decide) (off := 104) ?_ (by decide) ?_
    · show Op.lookupswitch.offset [(33, 85), (38, 98), (43, 89), (60, 87), (61, 83), (112, 93), (116, 91), (124, 101), (126, 95)] 104 b.toInt = 104
      rw [lv_osw b1 (by decide), lv_osw b7 (by decide), lv_osw b3 (by decide), lv_osw b2 (by decide), lv_osw b0 (by decide), lv_osw b5 (by decide), lv_osw b4 (by decide), lv_osw b8 (by decide), lv_osw b6 (by decide)]
      rfl
    have e : sgO b = -1 := by unfold sgO; rw [if_neg b0, if_neg b1, if_neg b2, if_neg b3, if_neg b4, if_neg b5, if_neg b6, if_neg b7, if_neg b8]
    rw [e]
    refine j_iconst (v := (-1)) d_Md_signOf_105 (by decide) ?_
    exact j_iret d_Md_signOf_106 rfl ⟨rfl, rfl, rfl⟩
/-! all, fresh -/
theorem upG_id (g : Nat → Nat → Int32) (k : Nat) : upG g k (g k) = g := by
  funext j; unfold upG; split <;> simp_all
theorem upG_upG (g : Nat → Nat → Int32) (k : Nat) (x y : Nat → Int32) : upG (upG g k x) k y = upG g k y := by
  funext j; unfold upG; split <;> rfl
theorem c_Md_all (hb : E.2.2.2.1 ≤ mo) : Ct E m_Md_all 0 0 0 [.ref mo] (hM E h mo v f) n (Rt none (hM E h mo v (upG (upG f 15 (fillF (f 15) 12 (1 <<< (v 3 &&& 31) - 1))) 16 (fillF (f 16) 3 3))) n) := by
  refine Ct.go rfl rfl rfl ?_
  refine j_iconst (v := 0) d_Md_all_0 (by decide) ?_
  refine j_istore_n d_Md_all_1 (by decide) ?_
  have loop2 : ∀ (k i : Nat) (g : Nat → Nat → Int32), i + k = 3 → J E m_Md_all 0 0 0 30 [(0, .ref mo), (1, .int (nI i))] [] (hM E h mo v (upG g 16 (fillF (g 16) i 3))) n (Rt none (hM E h mo v (upG g 16 (fillF (g 16) 3 3))) n) := by
    intro k
    induction k with
    | zero =>
      intro i g hi
      have hi : i = 3 := by omega
      subst hi
      refine j_iload_n d_Md_all_30 rfl ?_
      refine j_iconst (v := 3) d_Md_all_31 (by decide) ?_
      refine j_icmp_ge (tgt := 48) d_Md_all_32 (by decide) (fun c => ?_) (fun c => absurd (by decide) c)
      exact j_vret d_Md_all_48 rfl ⟨rfl, rfl, rfl⟩
    | succ k ih =>
      intro i g hi
      refine j_iload_n d_Md_all_30 rfl ?_
      refine j_iconst (v := 3) d_Md_all_31 (by decide) ?_
      refine j_icmp_ge (tgt := 48) d_Md_all_32 (by decide) (fun c => absurd c (nI_ge (a := i) (b := 3) (by omega) (by omega))) (fun c => ?_)
      refine j_aload_n d_Md_all_35 rfl ?_
      refine m_get d_Md_all_36 fl_Md_61 rfl ?_
      refine j_iload_n d_Md_all_39 rfl ?_
      refine j_iconst (v := 3) d_Md_all_40 (by decide) ?_
      refine m_ast (k := 16) (N := 3) d_Md_all_41 (by decide) rfl hb (by omega) (by decide) ?_
      refine j_iinc (v := nI (i + 1)) d_Md_all_42 rfl (nI_succ i).symm (by decide) ?_
      refine j_goto (tgt := 30) d_Md_all_45 (by decide) ?_
      refine J.conv (L := _) rfl ?_ (ih (i + 1) g (by omega))
      congr 1
      funext q
      unfold upG
      split
      · rename_i hq; subst hq; funext j; simp [upd, fillF]; split <;> split <;> simp_all <;> omega
      · rfl
  have loop : ∀ (k i : Nat), i + k = 12 → J E m_Md_all 0 0 0 2 [(0, .ref mo), (1, .int (nI i))] [] (hM E h mo v (upG f 15 (fillF (f 15) i (1 <<< (v 3 &&& 31) - 1)))) n (Rt none (hM E h mo v (upG (upG f 15 (fillF (f 15) 12 (1 <<< (v 3 &&& 31) - 1))) 16 (fillF (f 16) 3 3))) n) := by
    intro k
    induction k with
    | zero =>
      intro i hi
      have hi : i = 12 := by omega
      subst hi
      refine j_iload_n d_Md_all_2 rfl ?_
      refine j_bipush (v := 12) d_Md_all_3 (by decide) ?_
      refine j_icmp_ge (tgt := 28) d_Md_all_5 (by decide) (fun c => ?_) (fun c => absurd (by decide) c)
      refine j_iconst (v := 0) d_Md_all_28 (by decide) ?_
      refine j_istore_n d_Md_all_29 (by decide) ?_
      have := loop2 3 0 (upG f 15 (fillF (f 15) 12 (1 <<< (v 3 &&& 31) - 1))) rfl
      rw [fillF_0, upG_id] at this
      exact this
    | succ k ih =>
      intro i hi
      refine j_iload_n d_Md_all_2 rfl ?_
      refine j_bipush (v := 12) d_Md_all_3 (by decide) ?_
      refine j_icmp_ge (tgt := 28) d_Md_all_5 (by decide) (fun c => absurd c (nI_ge (a := i) (b := 12) (by omega) (by omega))) (fun c => ?_)
      refine j_aload_n d_Md_all_8 rfl ?_
      refine m_get d_Md_all_9 fl_Md_58 rfl ?_
      refine j_iload_n d_Md_all_12 rfl ?_
      refine j_iconst (v := 1) d_Md_all_13 (by decide) ?_
      refine j_aload_n d_Md_all_14 rfl ?_
      refine m_get d_Md_all_15 fl_Md_13 rfl ?_
      refine j_ishl d_Md_all_18 ?_
      refine j_iconst (v := 1) d_Md_all_19 (by decide) ?_
      refine j_isub d_Md_all_20 ?_
      refine m_ast (k := 15) (N := 12) d_Md_all_21 (by decide) rfl hb (by omega) (by decide) ?_
      refine j_iinc (v := nI (i + 1)) d_Md_all_22 rfl (nI_succ i).symm (by decide) ?_
      refine j_goto (tgt := 2) d_Md_all_25 (by decide) ?_
      refine J.conv (L := _) rfl ?_ (ih (i + 1) (by omega))
      congr 1
      funext q
      unfold upG
      split
      · rename_i hq; subst hq; funext j; simp [upd, fillF]; split <;> split <;> simp_all <;> omega
      · rfl
  have := loop 12 0 rfl
  rw [fillF_0, upG_id] at this
  exact this
theorem c_Md_fresh (hb : E.2.2.2.1 ≤ mo) : Ct E m_Md_fresh 1 0 0 [.ref mo] (hM E h mo v f) n (Rt none (hM E h mo (upd (upd (upd (upd v 23 0) 24 0) 27 0) 33 0) (upG (upG f 15 (fillF (f 15) 12 (1 <<< (v 3 &&& 31) - 1))) 16 (fillF (f 16) 3 3))) n) := by
  refine Ct.go rfl rfl rfl ?_
  refine j_aload_n d_Md_fresh_0 rfl ?_
  refine j_iconst (v := 0) d_Md_fresh_1 (by decide) ?_
  refine m_put d_Md_fresh_2 fl_Md_82 rfl rfl hb rfl rfl ?_
  refine j_aload_n d_Md_fresh_5 rfl ?_
  refine j_iconst (v := 0) d_Md_fresh_6 (by decide) ?_
  refine m_put d_Md_fresh_7 fl_Md_86 rfl rfl hb rfl rfl ?_
  refine j_aload_n d_Md_fresh_10 rfl ?_
  refine j_iconst (v := 0) d_Md_fresh_11 (by decide) ?_
  refine m_put d_Md_fresh_12 fl_Md_89 rfl rfl hb rfl rfl ?_
  refine j_aload_n d_Md_fresh_15 rfl ?_
  refine j_iconst (v := 0) d_Md_fresh_16 (by decide) ?_
  refine m_put d_Md_fresh_17 fl_Md_92 rfl rfl hb rfl rfl ?_
  refine j_aload_n d_Md_fresh_20 rfl ?_
  refine m_callV (As := []) d_Md_fresh_21 cb_Md_95 vv_Md_all rfl rfl rfl (Nat.le_of_ble_eq_true rfl) (by decide) (c_Md_all hb) (fun w h' n' q _ => ?_)
  obtain ⟨rfl, rfl, q3⟩ := q; have q3 := q3.symm; subst q3
  exact j_vret d_Md_fresh_24 rfl ⟨rfl, rfl, rfl⟩
/-! the small askers -/
theorem c_Md_isPerson {t : Int32} : Ct E m_Md_isPerson 0 0 0 [.ref mo, .int t] (hM E h mo v f) n (Rt (some (.int (bI (0 ≤ t ∧ t < v 5)))) (hM E h mo v f) n) := by
  refine Ct.go rfl rfl rfl ?_
  have no : ¬ (0 ≤ t ∧ t < v 5) → J E m_Md_isPerson 0 0 0 16 (lv_args 0 [.ref mo, .int t]) [] (hM E h mo v f) n (Rt (some (.int (bI (0 ≤ t ∧ t < v 5)))) (hM E h mo v f) n) := by
    intro q
    rw [bI_f q]
    refine j_iconst (v := 0) d_Md_isPerson_16 (by decide) ?_
    exact j_zret d_Md_isPerson_17 rfl (Or.inl rfl) ⟨rfl, rfl, rfl⟩
  refine j_iload_n d_Md_isPerson_0 rfl ?_
  refine j_if_lt (tgt := 16) d_Md_isPerson_1 (by decide) (fun q => no (fun x => absurd x.1 (Int32.not_le.mpr q))) (fun q => ?_)
  refine j_iload_n d_Md_isPerson_4 rfl ?_
  refine j_aload_n d_Md_isPerson_5 rfl ?_
  refine m_get d_Md_isPerson_6 fl_Md_141 rfl ?_
  refine j_icmp_ge (tgt := 16) d_Md_isPerson_9 (by decide) (fun q2 => no (fun x => absurd x.2 (Int32.not_lt.mpr q2))) (fun q2 => ?_)
  rw [bI_t ⟨Int32.not_lt.mp q, Int32.not_le.mp q2⟩]
  refine j_iconst (v := 1) d_Md_isPerson_12 (by decide) ?_
  refine j_goto (tgt := 17) d_Md_isPerson_13 (by decide) ?_
  exact j_zret d_Md_isPerson_17 rfl (Or.inr rfl) ⟨rfl, rfl, rfl⟩
theorem c_Md_isKept {t : Int32} : Ct E m_Md_isKept 0 0 0 [.ref mo, .int t] (hM E h mo v f) n (Rt (some (.int (bI (0 ≤ t ∧ t < v 27)))) (hM E h mo v f) n) := by
  refine Ct.go rfl rfl rfl ?_
  have no : ¬ (0 ≤ t ∧ t < v 27) → J E m_Md_isKept 0 0 0 16 (lv_args 0 [.ref mo, .int t]) [] (hM E h mo v f) n (Rt (some (.int (bI (0 ≤ t ∧ t < v 27)))) (hM E h mo v f) n) := by
    intro q
    rw [bI_f q]
    refine j_iconst (v := 0) d_Md_isKept_16 (by decide) ?_
    exact j_zret d_Md_isKept_17 rfl (Or.inl rfl) ⟨rfl, rfl, rfl⟩
  refine j_iload_n d_Md_isKept_0 rfl ?_
  refine j_if_lt (tgt := 16) d_Md_isKept_1 (by decide) (fun q => no (fun x => absurd x.1 (Int32.not_le.mpr q))) (fun q => ?_)
  refine j_iload_n d_Md_isKept_4 rfl ?_
  refine j_aload_n d_Md_isKept_5 rfl ?_
  refine m_get d_Md_isKept_6 fl_Md_89 rfl ?_
  refine j_icmp_ge (tgt := 16) d_Md_isKept_9 (by decide) (fun q2 => no (fun x => absurd x.2 (Int32.not_lt.mpr q2))) (fun q2 => ?_)
  rw [bI_t ⟨Int32.not_lt.mp q, Int32.not_le.mp q2⟩]
  refine j_iconst (v := 1) d_Md_isKept_12 (by decide) ?_
  refine j_goto (tgt := 17) d_Md_isKept_13 (by decide) ?_
  exact j_zret d_Md_isKept_17 rfl (Or.inr rfl) ⟨rfl, rfl, rfl⟩
theorem c_Md_isOf {t kd : Int32} : Ct E m_Md_isOf 0 0 0 [.ref mo, .int t, .int kd] (hM E h mo v f) n (Rt (some (.int (bI ((0 ≤ t ∧ t < v 3) ∧ (0 ≤ kd ∧ kd < v 4))))) (hM E h mo v f) n) := by
  refine Ct.go rfl rfl rfl ?_
  have no : ¬ ((0 ≤ t ∧ t < v 3) ∧ (0 ≤ kd ∧ kd < v 4)) → J E m_Md_isOf 0 0 0 28 (lv_args 0 [.ref mo, .int t, .int kd]) [] (hM E h mo v f) n (Rt (some (.int (bI ((0 ≤ t ∧ t < v 3) ∧ (0 ≤ kd ∧ kd < v 4))))) (hM E h mo v f) n) := by
    intro q
    rw [bI_f q]
    refine j_iconst (v := 0) d_Md_isOf_28 (by decide) ?_
    exact j_zret d_Md_isOf_29 rfl (Or.inl rfl) ⟨rfl, rfl, rfl⟩
  refine j_iload_n d_Md_isOf_0 rfl ?_
  refine j_if_lt (tgt := 28) d_Md_isOf_1 (by decide) (fun q => no (fun x => absurd x.1.1 (Int32.not_le.mpr q))) (fun q => ?_)
  refine j_iload_n d_Md_isOf_4 rfl ?_
  refine j_aload_n d_Md_isOf_5 rfl ?_
  refine m_get d_Md_isOf_6 fl_Md_13 rfl ?_
  refine j_icmp_ge (tgt := 28) d_Md_isOf_9 (by decide) (fun q2 => no (fun x => absurd x.1.2 (Int32.not_lt.mpr q2))) (fun q2 => ?_)
  refine j_iload_n d_Md_isOf_12 rfl ?_
  refine j_if_lt (tgt := 28) d_Md_isOf_13 (by decide) (fun q => no (fun x => absurd x.2.1 (Int32.not_le.mpr q))) (fun q3 => ?_)
  refine j_iload_n d_Md_isOf_16 rfl ?_
  refine j_aload_n d_Md_isOf_17 rfl ?_
  refine m_get d_Md_isOf_18 fl_Md_138 rfl ?_
  refine j_icmp_ge (tgt := 28) d_Md_isOf_21 (by decide) (fun q2 => no (fun x => absurd x.2.2 (Int32.not_lt.mpr q2))) (fun q4 => ?_)
  rw [bI_t ⟨⟨Int32.not_lt.mp q, Int32.not_le.mp q2⟩, ⟨Int32.not_lt.mp q3, Int32.not_le.mp q4⟩⟩]
  refine j_iconst (v := 1) d_Md_isOf_24 (by decide) ?_
  refine j_goto (tgt := 29) d_Md_isOf_25 (by decide) ?_
  exact j_zret d_Md_isOf_29 rfl (Or.inr rfl) ⟨rfl, rfl, rfl⟩
theorem c_Md_told {w : Int32} (hb : E.2.2.2.1 ≤ mo) : Ct E m_Md_told 0 0 0 [.ref mo, .int w] (hM E h mo v f) n (Rt (some (.int (if w = 0 then v 3 else if w = 1 then v 4 else if w = 2 then v 5 else -1))) (hM E h mo (upd v 0 0) f) n) := by
  refine Ct.go rfl rfl rfl ?_
  refine j_aload_n d_Md_told_0 rfl ?_
  refine j_iconst (v := 0) d_Md_told_1 (by decide) ?_
  refine m_put d_Md_told_2 fl_Md_79 rfl rfl hb rfl rfl ?_
  refine j_iload_n d_Md_told_5 rfl ?_
  refine j_if_ne (tgt := 16) d_Md_told_6 (by decide) (fun c => ?_) (fun c => ?_)
  · rw [if_neg c]
    refine j_iload_n d_Md_told_16 rfl ?_
    refine j_iconst (v := 1) d_Md_told_17 (by decide) ?_
    refine j_icmp_ne (tgt := 28) d_Md_told_18 (by decide) (fun c => ?_) (fun c => ?_)
    · rw [if_neg c]
      refine j_iload_n d_Md_told_28 rfl ?_
      refine j_iconst (v := 2) d_Md_told_29 (by decide) ?_
      refine j_icmp_ne (tgt := 40) d_Md_told_30 (by decide) (fun c => ?_) (fun c => ?_)
      · rw [if_neg c]
        refine j_iconst (v := (-1)) d_Md_told_40 (by decide) ?_
        exact j_iret d_Md_told_41 rfl ⟨rfl, rfl, rfl⟩
      · rw [if_pos c]
        refine j_aload_n d_Md_told_33 rfl ?_
        refine m_get d_Md_told_34 fl_Md_141 rfl ?_
        refine j_goto (tgt := 41) d_Md_told_37 (by decide) ?_
        exact j_iret d_Md_told_41 rfl ⟨rfl, rfl, rfl⟩
    · rw [if_pos c]
      refine j_aload_n d_Md_told_21 rfl ?_
      refine m_get d_Md_told_22 fl_Md_138 rfl ?_
      refine j_goto (tgt := 41) d_Md_told_25 (by decide) ?_
      exact j_iret d_Md_told_41 rfl ⟨rfl, rfl, rfl⟩
  · rw [if_pos c]
    refine j_aload_n d_Md_told_9 rfl ?_
    refine m_get d_Md_told_10 fl_Md_13 rfl ?_
    refine j_goto (tgt := 41) d_Md_told_13 (by decide) ?_
    exact j_iret d_Md_told_41 rfl ⟨rfl, rfl, rfl⟩
theorem c_Md_mayBe {t : Int32} {m : Nat} (hb : E.2.2.2.1 ≤ mo) (hm : v 5 = nI m) (hm3 : m ≤ 3) : Ct E m_Md_mayBe 1 0 0 [.ref mo, .int t] (hM E h mo v f) n (Rt (some (.int (if 0 ≤ t ∧ t < nI m then f 16 t.toNatClampNeg else -1))) (hM E h mo (upd v 0 0) f) n) := by
  refine Ct.go rfl rfl rfl ?_
  refine j_aload_n d_Md_mayBe_0 rfl ?_
  refine j_iconst (v := 0) d_Md_mayBe_1 (by decide) ?_
  refine m_put d_Md_mayBe_2 fl_Md_79 rfl rfl hb rfl rfl ?_
  refine j_aload_n d_Md_mayBe_5 rfl ?_
  refine j_iload_n d_Md_mayBe_6 rfl ?_
  refine m_pV (As := [.int t]) d_Md_mayBe_7 cb_Md_186 vv_Md_isPerson rfl rfl rfl (Nat.le_of_ble_eq_true rfl) (by decide) c_Md_isPerson ?_
  rw [show upd v 0 0 5 = nI m from hm]
  refine j_if_eq (tgt := 22) d_Md_mayBe_10 (by decide) (fun c => ?_) (fun c => ?_)
  · rw [if_neg (bI_eq c)]
    refine j_iconst (v := (-1)) d_Md_mayBe_22 (by decide) ?_
    exact j_iret d_Md_mayBe_23 rfl ⟨rfl, rfl, rfl⟩
  · have x := bI_ne c
    rw [if_pos x]
    obtain ⟨j, hj, rfl⟩ := in_nI (by omega) x
    rw [nI_clamp (by omega)]
    refine j_aload_n d_Md_mayBe_13 rfl ?_
    refine m_get d_Md_mayBe_14 fl_Md_61 rfl ?_
    refine j_iload_n d_Md_mayBe_17 rfl ?_
    refine m_ald (k := 16) (N := 3) d_Md_mayBe_18 (by decide) rfl (by omega) (by decide) ?_
    refine j_goto (tgt := 23) d_Md_mayBe_19 (by decide) ?_
    exact j_iret d_Md_mayBe_23 rfl ⟨rfl, rfl, rfl⟩
theorem c_Md_may {t kd : Int32} {k nn : Nat} (hb : E.2.2.2.1 ≤ mo) (hn : v 3 = nI nn) (hk : v 4 = nI k) (hn4 : nn ≤ 4) (hk3 : k ≤ 3) : Ct E m_Md_may 1 0 0 [.ref mo, .int t, .int kd] (hM E h mo v f) n (Rt (some (.int (if (0 ≤ t ∧ t < nI nn) ∧ (0 ≤ kd ∧ kd < nI k) then f 15 (4 * kd.toNatClampNeg + t.toNatClampNeg) else -1))) (hM E h mo (upd v 0 0) f) n) := by
  refine Ct.go rfl rfl rfl ?_
  refine j_aload_n d_Md_may_0 rfl ?_
  refine j_iconst (v := 0) d_Md_may_1 (by decide) ?_
  refine m_put d_Md_may_2 fl_Md_79 rfl rfl hb rfl rfl ?_
  refine j_aload_n d_Md_may_5 rfl ?_
  refine j_iload_n d_Md_may_6 rfl ?_
  refine j_iload_n d_Md_may_7 rfl ?_
  refine m_pV (As := [.int t, .int kd]) d_Md_may_8 cb_Md_179 vv_Md_isOf rfl rfl rfl (Nat.le_of_ble_eq_true rfl) (by decide) c_Md_isOf ?_
  rw [show upd v 0 0 3 = nI nn from hn, show upd v 0 0 4 = nI k from hk]
  refine j_if_eq (tgt := 27) d_Md_may_11 (by decide) (fun c => ?_) (fun c => ?_)
  · rw [if_neg (bI_eq c)]
    refine j_iconst (v := (-1)) d_Md_may_27 (by decide) ?_
    exact j_iret d_Md_may_28 rfl ⟨rfl, rfl, rfl⟩
  · have x := bI_ne c
    rw [if_pos x]
    obtain ⟨i, hi, rfl⟩ := in_nI (by omega) x.1
    obtain ⟨j, hj, rfl⟩ := in_nI (by omega) x.2
    rw [nI_clamp (by omega), nI_clamp (by omega)]
    refine j_aload_n d_Md_may_14 rfl ?_
    refine m_get d_Md_may_15 fl_Md_58 rfl ?_
    refine j_iconst (v := 4) d_Md_may_18 (by decide) ?_
    refine j_iload_n d_Md_may_19 rfl ?_
    refine j_imul d_Md_may_20 ?_
    refine j_iload_n d_Md_may_21 rfl ?_
    refine j_iadd d_Md_may_22 ?_
    refine m_ald4 (k := 15) (N := 12) d_Md_may_23 (by decide) rfl (by omega) (by decide) ?_
    refine j_goto (tgt := 28) d_Md_may_24 (by decide) ?_
    exact j_iret d_Md_may_28 rfl ⟨rfl, rfl, rfl⟩
theorem c_Md_step {t w : Int32} {s : Nat} (hb : E.2.2.2.1 ≤ mo) (hs : v 33 = nI s) (h54 : s ≤ 54) : Ct E m_Md_step 0 0 0 [.ref mo, .int t, .int w] (hM E h mo v f) n (Rt (some (.int (if 0 ≤ t ∧ t < nI s then (if w = 0 then f 19 t.toNatClampNeg else if w = 1 then f 20 t.toNatClampNeg else -1) else -1))) (hM E h mo (upd v 0 0) f) n) := by
  refine Ct.go rfl rfl rfl ?_
  refine j_aload_n d_Md_step_0 rfl ?_
  refine j_iconst (v := 0) d_Md_step_1 (by decide) ?_
  refine m_put d_Md_step_2 fl_Md_79 rfl rfl hb rfl rfl ?_
  refine j_iload_n d_Md_step_5 rfl ?_
  refine j_if_lt (tgt := 17) d_Md_step_6 (by decide) (fun q => ?_) (fun q => ?_)
  · rw [if_neg (fun x => absurd x.1 (Int32.not_le.mpr q))]
    refine j_iconst (v := (-1)) d_Md_step_17 (by decide) ?_
    exact j_iret d_Md_step_18 rfl ⟨rfl, rfl, rfl⟩
  · refine j_iload_n d_Md_step_9 rfl ?_
    refine j_aload_n d_Md_step_10 rfl ?_
    refine m_get d_Md_step_11 fl_Md_92 rfl ?_
    rw [show upd v 0 0 33 = nI s from hs]
    refine j_icmp_lt (tgt := 19) d_Md_step_14 (by decide) (fun q2 => ?_) (fun q2 => ?_)
    · obtain ⟨j, hj, rfl⟩ := in_nI (by omega) ⟨Int32.not_lt.mp q, q2⟩
      rw [if_pos ⟨Int32.not_lt.mp q, q2⟩, nI_clamp (by omega)]
      refine j_iload_n d_Md_step_19 rfl ?_
      refine j_if_ne (tgt := 32) d_Md_step_20 (by decide) (fun c => ?_) (fun c => ?_)
      · rw [if_neg c]
        refine j_iload_n d_Md_step_32 rfl ?_
        refine j_iconst (v := 1) d_Md_step_33 (by decide) ?_
        refine j_icmp_ne (tgt := 46) d_Md_step_34 (by decide) (fun c => ?_) (fun c => ?_)
        · rw [if_neg c]
          refine j_iconst (v := (-1)) d_Md_step_46 (by decide) ?_
          exact j_iret d_Md_step_47 rfl ⟨rfl, rfl, rfl⟩
        · rw [if_pos c]
          refine j_aload_n d_Md_step_37 rfl ?_
          refine m_get d_Md_step_38 fl_Md_73 rfl ?_
          refine j_iload_n d_Md_step_41 rfl ?_
          refine m_ald (k := 20) (N := 60) d_Md_step_42 (by decide) rfl (by omega) (by decide) ?_
          refine j_goto (tgt := 47) d_Md_step_43 (by decide) ?_
          exact j_iret d_Md_step_47 rfl ⟨rfl, rfl, rfl⟩
      · rw [if_pos c]
        refine j_aload_n d_Md_step_23 rfl ?_
        refine m_get d_Md_step_24 fl_Md_70 rfl ?_
        refine j_iload_n d_Md_step_27 rfl ?_
        refine m_ald (k := 19) (N := 60) d_Md_step_28 (by decide) rfl (by omega) (by decide) ?_
        refine j_goto (tgt := 47) d_Md_step_29 (by decide) ?_
        exact j_iret d_Md_step_47 rfl ⟨rfl, rfl, rfl⟩
    · rw [if_neg (fun x => q2 x.2)]
      refine j_iconst (v := (-1)) d_Md_step_17 (by decide) ?_
      exact j_iret d_Md_step_18 rfl ⟨rfl, rfl, rfl⟩
theorem c_Md_unit {u : Int32} {ln : Nat} (hb : E.2.2.2.1 ≤ mo) (hs : v 1 = nI ln) (hl : ln ≤ 300) : Ct E m_Md_unit 0 0 0 [.ref mo, .int u] (hM E h mo v f) n (fun r h' n' => n' = n ∧ ((¬ (u < 0 ∨ 255 < u ∨ 300 ≤ ln) ∧ r = some (.int 1) ∧ h' = hM E h mo (upd (upd v 0 0) 1 (nI (ln + 1))) (upG f 1 (upd (f 1) ln u))) ∨ ((u < 0 ∨ 255 < u ∨ 300 ≤ ln) ∧ r = some (.int 0) ∧ h' = hM E h mo (upd v 0 0) f))) := by
  refine Ct.go rfl rfl rfl ?_
  have no : (u < 0 ∨ 255 < u ∨ 300 ≤ ln) → J E m_Md_unit 0 0 0 26 (lv_args 0 [.ref mo, .int u]) [] (hM E h mo (upd v 0 0) f) n (fun r h' n' => n' = n ∧ ((¬ (u < 0 ∨ 255 < u ∨ 300 ≤ ln) ∧ r = some (.int 1) ∧ h' = hM E h mo (upd (upd v 0 0) 1 (nI (ln + 1))) (upG f 1 (upd (f 1) ln u))) ∨ ((u < 0 ∨ 255 < u ∨ 300 ≤ ln) ∧ r = some (.int 0) ∧ h' = hM E h mo (upd v 0 0) f))) := by
    intro q
    refine j_iconst (v := 0) d_Md_unit_26 (by decide) ?_
    exact j_zret d_Md_unit_27 rfl (Or.inl rfl) ⟨rfl, Or.inr ⟨q, rfl, rfl⟩⟩
  refine j_aload_n d_Md_unit_0 rfl ?_
  refine j_iconst (v := 0) d_Md_unit_1 (by decide) ?_
  refine m_put d_Md_unit_2 fl_Md_79 rfl rfl hb rfl rfl ?_
  refine j_iload_n d_Md_unit_5 rfl ?_
  refine j_if_lt (tgt := 26) d_Md_unit_6 (by decide) (fun q => no (Or.inl q)) (fun q => ?_)
  refine j_iload_n d_Md_unit_9 rfl ?_
  refine j_sipush (v := 255) d_Md_unit_10 (by decide) ?_
  refine j_icmp_gt (tgt := 26) d_Md_unit_13 (by decide) (fun q2 => no (Or.inr (Or.inl q2))) (fun q2 => ?_)
  refine j_aload_n d_Md_unit_16 rfl ?_
  refine m_get d_Md_unit_17 fl_Md_98 rfl ?_
  refine j_sipush (v := 300) d_Md_unit_20 (by decide) ?_
  rw [show upd v 0 0 1 = nI ln from hs]
  refine j_icmp_ne (tgt := 28) d_Md_unit_23 (by decide) (fun q3 => ?_) (fun q3 => ?_)
  · have hln : ln < 300 := by
      rcases Nat.lt_or_ge ln 300 with x | x
      · exact x
      · exact absurd (show nI ln = 300 by rw [show ln = 300 by omega]; rfl) q3
    refine j_aload_n d_Md_unit_28 rfl ?_
    refine m_get d_Md_unit_29 fl_Md_7 rfl ?_
    refine j_aload_n d_Md_unit_32 rfl ?_
    refine m_get d_Md_unit_33 fl_Md_98 rfl ?_
    rw [show upd v 0 0 1 = nI ln from hs]
    refine j_iload_n d_Md_unit_36 rfl ?_
    refine m_ast (k := 1) (N := 300) d_Md_unit_37 (by decide) rfl hb (by omega) (by decide) ?_
    refine j_aload_n d_Md_unit_38 rfl ?_
    refine j_dup d_Md_unit_39 rfl ?_
    refine m_get d_Md_unit_40 fl_Md_98 rfl ?_
    refine j_iconst (v := 1) d_Md_unit_43 (by decide) ?_
    refine j_iadd d_Md_unit_44 ?_
    rw [show upd v 0 0 1 = nI ln from hs, nI_1]
    refine m_put d_Md_unit_45 fl_Md_98 rfl rfl hb rfl rfl ?_
    refine j_iconst (v := 1) d_Md_unit_48 (by decide) ?_
    exact j_zret d_Md_unit_49 rfl (Or.inr rfl) ⟨rfl, Or.inl ⟨fun z => z.elim q (fun z => z.elim q2 (fun z => absurd z (by omega))), rfl, rfl⟩⟩
  · have q4 := q3
    have : ln = 300 := by
      have := (nI_eq (a := ln) (b := 300) (by omega) (by omega)).mp q4
      exact this
    exact no (Or.inr (Or.inr (by omega)))
end MS2

section MOP
variable {E : EV} {h : HP} {n mo N K M cc : Nat} {v : Nat → Int32} {f : Nat → Nat → Int32}
/-- the reference's two rows of the orders -/
def MV (f : Nat → Nat → Int32) (N : Nat) : Prop := ∀ o t, o < cT N → t < N → f 10 (4 * o + t) = nI (vT N (4 * o + t))
def MS (f : Nat → Nat → Int32) (N : Nat) : Prop := ∀ o w, o < cT N → w < N → f 11 (4 * o + w) = nI (sT N o w)
abbrev vS (N K M st t kd : Nat) : Nat := vT N (4 * ofS N K M st kd + t)
abbrev zS (M st p : Nat) : Nat := if trS M st p then 1 else 0
def opn (my be : Nat → Int32) (N K M st : Nat) : Prop := (∀ kd, kd < K → ∀ t, t < N → tb (my (4 * kd + t)) (vS N K M st t kd) = true) ∧ ∀ p, p < M → tb (be p) (zS M st p) = true
def opB (my be : Nat → Int32) (N K M st : Nat) : Bool := decide ((∀ kd, kd < K → ∀ t, t < N → tb (my (4 * kd + t)) (vS N K M st t kd) = true) ∧ ∀ p, p < M → tb (be p) (zS M st p) = true)
theorem opB_t {my be : Nat → Int32} {st : Nat} (h : opn my be N K M st) : opB my be N K M st = true := decide_eq_true h
theorem opB_f {my be : Nat → Int32} {st : Nat} (h : ¬ opn my be N K M st) : opB my be N K M st = false := decide_eq_false h
theorem opB_i {my be : Nat → Int32} {st : Nat} : opB my be N K M st = true ↔ opn my be N K M st := decide_eq_true_iff
theorem c_Md_vO {st t kd : Nat} (P : MP v N K M cc) (hC : v 20 = nI (cT N)) (V : MV f N) (hk : kd < K) (ht : t < N) (hs : st < 2 ^ 31) : Ct E m_Md_valueOf 1 0 0 [.ref mo, .int (nI st), .int (nI t), .int (nI kd)] (hM E h mo v f) n (Rt (some (.int (nI (vS N K M st t kd)))) (hM E h mo v f) n) := by
  have := c_Md_valueOf (E := E) (h := h) (n := n) (mo := mo) (f := f) P hC hk (t := t) (by have := P.2.2.2.2.1; omega) hs
  rw [V _ _ (ofS_lt hk) ht] at this
  exact this
theorem vS_lt {st t kd : Nat} (h1 : 1 ≤ N ∧ N ≤ 4) (hk : kd < K) (ht : t < N) : vS N K M st t kd < N := (vs_T h1.1 h1.2 (ofS_lt hk) ht).1
theorem c_Md_isOpen {st : Nat} (P : MP v N K M cc) (hC : v 20 = nI (cT N)) (V : MV f N) (hs : st < 2 ^ 31) : Ct E m_Md_isOpen 2 0 0 [.ref mo, .int (nI st)] (hM E h mo v f) n (Rt (some (.int (bI (opB (f 15) (f 16) N K M st = true)))) (hM E h mo v f) n) := by
  have P0 := P
  obtain ⟨p1, p2, p3, p4, p5, p6, p7, p8⟩ := P
  refine Ct.go rfl rfl rfl ?_
  have no : ∀ (L : List (Nat × Value)) (pc : Nat), ¬ opn (f 15) (f 16) N K M st → (pc = 43 ∨ pc = 93) → J E m_Md_isOpen 2 0 0 pc L [] (hM E h mo v f) n (Rt (some (.int (bI (opB (f 15) (f 16) N K M st = true)))) (hM E h mo v f) n) := by
    intro L pc q hpc
    rw [bI_f (p := opB (f 15) (f 16) N K M st = true) (by rw [opB_f q]; decide)]
    rcases hpc with rfl | rfl
    · refine j_iconst (v := 0) d_Md_isOpen_43 (by decide) ?_
      exact j_zret d_Md_isOpen_44 rfl (Or.inl rfl) ⟨rfl, rfl, rfl⟩
    · refine j_iconst (v := 0) d_Md_isOpen_93 (by decide) ?_
      exact j_zret d_Md_isOpen_94 rfl (Or.inl rfl) ⟨rfl, rfl, rfl⟩
  have loop3 : (∀ kd, kd < K → ∀ t, t < N → tb (f 15 (4 * kd + t)) (vS N K M st t kd) = true) → ∀ (k i : Nat), i + k = M → (∀ p, p < i → tb (f 16 p) (zS M st p) = true) → J E m_Md_isOpen 2 0 0 59 [(0, .ref mo), (1, .int (nI st)), (2, .int (nI i))] [] (hM E h mo v f) n (Rt (some (.int (bI (opB (f 15) (f 16) N K M st = true)))) (hM E h mo v f) n) := by
    intro ok k
    induction k with
    | zero =>
      intro i hi hq
      have hi : i = M := by omega
      subst hi
      refine j_iload_n d_Md_isOpen_59 rfl ?_
      refine j_aload_n d_Md_isOpen_60 rfl ?_
      refine m_get d_Md_isOpen_61 fl_Md_141 rfl ?_
      rw [p3]
      refine j_icmp_ge (tgt := 101) d_Md_isOpen_64 (by decide) (fun c => ?_) (fun c => absurd (nI_le (Nat.le_refl _) (by omega)) c)
      rw [bI_t (p := opB (f 15) (f 16) N K i st = true) (opB_t ⟨ok, hq⟩)]
      refine j_iconst (v := 1) d_Md_isOpen_101 (by decide) ?_
      exact j_zret d_Md_isOpen_102 rfl (Or.inr rfl) ⟨rfl, rfl, rfl⟩
    | succ k ih =>
      intro i hi hq
      refine j_iload_n d_Md_isOpen_59 rfl ?_
      refine j_aload_n d_Md_isOpen_60 rfl ?_
      refine m_get d_Md_isOpen_61 fl_Md_141 rfl ?_
      rw [p3]
      refine j_icmp_ge (tgt := 101) d_Md_isOpen_64 (by decide) (fun c => absurd c (nI_ge (by omega) (by omega))) (fun c => ?_)
      refine j_aload_n d_Md_isOpen_67 rfl ?_
      refine m_get d_Md_isOpen_68 fl_Md_61 rfl ?_
      refine j_iload_n d_Md_isOpen_71 rfl ?_
      refine m_ald (k := 16) (N := 3) d_Md_isOpen_72 (by decide) rfl (by omega) (by decide) ?_
      refine j_aload_n d_Md_isOpen_73 rfl ?_
      refine j_iload_n d_Md_isOpen_74 rfl ?_
      refine j_iload_n d_Md_isOpen_75 rfl ?_
      refine m_pV (As := [.int (nI st), .int (nI i)]) d_Md_isOpen_76 cb_Md_156 vv_Md_isTruthful rfl rfl rfl (Nat.le_of_ble_eq_true rfl) (by decide) (c_Md_isTruthful P0 (by omega)) ?_
      have rest : J E m_Md_isOpen 2 0 0 87 [(0, .ref mo), (1, .int (nI st)), (2, .int (nI i))] [.int (nI (zS M st i)), .int (f 16 i)] (hM E h mo v f) n (Rt (some (.int (bI (opB (f 15) (f 16) N K M st = true)))) (hM E h mo v f) n) := by
        refine j_ishr d_Md_isOpen_87 ?_
        refine j_iconst (v := 1) d_Md_isOpen_88 (by decide) ?_
        refine j_iand d_Md_isOpen_89 ?_
        have z1 : zS M st i < 32 := by unfold zS; split <;> decide
        rw [tb_low z1]
        refine j_if_ne (tgt := 95) d_Md_isOpen_90 (by decide) (fun c => ?_) (fun c => no _ _ (fun q => bI_eq c (q.2 i (by omega))) (Or.inr rfl))
        refine j_iinc (v := nI (i + 1)) d_Md_isOpen_95 rfl (nI_succ i).symm (by decide) ?_
        refine j_goto (tgt := 59) d_Md_isOpen_98 (by decide) ?_
        refine ih (i + 1) (by omega) (fun p hp => ?_)
        by_cases e : p = i
        · subst e; exact bI_ne c
        · exact hq p (by omega)
      refine j_if_eq (tgt := 86) d_Md_isOpen_79 (by decide) (fun c => ?_) (fun c => ?_)
      · have e : zS M st i = 0 := if_neg (bI_eq c)
        rw [e] at rest
        refine j_iconst (v := 0) d_Md_isOpen_86 (by decide) ?_
        exact rest
      · have e : zS M st i = 1 := if_pos (bI_ne c)
        rw [e] at rest
        refine j_iconst (v := 1) d_Md_isOpen_82 (by decide) ?_
        refine j_goto (tgt := 87) d_Md_isOpen_83 (by decide) ?_
        exact rest
  have loop1 : ∀ (k i : Nat), i + k = K → (∀ kd, kd < i → ∀ t, t < N → tb (f 15 (4 * kd + t)) (vS N K M st t kd) = true) → ∀ L, L.take 3 = [(0, .ref mo), (1, .int (nI st)), (2, .int (nI i))] → J E m_Md_isOpen 2 0 0 2 L [] (hM E h mo v f) n (Rt (some (.int (bI (opB (f 15) (f 16) N K M st = true)))) (hM E h mo v f) n) := by
    intro k
    induction k with
    | zero =>
      intro i hi ok L hL
      have hi : i = K := by omega
      subst hi
      refine J.tk 3 ?_
      rw [hL]
      refine j_iload_n d_Md_isOpen_2 rfl ?_
      refine j_aload_n d_Md_isOpen_3 rfl ?_
      refine m_get d_Md_isOpen_4 fl_Md_138 rfl ?_
      rw [p2]
      refine j_icmp_ge (tgt := 57) d_Md_isOpen_7 (by decide) (fun c => ?_) (fun c => absurd (nI_le (Nat.le_refl _) (by omega)) c)
      refine j_iconst (v := 0) d_Md_isOpen_57 (by decide) ?_
      refine j_istore_n d_Md_isOpen_58 (by decide) ?_
      exact loop3 ok M 0 (by omega) (fun p hp => absurd hp (by omega))
    | succ k ih =>
      intro i hi ok L hL
      refine J.tk 3 ?_
      rw [hL]
      refine j_iload_n d_Md_isOpen_2 rfl ?_
      refine j_aload_n d_Md_isOpen_3 rfl ?_
      refine m_get d_Md_isOpen_4 fl_Md_138 rfl ?_
      rw [p2]
      refine j_icmp_ge (tgt := 57) d_Md_isOpen_7 (by decide) (fun c => absurd c (nI_ge (by omega) (by omega))) (fun c => ?_)
      refine j_iconst (v := 0) d_Md_isOpen_10 (by decide) ?_
      refine j_istore_n d_Md_isOpen_11 (by decide) ?_
      have loop2 : ∀ (k2 j : Nat), j + k2 = N → (∀ t, t < j → tb (f 15 (4 * i + t)) (vS N K M st t i) = true) → J E m_Md_isOpen 2 0 0 12 [(0, .ref mo), (1, .int (nI st)), (2, .int (nI i)), (3, .int (nI j))] [] (hM E h mo v f) n (Rt (some (.int (bI (opB (f 15) (f 16) N K M st = true)))) (hM E h mo v f) n) := by
        intro k2
        induction k2 with
        | zero =>
          intro j hj hq
          have hj : j = N := by omega
          subst hj
          refine j_iload_n d_Md_isOpen_12 rfl ?_
          refine j_aload_n d_Md_isOpen_13 rfl ?_
          refine m_get d_Md_isOpen_14 fl_Md_13 rfl ?_
          rw [p1]
          refine j_icmp_ge (tgt := 51) d_Md_isOpen_17 (by decide) (fun c => ?_) (fun c => absurd (nI_le (Nat.le_refl _) (by omega)) c)
          refine j_iinc (v := nI (i + 1)) d_Md_isOpen_51 rfl (nI_succ i).symm (by decide) ?_
          refine j_goto (tgt := 2) d_Md_isOpen_54 (by decide) ?_
          refine ih (i + 1) (by omega) (fun kd hkd => ?_) _ rfl
          by_cases e : kd = i
          · subst e; exact hq
          · exact ok kd (by omega)
        | succ k2 ih2 =>
          intro j hj hq
          refine j_iload_n d_Md_isOpen_12 rfl ?_
          refine j_aload_n d_Md_isOpen_13 rfl ?_
          refine m_get d_Md_isOpen_14 fl_Md_13 rfl ?_
          rw [p1]
          refine j_icmp_ge (tgt := 51) d_Md_isOpen_17 (by decide) (fun c => absurd c (nI_ge (by omega) (by omega))) (fun c => ?_)
          refine j_aload_n d_Md_isOpen_20 rfl ?_
          refine m_get d_Md_isOpen_21 fl_Md_58 rfl ?_
          refine j_iconst (v := 4) d_Md_isOpen_24 (by decide) ?_
          refine j_iload_n d_Md_isOpen_25 rfl ?_
          refine j_imul d_Md_isOpen_26 ?_
          refine j_iload_n d_Md_isOpen_27 rfl ?_
          refine j_iadd d_Md_isOpen_28 ?_
          refine m_ald4 (k := 15) (N := 12) d_Md_isOpen_29 (by decide) rfl (by omega) (by decide) ?_
          refine j_aload_n d_Md_isOpen_30 rfl ?_
          refine j_iload_n d_Md_isOpen_31 rfl ?_
          refine j_iload_n d_Md_isOpen_32 rfl ?_
          refine j_iload_n d_Md_isOpen_33 rfl ?_
          refine m_pV (As := [.int (nI st), .int (nI j), .int (nI i)]) d_Md_isOpen_34 cb_Md_182 vv_Md_valueOf rfl rfl rfl (Nat.le_of_ble_eq_true rfl) (by decide) (c_Md_vO P0 hC V (by omega) (by omega) hs) ?_
          have z1 : vS N K M st j i < 32 := by have := vS_lt (M := M) (st := st) p5 (show i < K by omega) (show j < N by omega); omega
          refine j_ishr d_Md_isOpen_37 ?_
          refine j_iconst (v := 1) d_Md_isOpen_38 (by decide) ?_
          refine j_iand d_Md_isOpen_39 ?_
          rw [tb_low z1]
          refine j_if_ne (tgt := 45) d_Md_isOpen_40 (by decide) (fun c => ?_) (fun c => no _ _ (fun q => bI_eq c (q.1 i (by omega) j (by omega))) (Or.inl rfl))
          refine j_iinc (v := nI (j + 1)) d_Md_isOpen_45 rfl (nI_succ j).symm (by decide) ?_
          refine j_goto (tgt := 12) d_Md_isOpen_48 (by decide) ?_
          refine ih2 (j + 1) (by omega) (fun t ht => ?_)
          by_cases e : t = j
          · subst e; exact bI_ne c
          · exact hq t (by omega)
      exact loop2 N 0 (by omega) (fun t ht => absurd ht (by omega))
  refine j_iconst (v := 0) d_Md_isOpen_0 (by decide) ?_
  refine j_istore_n d_Md_isOpen_1 (by decide) ?_
  exact loop1 K 0 (by omega) (fun kd hkd => absurd hkd (by omega)) _ rfl
end MOP

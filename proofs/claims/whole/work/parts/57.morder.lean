section MOR
variable {E : EV} {h : HP} {n mo N K M cc : Nat} {v : Nat → Int32} {f : Nat → Nat → Int32}
def ddT (N code k : Nat) : Nat := code / N ^ k % N
def snT (N code : Nat) : Nat → Int32
  | 0 => 0
  | k + 1 => snT N code k ||| (1 <<< (nI (ddT N code k) &&& 31))
def pmT (N code : Nat) : Bool := snT N code N == 1 <<< (nI N &&& 31) - 1
def chk (N : Nat) : Nat → Nat → Nat → Bool
  | 0, _, cnt => cnt == cT N
  | fu + 1, code, cnt => decide (cnt < 24) && (if pmT N code then decide (cnt < cT N) && (List.range N).all (fun k => vT N (4 * cnt + (N - 1 - k)) == ddT N code k) && (if cnt + 1 = 24 then cT N == 24 else chk N fu (code + 1) (cnt + 1)) else chk N fu (code + 1) cnt)
set_option maxRecDepth 100000 in
theorem chk_ok (h1 : 1 ≤ N) (h4 : N ≤ 4) : chk N (N ^ N) 0 0 = true := by
  have : ∀ N : Fin 5, 1 ≤ N.1 → chk N.1 (N.1 ^ N.1) 0 0 = true := by decide +kernel
  exact this ⟨N, by omega⟩ h1
/-- the rows, right below order cnt -/
def OrR (F f : Nat → Nat → Int32) (N cnt : Nat) : Prop := (∀ j, j ≠ 10 → j ≠ 11 → F j = f j) ∧ ∀ o t, o < cnt → t < N → F 10 (4 * o + t) = nI (vT N (4 * o + t)) ∧ F 11 (4 * o + vT N (4 * o + t)) = nI t
/-- .. and of the order cnt the last k -/
def OrP (F f : Nat → Nat → Int32) (N cnt code k : Nat) : Prop := OrR F f N cnt ∧ (∀ j, j < k → F 10 (4 * cnt + (N - 1 - j)) = nI (ddT N code j)) ∧ ((∀ i j, i < N → j < N → ddT N code i = ddT N code j → i = j) → ∀ j, j < k → F 11 (4 * cnt + ddT N code j) = nI (N - 1 - j))
def OrQ (E : EV) (h : HP) (n mo : Nat) (v : Nat → Int32) (f : Nat → Nat → Int32) (N : Nat) : Option Value → HP → Nat → Prop := fun r h' n' => r = none ∧ n' = n ∧ ∃ F, h' = hM E h mo (upd v 20 (nI (cT N))) F ∧ (∀ j, j ≠ 10 → j ≠ 11 → F j = f j) ∧ MV F N ∧ MS F N
set_option maxRecDepth 100000 in
theorem OrR.fin {F : Nat → Nat → Int32} (h1 : 1 ≤ N ∧ N ≤ 4) (R : OrR F f N (cT N)) : (∀ j, j ≠ 10 → j ≠ 11 → F j = f j) ∧ MV F N ∧ MS F N := by
  refine ⟨R.1, fun o t ho ht => (R.2 o t ho ht).1, fun o w ho hw => ?_⟩
  have q := vs_T h1.1 h1.2 ho hw
  have := (R.2 o (sT N o w) ho q.2.2.1).2
  rw [q.2.2.2] at this
  exact this
set_option maxRecDepth 100000 in
theorem ddT_lt {code k : Nat} (h1 : 1 ≤ N) : ddT N code k < N := Nat.mod_lt _ (by omega)
set_option maxRecDepth 100000 in
theorem OrP.step {F : Nat → Nat → Int32} {cnt code k : Nat} (h1 : 1 ≤ N ∧ N ≤ 4) (hk : k < N) (R : OrP F f N cnt code k) :
    OrP (upG (upG F 10 (upd (F 10) (4 * cnt + (N - 1 - k)) (nI (ddT N code k)))) 11 (upd (F 11) (4 * cnt + ddT N code k) (nI (N - 1 - k)))) f N cnt code (k + 1) := by
  obtain ⟨⟨r1, r2⟩, r3, r4⟩ := R
  have e10 : upG (upG F 10 (upd (F 10) (4 * cnt + (N - 1 - k)) (nI (ddT N code k)))) 11 (upd (F 11) (4 * cnt + ddT N code k) (nI (N - 1 - k))) 10 = upd (F 10) (4 * cnt + (N - 1 - k)) (nI (ddT N code k)) := rfl
  have e11 : upG (upG F 10 (upd (F 10) (4 * cnt + (N - 1 - k)) (nI (ddT N code k)))) 11 (upd (F 11) (4 * cnt + ddT N code k) (nI (N - 1 - k))) 11 = upd (F 11) (4 * cnt + ddT N code k) (nI (N - 1 - k)) := rfl
  refine ⟨⟨fun j hj hj2 => by rw [upG_n _ _ hj2, upG_n _ _ hj]; exact r1 j hj hj2, fun o t ho ht => ?_⟩, fun j hj => ?_, fun di j hj => ?_⟩
  · have := vT_lt h1.2 (4 * o + t)
    rw [e10, e11, upd_nn _ _ (by omega), upd_nn _ _ (by omega)]
    exact r2 o t ho ht
  · rw [e10]
    by_cases e : j = k
    · subst e; rw [upd_ss]
    · rw [upd_nn _ _ (by omega)]; exact r3 j (by omega)
  · rw [e11]
    by_cases e : j = k
    · subst e; rw [upd_ss]
    · rw [upd_nn _ _ (fun q => e (di j k (by omega) hk (by omega)))]; exact r4 di j (by omega)
set_option maxRecDepth 100000 in
theorem OrP.full {F : Nat → Nat → Int32} {cnt code : Nat} (h1 : 1 ≤ N ∧ N ≤ 4) (hc : cnt < cT N) (R : OrP F f N cnt code N) (q : ∀ k, k < N → vT N (4 * cnt + (N - 1 - k)) = ddT N code k) : OrR F f N (cnt + 1) := by
  obtain ⟨⟨r1, r2⟩, r3, r4⟩ := R
  refine ⟨r1, fun o t ho ht => ?_⟩
  by_cases e : o = cnt
  · subst e
    have e2 : N - 1 - (N - 1 - t) = t := by omega
    have a := r3 (N - 1 - t) (by omega)
    have b := r4 (fun i j hi hj e => by
      rw [← q i hi, ← q j hj] at e
      have x := (vs_T h1.1 h1.2 hc (show N - 1 - i < N by omega)).2.1
      have y := (vs_T h1.1 h1.2 hc (show N - 1 - j < N by omega)).2.1
      rw [e, y] at x
      omega) (N - 1 - t) (by omega)
    rw [← q _ (by omega), e2] at a b
    exact ⟨a, b⟩
  · exact r2 o t (by omega) ht
set_option maxRecDepth 100000 in
theorem c_Md_order (hb : E.2.2.2.1 ≤ mo) (P : MP v N K M cc) : Ct E m_Md_order 0 0 0 [.ref mo] (hM E h mo v f) n (OrQ E h n mo v f N) := by
  obtain ⟨p1, p2, p3, p4, p5, p6, p7, p8⟩ := P
  have hne : ¬ nI N = 0 := nI_ne0 (by omega) (by omega)
  have hNN : N ^ N ≤ 256 := by
    have : ∀ N : Fin 5, N.1 ^ N.1 ≤ 256 := by decide
    exact this ⟨N, by omega⟩
  refine Ct.go rfl rfl rfl ?_
  have outer : ∀ (fu code cnt : Nat) (F : Nat → Nat → Int32), code + fu = N ^ N → chk N fu code cnt = true → OrR F f N cnt → ∀ L, L.take 3 = [(0, .ref mo), (1, .int (nI (N ^ N))), (2, .int (nI code))] → J E m_Md_order 0 0 0 32 L [] (hM E h mo (upd v 20 (nI cnt)) F) n (OrQ E h n mo v f N) := by
    intro fu
    induction fu with
    | zero =>
      intro code cnt F hc ck R L hL
      have hc : code = N ^ N := by omega
      subst hc
      refine J.tk 3 ?_
      rw [hL]
      refine j_iload_n d_Md_order_32 rfl ?_
      refine j_iload_n d_Md_order_33 rfl ?_
      refine j_icmp_ge (tgt := 163) d_Md_order_34 (by decide) (fun c => ?_) (fun c => absurd (nI_le (Nat.le_refl _) (by omega)) c)
      have e : cnt = cT N := by simpa [chk] using ck
      subst e
      exact j_vret d_Md_order_163 rfl ⟨rfl, rfl, F, rfl, R.fin p5⟩
    | succ fu ih =>
      intro code cnt F hc ck R L hL
      have ck2 : cnt < 24 ∧ (if pmT N code then decide (cnt < cT N) && (List.range N).all (fun k => vT N (4 * cnt + (N - 1 - k)) == ddT N code k) && (if cnt + 1 = 24 then cT N == 24 else chk N fu (code + 1) (cnt + 1)) else chk N fu (code + 1) cnt) = true := by
        rw [chk, Bool.and_eq_true, decide_eq_true_iff] at ck
        exact ck
      refine J.tk 3 ?_
      rw [hL]
      refine j_iload_n d_Md_order_32 rfl ?_
      refine j_iload_n d_Md_order_33 rfl ?_
      refine j_icmp_ge (tgt := 163) d_Md_order_34 (by decide) (fun c => absurd c (nI_ge (by omega) (by omega))) (fun c => ?_)
      refine j_iload_n d_Md_order_37 rfl ?_
      refine j_istore_n d_Md_order_38 (by decide) ?_
      refine j_iconst (v := 0) d_Md_order_39 (by decide) ?_
      refine j_istore d_Md_order_40 (by decide) ?_
      refine j_aload_n d_Md_order_42 rfl ?_
      refine m_get d_Md_order_43 fl_Md_13 rfl ?_
      rw [show upd v 20 (nI cnt) 3 = nI N from p1]
      refine j_iconst (v := 1) d_Md_order_46 (by decide) ?_
      refine j_isub d_Md_order_47 ?_
      refine j_istore d_Md_order_48 (by decide) ?_
      have inner : ∀ (k2 k : Nat) (F : Nat → Nat → Int32), k + k2 = N → OrP F f N cnt code k → J E m_Md_order 0 0 0 50 [(0, .ref mo), (1, .int (nI (N ^ N))), (2, .int (nI code)), (3, .int (nI (code / N ^ k))), (4, .int (snT N code k)), (5, .int (nI (N - k) - 1))] [] (hM E h mo (upd v 20 (nI cnt)) F) n (OrQ E h n mo v f N) := by
        intro k2
        induction k2 with
        | zero =>
          intro k F hk R
          have hk : k = N := by omega
          subst hk
          refine j_iload d_Md_order_50 rfl ?_
          refine j_if_lt (tgt := 121) d_Md_order_52 (by decide) (fun c => ?_) (fun c => absurd (by rw [Nat.sub_self]; decide) c)
          refine j_iload d_Md_order_121 rfl ?_
          refine j_iconst (v := 1) d_Md_order_123 (by decide) ?_
          refine j_aload_n d_Md_order_124 rfl ?_
          refine m_get d_Md_order_125 fl_Md_13 rfl ?_
          rw [show upd v 20 (nI cnt) 3 = nI k from p1]
          refine j_ishl d_Md_order_128 ?_
          refine j_iconst (v := 1) d_Md_order_129 (by decide) ?_
          refine j_isub d_Md_order_130 ?_
          refine j_icmp_eq (tgt := 137) d_Md_order_131 (by decide) (fun c => ?_) (fun c => ?_)
          · have pm : pmT k code = true := by unfold pmT; exact beq_iff_eq.mpr c
            have ck3 := ck2.2
            rw [if_pos pm, Bool.and_eq_true, Bool.and_eq_true, decide_eq_true_iff, List.all_eq_true] at ck3
            obtain ⟨⟨c1, c2⟩, c3⟩ := ck3
            have R2 := R.full p5 c1 (fun j hj => beq_iff_eq.mp (c2 j (List.mem_range.mpr hj)))
            refine j_aload_n d_Md_order_137 rfl ?_
            refine j_dup d_Md_order_138 rfl ?_
            refine m_get d_Md_order_139 fl_Md_147 rfl ?_
            refine j_iconst (v := 1) d_Md_order_142 (by decide) ?_
            refine j_iadd d_Md_order_143 ?_
            rw [show upd v 20 (nI cnt) 20 = nI cnt from rfl, nI_1]
            refine m_put d_Md_order_144 fl_Md_147 rfl rfl hb rfl rfl ?_
            rw [upd_upd]
            refine j_aload_n d_Md_order_147 rfl ?_
            refine m_get d_Md_order_148 fl_Md_147 rfl ?_
            refine j_bipush (v := 24) d_Md_order_151 (by decide) ?_
            rw [show upd v 20 (nI (cnt + 1)) 20 = nI (cnt + 1) from rfl]
            refine j_icmp_ne (tgt := 157) d_Md_order_153 (by decide) (fun d => ?_) (fun d => ?_)
            · have ne : ¬ cnt + 1 = 24 := fun q => d (by rw [q]; rfl)
              rw [if_neg ne] at c3
              refine j_iinc (v := nI (code + 1)) d_Md_order_157 rfl (nI_succ code).symm (by decide) ?_
              refine j_goto (tgt := 32) d_Md_order_160 (by decide) ?_
              exact ih (code + 1) (cnt + 1) F (by omega) c3 R2 _ rfl
            · have eq : cnt + 1 = 24 := (nI_eq (b := 24) (by omega) (by decide)).mp d
              rw [if_pos eq] at c3
              have e24 : cT k = 24 := beq_iff_eq.mp c3
              rw [eq, ← e24] at R2 ⊢
              exact j_vret d_Md_order_156 rfl ⟨rfl, rfl, F, rfl, R2.fin p5⟩
          · have pm : pmT k code = false := by unfold pmT; exact beq_eq_false_iff_ne.mpr c
            have ck3 := ck2.2
            rw [if_neg (by rw [pm]; decide)] at ck3
            refine j_goto (tgt := 157) d_Md_order_134 (by decide) ?_
            refine j_iinc (v := nI (code + 1)) d_Md_order_157 rfl (nI_succ code).symm (by decide) ?_
            refine j_goto (tgt := 32) d_Md_order_160 (by decide) ?_
            exact ih (code + 1) cnt F (by omega) ck3 R.1 _ rfl
        | succ k2 ih2 =>
          intro k F hk R
          have e1 : nI (N - k) - 1 = nI (N - 1 - k) := by rw [show N - k = (N - 1 - k) + 1 by omega]; exact nI_pred _
          have hx : code / N ^ k < 2 ^ 31 := Nat.lt_of_le_of_lt (Nat.div_le_self _ _) (by omega)
          have hdd := ddT_lt (N := N) (code := code) (k := k) p5.1
          rw [e1]
          refine j_iload d_Md_order_50 rfl ?_
          refine j_if_lt (tgt := 121) d_Md_order_52 (by decide) (fun c => absurd c (nI_pos (by omega))) (fun c => ?_)
          refine j_aload_n d_Md_order_55 rfl ?_
          refine m_get d_Md_order_56 fl_Md_41 rfl ?_
          refine j_iconst (v := 4) d_Md_order_59 (by decide) ?_
          refine j_aload_n d_Md_order_60 rfl ?_
          refine m_get d_Md_order_61 fl_Md_147 rfl ?_
          refine j_imul d_Md_order_64 ?_
          refine j_iload d_Md_order_65 rfl ?_
          refine j_iadd d_Md_order_67 ?_
          refine j_iload_n d_Md_order_68 rfl ?_
          refine j_aload_n d_Md_order_69 rfl ?_
          refine m_get d_Md_order_70 fl_Md_13 rfl ?_
          rw [show upd v 20 (nI cnt) 3 = nI N from p1, show upd v 20 (nI cnt) 20 = nI cnt from rfl]
          refine j_irem d_Md_order_73 hne ?_
          rw [nI_rem hx (by omega), show code / N ^ k % N = ddT N code k from rfl]
          refine m_ast4 (k := 10) (N := 96) d_Md_order_74 (by decide) rfl hb (by omega) (by decide) ?_
          refine j_aload_n d_Md_order_75 rfl ?_
          refine m_get d_Md_order_76 fl_Md_44 rfl ?_
          refine j_iconst (v := 4) d_Md_order_79 (by decide) ?_
          refine j_aload_n d_Md_order_80 rfl ?_
          refine m_get d_Md_order_81 fl_Md_147 rfl ?_
          refine j_imul d_Md_order_84 ?_
          refine j_iload_n d_Md_order_85 rfl ?_
          refine j_aload_n d_Md_order_86 rfl ?_
          refine m_get d_Md_order_87 fl_Md_13 rfl ?_
          rw [show upd v 20 (nI cnt) 3 = nI N from p1, show upd v 20 (nI cnt) 20 = nI cnt from rfl]
          refine j_irem d_Md_order_90 hne ?_
          rw [nI_rem hx (by omega), show code / N ^ k % N = ddT N code k from rfl]
          refine j_iadd d_Md_order_91 ?_
          refine j_iload d_Md_order_92 rfl ?_
          refine m_ast4 (k := 11) (N := 96) d_Md_order_94 (by decide) rfl hb (by omega) (by decide) ?_
          refine j_iload d_Md_order_95 rfl ?_
          refine j_iconst (v := 1) d_Md_order_97 (by decide) ?_
          refine j_iload_n d_Md_order_98 rfl ?_
          refine j_aload_n d_Md_order_99 rfl ?_
          refine m_get d_Md_order_100 fl_Md_13 rfl ?_
          rw [show upd v 20 (nI cnt) 3 = nI N from p1]
          refine j_irem d_Md_order_103 hne ?_
          rw [nI_rem hx (by omega), show code / N ^ k % N = ddT N code k from rfl]
          refine j_ishl d_Md_order_104 ?_
          refine j_ior d_Md_order_105 ?_
          refine j_istore d_Md_order_106 (by decide) ?_
          refine j_iload_n d_Md_order_108 rfl ?_
          refine j_aload_n d_Md_order_109 rfl ?_
          refine m_get d_Md_order_110 fl_Md_13 rfl ?_
          rw [show upd v 20 (nI cnt) 3 = nI N from p1]
          refine j_idiv d_Md_order_113 hne ?_
          rw [nI_div hx (by omega), Nat.div_div_eq_div_mul, ← Nat.pow_succ]
          refine j_istore_n d_Md_order_114 (by decide) ?_
          refine j_iinc (v := nI (N - (k + 1)) - 1) d_Md_order_115 rfl ((dec1 _).trans (by rw [show N - (k + 1) = N - 1 - k by omega])) (by decide) ?_
          refine j_goto (tgt := 50) d_Md_order_118 (by decide) ?_
          exact ih2 (k + 1) _ (by omega) (R.step p5 (by omega))
      have := inner N 0 F (by omega) ⟨R, fun j hj => absurd hj (by omega), fun _ j hj => absurd hj (by omega)⟩
      rw [Nat.pow_zero, Nat.div_one] at this
      exact this
  have pre : ∀ (k i : Nat), i + k = N → J E m_Md_order 0 0 0 9 [(0, .ref mo), (1, .int (nI (N ^ i))), (2, .int (nI i))] [] (hM E h mo (upd v 20 0) f) n (OrQ E h n mo v f N) := by
    intro k
    induction k with
    | zero =>
      intro i hi
      have hi : i = N := by omega
      subst hi
      refine j_iload_n d_Md_order_9 rfl ?_
      refine j_aload_n d_Md_order_10 rfl ?_
      refine m_get d_Md_order_11 fl_Md_13 rfl ?_
      rw [show upd v 20 0 3 = nI i from p1]
      refine j_icmp_ge (tgt := 30) d_Md_order_14 (by decide) (fun c => ?_) (fun c => absurd (nI_le (Nat.le_refl _) (by omega)) c)
      refine j_iconst (v := 0) d_Md_order_30 (by decide) ?_
      refine j_istore_n d_Md_order_31 (by decide) ?_
      exact outer (i ^ i) 0 0 f (by omega) (chk_ok p5.1 p5.2) ⟨fun _ _ _ => rfl, fun o t ho => absurd ho (by omega)⟩ _ rfl
    | succ k ih =>
      intro i hi
      refine j_iload_n d_Md_order_9 rfl ?_
      refine j_aload_n d_Md_order_10 rfl ?_
      refine m_get d_Md_order_11 fl_Md_13 rfl ?_
      rw [show upd v 20 0 3 = nI N from p1]
      refine j_icmp_ge (tgt := 30) d_Md_order_14 (by decide) (fun c => absurd c (nI_ge (by omega) (by omega))) (fun c => ?_)
      refine j_iload_n d_Md_order_17 rfl ?_
      refine j_aload_n d_Md_order_18 rfl ?_
      refine m_get d_Md_order_19 fl_Md_13 rfl ?_
      rw [show upd v 20 0 3 = nI N from p1]
      refine j_imul d_Md_order_22 ?_
      rw [pk_mul, ← Nat.pow_succ]
      refine j_istore_n d_Md_order_23 (by decide) ?_
      refine j_iinc (v := nI (i + 1)) d_Md_order_24 rfl (nI_succ i).symm (by decide) ?_
      refine j_goto (tgt := 9) d_Md_order_27 (by decide) ?_
      exact ih (i + 1) (by omega)
  refine j_aload_n d_Md_order_0 rfl ?_
  refine j_iconst (v := 0) d_Md_order_1 (by decide) ?_
  refine m_put d_Md_order_2 fl_Md_147 rfl rfl hb rfl rfl ?_
  refine j_iconst (v := 1) d_Md_order_5 (by decide) ?_
  refine j_istore_n d_Md_order_6 (by decide) ?_
  refine j_iconst (v := 0) d_Md_order_7 (by decide) ?_
  refine j_istore_n d_Md_order_8 (by decide) ?_
  exact pre N 0 (by omega)
end MOR

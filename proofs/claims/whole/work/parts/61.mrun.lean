section MRU
variable {E : EV} {h : HP} {n mo N K M cc : Nat} {v : Nat → Int32} {f : Nat → Nat → Int32} {φ : Nat → PhiT}
/-- how many below i -/
def cnF (P : Nat → Bool) : Nat → Nat
  | 0 => 0
  | i + 1 => cnF P i + (if P i = true then 1 else 0)
set_option maxRecDepth 10000 in
theorem cnF_le (P : Nat → Bool) : ∀ i, cnF P i ≤ i
  | 0 => Nat.le_refl _
  | i + 1 => by have := cnF_le P i; unfold cnF; split <;> omega
/-- state st is an answer -/
def okS (N K M cc : Nat) (φ : Nat → PhiT) (st : Nat) : Bool := decide (∀ c, c < cc → Hs N K M φ st c = true)
/-- only clue c fails in state st -/
def olS (N K M cc : Nat) (φ : Nat → PhiT) (c st : Nat) : Bool := decide (Hs N K M φ st c = false ∧ ∀ c', c' < cc → c' ≠ c → Hs N K M φ st c' = true)
set_option maxRecDepth 10000 in
theorem KnF.cg {v' : Nat → Int32} {f' : Nat → Nat → Int32} (q : KnF v f N K M cc φ) (h0 : v' 20 = v 20) (h1 : f' 10 = f 10) (h2 : f' 11 = f 11) (h3 : f' 12 = f 12) : KnF v' f' N K M cc φ := by
  obtain ⟨a, b, c, d⟩ := q
  exact ⟨h0.trans a, fun o t ho ht => by rw [h1]; exact b o t ho ht, fun o t ho ht => by rw [h2]; exact c o t ho ht, fun st hs p hp => by rw [h3]; exact d st hs p hp⟩
set_option maxRecDepth 10000 in
theorem KnF.ans {st : Nat} (q : KnF v f N K M cc φ) (h20 : cc ≤ 20) (hs : st < stN N K M) : (f 12 st = 1 <<< (nI cc &&& 31) - 1) ↔ okS N K M cc φ st = true := by
  unfold okS
  rw [decide_eq_true_iff]
  constructor
  · intro e c hc
    have := q.2.2.2 st hs c (by omega)
    rw [e, tb_full (by omega) (by omega), decide_eq_true hc, Bool.true_and] at this
    exact this.symm
  · intro a
    refine tb_ext (fun p hp => ?_)
    rw [q.2.2.2 st hs p hp, tb_full (by omega) hp]
    by_cases e : p < cc
    · rw [a p e, Bool.and_true]
    · rw [decide_eq_false e, Bool.false_and]
set_option maxRecDepth 10000 in
theorem KnF.onl {st c : Nat} (q : KnF v f N K M cc φ) (h20 : cc ≤ 20) (hs : st < stN N K M) (hc : c < cc) : (f 12 st = ((1 : Int32) <<< (nI cc &&& 31) - 1) &&& (((1 : Int32) <<< (nI c &&& 31)) ^^^ (-1))) ↔ olS N K M cc φ c st = true := by
  unfold olS
  rw [decide_eq_true_iff]
  have e : ∀ p, p < 32 → tb (((1 : Int32) <<< (nI cc &&& 31) - 1) &&& (((1 : Int32) <<< (nI c &&& 31)) ^^^ (-1))) p = (decide (p < cc) && !decide (p = c)) := fun p hp => by
    rw [tb_and, tb_full (by omega) hp, tb_not _ hp, tb_shl (by omega) hp]
  constructor
  · intro a
    refine ⟨?_, fun c' hc' ne => ?_⟩
    · have := q.2.2.2 st hs c (by omega)
      rw [a, e c (by omega), decide_eq_true hc, decide_eq_true rfl] at this
      exact this.symm
    · have := q.2.2.2 st hs c' (by omega)
      rw [a, e c' (by omega), decide_eq_true hc', decide_eq_false ne] at this
      exact this.symm
  · intro a
    refine tb_ext (fun p hp => ?_)
    rw [q.2.2.2 st hs p hp, e p hp]
    by_cases e1 : p < cc
    · by_cases e2 : p = c
      · subst e2; rw [a.1, decide_eq_true rfl]; rfl
      · rw [a.2 p e1 e2, decide_eq_false e2]; rfl
    · rw [decide_eq_false e1, Bool.false_and, Bool.false_and]
set_option maxRecDepth 10000 in
theorem c_Md_isA {st : Nat} (P : MP v N K M cc) (q : KnF v f N K M cc φ) (hs : st < stN N K M) : Ct E m_Md_isAnswer 0 0 0 [.ref mo, .int (nI st)] (hM E h mo v f) n (Rt (some (.int (bI (okS N K M cc φ st = true)))) (hM E h mo v f) n) := by
  have hsz := stN_le (N := N) P.2.2.2.2.2.1 P.2.2.2.2.2.2.1
  have := c_Md_isAnswer (E := E) (h := h) (n := n) (mo := mo) (f := f) P (st := st) (by omega)
  have e : bI (f 12 st = 1 <<< (nI cc &&& 31) - 1) = bI (okS N K M cc φ st = true) := by
    by_cases z : okS N K M cc φ st = true
    · rw [bI_t z, bI_t ((q.ans P.2.2.2.2.2.2.2 hs).mpr z)]
    · rw [bI_f z, bI_f (fun w => z ((q.ans P.2.2.2.2.2.2.2 hs).mp w))]
  rw [e] at this
  exact this
/-- the kept answers -/
def AnR (f : Nat → Nat → Int32) (ok : Nat → Bool) (S kp : Nat) : Prop := ∀ j, j < kp → ∃ st, st < S ∧ ok st = true ∧ cnF ok st = j ∧ f 14 j = nI st
def RuQ (E : EV) (h : HP) (n mo : Nat) (v : Nat → Int32) (f : Nat → Nat → Int32) (N K M cc : Nat) (φ : Nat → PhiT) : Option Value → HP → Nat → Prop := fun r h' n' => n' = n ∧ r = some (.int (nI (cnF (okS N K M cc φ) (stN N K M)))) ∧ ∃ v' f', h' = hM E h mo v' f' ∧ KnF v' f' N K M cc φ ∧ v' 23 = 1 ∧ v' 0 = 0 ∧ v' 27 = nI (min 100 (cnF (okS N K M cc φ) (stN N K M))) ∧ AnR f' (okS N K M cc φ) (stN N K M) (min 100 (cnF (okS N K M cc φ) (stN N K M))) ∧ (∀ j, j ≠ 0 → j ≠ 20 → j ≠ 23 → j ≠ 27 → v' j = v j) ∧ ∀ j, j < 10 ∨ 14 < j → f' j = f j
set_option maxRecDepth 10000 in
theorem c_Md_run (hb : E.2.2.2.1 ≤ mo) (P : MP v N K M cc) (C : MCl f N K M cc φ) (hk : v 23 = 0 ∨ (v 23 = 1 ∧ KnF v f N K M cc φ)) : Ct E m_Md_run 4 0 0 [.ref mo] (hM E h mo v f) n (RuQ E h n mo v f N K M cc φ) := by
  have hsz := stN_le (N := N) P.2.2.2.2.2.1 P.2.2.2.2.2.2.1
  refine Ct.go rfl rfl rfl ?_
  refine j_aload_n d_Md_run_0 rfl ?_
  refine j_iconst (v := 0) d_Md_run_1 (by decide) ?_
  refine m_put d_Md_run_2 fl_Md_79 rfl rfl hb rfl rfl ?_
  refine j_aload_n d_Md_run_5 rfl ?_
  refine m_callV (As := []) d_Md_run_6 cb_Md_169 vv_Md_know rfl rfl rfl (Nat.le_of_ble_eq_true rfl) (d' := 3) (by decide) (c_Md_know (φ := φ) hb (P.up (k := 0) (by decide)) C (hk.imp id (fun q => ⟨q.1, q.2.cg rfl rfl rfl rfl⟩))) (fun w h' n' q _ => ?_)
  obtain ⟨rfl, rfl, u, F, rfl, kn, u23, uo, hF⟩ := q
  have P1 : MP u N K M cc := ⟨(uo 3 (by decide) (by decide)).trans P.1, (uo 4 (by decide) (by decide)).trans P.2.1, (uo 5 (by decide) (by decide)).trans P.2.2.1, (uo 6 (by decide) (by decide)).trans P.2.2.2.1, P.2.2.2.2⟩
  refine j_aload_n d_Md_run_9 rfl ?_
  refine j_iconst (v := 0) d_Md_run_10 (by decide) ?_
  refine m_put d_Md_run_11 fl_Md_89 rfl rfl hb rfl rfl ?_
  refine j_iconst (v := 0) d_Md_run_14 (by decide) ?_
  refine j_istore_n d_Md_run_15 (by decide) ?_
  refine j_iconst (v := 0) d_Md_run_16 (by decide) ?_
  refine j_istore_n d_Md_run_17 (by decide) ?_
  have loop : ∀ (k i : Nat) (G : Nat → Nat → Int32), i + k = stN N K M → (∀ j, j ≠ 14 → G j = F j) → AnR G (okS N K M cc φ) i (min 100 (cnF (okS N K M cc φ) i)) → J E m_Md_run 4 0 0 18 [(0, .ref mo), (1, .int (nI (cnF (okS N K M cc φ) i))), (2, .int (nI i))] [] (hM E h mo (upd u 27 (nI (min 100 (cnF (okS N K M cc φ) i)))) G) n' (RuQ E h n' mo v f N K M cc φ) := by
    intro k
    induction k with
    | zero =>
      intro i G hi hG hA
      have hi : i = stN N K M := by omega
      have kn2 : KnF (upd u 27 (nI (min 100 (cnF (okS N K M cc φ) i)))) G N K M cc φ := kn.cg rfl (hG _ (by decide)) (hG _ (by decide)) (hG _ (by decide))
      refine j_iload_n d_Md_run_18 rfl ?_
      refine j_aload_n d_Md_run_19 rfl ?_
      refine m_pV (As := []) d_Md_run_20 cb_Md_163 vv_Md_states rfl rfl rfl (Nat.le_of_ble_eq_true rfl) (d' := 0) (by decide) (c_Md_states (P1.up (by decide)) kn2.1) ?_
      refine j_icmp_ge (tgt := 78) d_Md_run_23 (by decide) (fun _ => ?_) (fun q => absurd (nI_le (by omega) (by omega)) q)
      refine j_iload_n d_Md_run_78 rfl ?_
      rw [hi] at hA kn2 ⊢
      refine j_iret d_Md_run_79 rfl ⟨rfl, rfl, _, G, rfl, kn2, u23, (uo 0 (by decide) (by decide)), rfl, hA, fun j h1 h2 h3 h4 => ?_, fun j hj => ?_⟩
      · rw [upd_nn _ _ h4, uo j h2 h3, upd_nn _ _ h1]
      · rw [hG j (by omega)]; exact hF j (by omega)
    | succ k ih =>
      intro i G hi hG hA
      have hci := cnF_le (okS N K M cc φ) i
      have kn2 : KnF (upd u 27 (nI (min 100 (cnF (okS N K M cc φ) i)))) G N K M cc φ := kn.cg rfl (hG _ (by decide)) (hG _ (by decide)) (hG _ (by decide))
      refine j_iload_n d_Md_run_18 rfl ?_
      refine j_aload_n d_Md_run_19 rfl ?_
      refine m_pV (As := []) d_Md_run_20 cb_Md_163 vv_Md_states rfl rfl rfl (Nat.le_of_ble_eq_true rfl) (d' := 0) (by decide) (c_Md_states (P1.up (by decide)) kn2.1) ?_
      refine j_icmp_ge (tgt := 78) d_Md_run_23 (by decide) (fun q => absurd q (nI_ge (by omega) (by omega))) (fun _ => ?_)
      refine j_aload_n d_Md_run_26 rfl ?_
      refine j_iload_n d_Md_run_27 rfl ?_
      refine m_pV (As := [.int (nI i)]) d_Md_run_28 cb_Md_172 vv_Md_isAnswer rfl rfl rfl (Nat.le_of_ble_eq_true rfl) (d' := 0) (by decide) (c_Md_isA (P1.up (by decide)) kn2 (by omega)) ?_
      refine j_if_ne (tgt := 37) d_Md_run_31 (by decide) (fun q => ?_) (fun q => ?_)
      · have ok := bI_ne q
        have e1 : cnF (okS N K M cc φ) (i + 1) = cnF (okS N K M cc φ) i + 1 := by rw [cnF, if_pos ok]
        refine j_iinc (v := nI (cnF (okS N K M cc φ) i + 1)) d_Md_run_37 rfl (nI_succ _).symm (by decide) ?_
        refine j_aload_n d_Md_run_40 rfl ?_
        refine m_get d_Md_run_41 fl_Md_89 rfl ?_
        refine j_bipush (v := 100) d_Md_run_44 (by decide) ?_
        rw [show upd u 27 (nI (min 100 (cnF (okS N K M cc φ) i))) 27 = nI (min 100 (cnF (okS N K M cc φ) i)) from rfl]
        refine j_icmp_ne (tgt := 52) d_Md_run_46 (by decide) (fun q2 => ?_) (fun q2 => ?_)
        · have lt : cnF (okS N K M cc φ) i < 100 := by
            refine Nat.lt_of_not_le (fun z => q2 ?_)
            rw [Nat.min_eq_left z]; rfl
          have em : min 100 (cnF (okS N K M cc φ) i) = cnF (okS N K M cc φ) i := Nat.min_eq_right (by omega)
          have em2 : min 100 (cnF (okS N K M cc φ) i + 1) = cnF (okS N K M cc φ) i + 1 := Nat.min_eq_right (by omega)
          rw [em] at hA ⊢
          refine j_aload_n d_Md_run_52 rfl ?_
          refine m_get d_Md_run_53 fl_Md_55 rfl ?_
          refine j_aload_n d_Md_run_56 rfl ?_
          refine m_get d_Md_run_57 fl_Md_89 rfl ?_
          rw [show upd u 27 (nI (cnF (okS N K M cc φ) i)) 27 = nI (cnF (okS N K M cc φ) i) from rfl]
          refine j_iload_n d_Md_run_60 rfl ?_
          refine m_ast (k := 14) (N := 100) d_Md_run_61 (by decide) rfl hb (by omega) (by decide) ?_
          refine j_aload_n d_Md_run_62 rfl ?_
          refine j_dup d_Md_run_63 rfl ?_
          refine m_get d_Md_run_64 fl_Md_89 rfl ?_
          refine j_iconst (v := 1) d_Md_run_67 (by decide) ?_
          rw [show upd u 27 (nI (cnF (okS N K M cc φ) i)) 27 = nI (cnF (okS N K M cc φ) i) from rfl]
          refine j_iadd d_Md_run_68 ?_
          rw [nI_1]
          refine m_put d_Md_run_69 fl_Md_89 rfl rfl hb rfl rfl ?_
          rw [upd_upd]
          refine j_iinc (v := nI (i + 1)) d_Md_run_72 rfl (nI_succ i).symm (by decide) ?_
          refine j_goto (tgt := 18) d_Md_run_75 (by decide) ?_
          have := ih (i + 1) (upG G 14 (upd (G 14) (cnF (okS N K M cc φ) i) (nI i))) (by omega) (fun j hj => by rw [upG_n _ _ hj]; exact hG j hj) (fun j hj => ?_)
          · rw [e1, em2] at this
            exact this
          · rw [e1, em2] at hj
            show ∃ st, st < i + 1 ∧ okS N K M cc φ st = true ∧ cnF (okS N K M cc φ) st = j ∧ upd (G 14) (cnF (okS N K M cc φ) i) (nI i) j = nI st
            by_cases e : j = cnF (okS N K M cc φ) i
            · subst e
              exact ⟨i, by omega, ok, rfl, upd_ss _ _ _⟩
            · obtain ⟨st, a1, a2, a3, a4⟩ := hA j (by omega)
              exact ⟨st, by omega, a2, a3, by rw [upd_nn _ _ e]; exact a4⟩
        · have ge : 100 ≤ cnF (okS N K M cc φ) i := by
            have := (nI_eq (b := 100) (by omega) (by decide)).mp q2
            omega
          have em : min 100 (cnF (okS N K M cc φ) i) = 100 := Nat.min_eq_left ge
          have em2 : min 100 (cnF (okS N K M cc φ) i + 1) = 100 := Nat.min_eq_left (by omega)
          refine j_goto (tgt := 72) d_Md_run_49 (by decide) ?_
          refine j_iinc (v := nI (i + 1)) d_Md_run_72 rfl (nI_succ i).symm (by decide) ?_
          refine j_goto (tgt := 18) d_Md_run_75 (by decide) ?_
          have := ih (i + 1) G (by omega) hG (fun j hj => ?_)
          · rw [e1, em2, ← em] at this
            exact this
          · rw [e1, em2, ← em] at hj
            obtain ⟨st, a1, a2⟩ := hA j hj
            exact ⟨st, by omega, a2⟩
      · have ok : ¬ okS N K M cc φ i = true := bI_eq q
        have e1 : cnF (okS N K M cc φ) (i + 1) = cnF (okS N K M cc φ) i := by rw [cnF, if_neg ok]; rfl
        refine j_goto (tgt := 72) d_Md_run_34 (by decide) ?_
        refine j_iinc (v := nI (i + 1)) d_Md_run_72 rfl (nI_succ i).symm (by decide) ?_
        refine j_goto (tgt := 18) d_Md_run_75 (by decide) ?_
        have := ih (i + 1) G (by omega) hG (fun j hj => ?_)
        · rw [e1] at this
          exact this
        · rw [e1] at hj
          obtain ⟨st, a1, a2⟩ := hA j hj
          exact ⟨st, by omega, a2⟩
  exact loop (stN N K M) 0 F (by omega) (fun _ _ => rfl) (fun j hj => absurd hj (by simp [cnF]))
end MRU
